theorem dep_lt {k : Int} {j : Nat} (h : dep k j) : j < 28 := by
  unfold dep at h
  (repeat' split at h) <;> omega
theorem Hp.cg {w : xH} {A : xA} {S S' : xS} {ln : Nat → Int} (h : Rel w A S ln) (e : ∀ j, j < 28 → S' j = S j) : Rel w A S' ln := by
  have eu := us_cg (S := S) (S' := S') (e 0 (by omega)) (e 1 (by omega))
  refine Hp.to h (fun k i q => ⟨by rw [← eu]; exact q, rfl⟩) (fun k i f x q g => ?_)
  rw [← g]
  exact (Fv_dep (fun j hj => e j (dep_lt hj))).symm
section KS
variable {P : xP} {w : xH} {Q : Option Value → xH → Prop} {A : xA} {S : xS} {ln : Nat → Int}
set_option maxHeartbeats 8000000 in
theorem k_changePriority (h : Rel w A S (lid S)) (hI : Inv S) {t : Nat} (ht : t < 16) (h0 : S 10 t ≠ 0) {prio : Int} (hp : 0 ≤ prio ∧ prio ≤ 3) (hQ : ∀ w', Rel w' A (s_cf2 S t prio) (lid (s_cf2 S t prio)) → Fr w w' 0 → Q none w') : WP P 46 0 [some (.ref (A 12 0)), some (.ref (A 2 (8 * (t : Int)))), some (.int (xi prio))] [] w Q := by
  have hR := hI.1.1
  have hA := hI.1.2.1
  have hut : us S 2 (8 * (t : Int)) := us_thi (by omega) (by omega) ((hI.1.2.2.2.2.2.1 t ht).2.1.1 h0)
  have tb := hI.1.2.2.2.2.2.2.1 t ht h0
  obtain ⟨z0, z1, z2, z3, z4, z5, z6, -⟩ := h.thr hut
  rw [Int.toNat_natCast] at z5 z6
  have hz : x_has w (A 2 (8 * (t : Int))) [2] := ⟨_, _, z0, by decide⟩
  unfold s_cf2 at hQ
  rw [Int.toNat_natCast] at hQ
  by_cases c1 : S 13 t = prio
  · rw [if_pos c1, ← c1, sset_self] at hQ
    simp (disch := first | exact hR _ _ | exact x01a | exact x01b | (unfold x_r; omega) | assumption | omega) only [wK_changePriority_0, wK_changePriority_1, wK_changePriority_2, wK_changePriority_5, wK_changePriority_8, hz, z5, c1, x_gi_int, x_ga_ref, x_ga_null, List.getElem?_cons_zero, List.getElem?_cons_succ, List.length_cons, List.length_nil, List.set_cons_zero, List.set_cons_succ, Nat.reduceAdd, Nat.reduceLT, xr_lt, xr_eq, xr_toInt, xr_0, xi_add, xi_sub, xi_mul, xr_div, xr_rm, Int.toNat_natCast, bd_t, true_and, and_true, not_false_eq_true, ↓reduceIte, ilt_t, ilt_f, ile_t, x_c1i, x_c1r, x_c1n, and_self, Option.toList_some, Option.toList_none, List.cons_append, List.nil_append, xr_01, xr_00, ieq_f, ieq_t]
    exact hQ w h (Fr.refl w)
  rw [if_neg c1] at hQ
  have c1' : ¬ prio = S 13 t := fun x => c1 x.symm
  have h1 := h.tint hA hut (j := 13) (f := 4) (v := prio) (by omega)
  have fr1 := h.frp (Fr.refl w) hut 4 (.int (xi prio))
  by_cases c2 : S 10 t = 2
  · rw [if_pos c2] at hQ
    simp (disch := first | exact hR _ _ | exact x01a | exact x01b | (unfold x_r; omega) | assumption | omega) only [wK_changePriority_0, wK_changePriority_1, wK_changePriority_2, wK_changePriority_5, wK_changePriority_9, wK_changePriority_10, wK_changePriority_11, wK_changePriority_14, wK_changePriority_15, wK_changePriority_18, wK_changePriority_19, wK_changePriority_22, x_has_put, x_fd_put, x_f0, hz, z5, z6, c1', c2, sset_at, Nat.reduceEqDiff, false_and, and_false, eq_self, and_self, reduceCtorEq, x_gi_int, x_ga_ref, x_ga_null, List.getElem?_cons_zero, List.getElem?_cons_succ, List.length_cons, List.length_nil, List.set_cons_zero, List.set_cons_succ, Nat.reduceAdd, Nat.reduceLT, xr_lt, xr_eq, xr_toInt, xr_0, xi_add, xi_sub, xi_mul, xr_div, xr_rm, Int.toNat_natCast, bd_t, true_and, and_true, not_false_eq_true, ↓reduceIte, ilt_t, ilt_f, ile_t, x_c1i, x_c1r, x_c1n, and_self, Option.toList_some, Option.toList_none, List.cons_append, List.nil_append, xr_01, xr_00, ieq_f, ieq_t]
    have eu := us_cg (S := S) (S' := sset S 13 t prio) (sset_o (by omega)) (sset_o (by omega))
    have hA1 : CapA (sset S 13 t prio) := hA.cg (sset_o (by omega)) (sset_o (by omega)) (sset_o (by omega)) (sset_o (by omega)) (sset_o (by omega)) (sset_o (by omega))
    have q := hI.lnI
    have hI1 : LnI (sset S 13 t prio) (lid S) := by
      refine ⟨q.1, fun k hk g => by rw [eu]; exact q.2.1 k hk g, fun x y hx hy hne g g' => ?_⟩
      rw [sset_o (by omega)]
      exact q.2.2 x y hx hy hne g g'
    refine wK_changePriority_23 (by simp) rfl rfl (k_leaveLine h1 hA1 hI1 ht (by rw [eu]; exact hut) (fun w2 h2 fr2 ft2 => ?_))
    have so : ∀ j, j ≠ 28 → j ≠ 18 → j ≠ 13 → sset (sset (sset S 28 0 (S 28 0 + 1)) 18 t (S 28 0 + 1)) 13 t prio j = S j := by
      intro j a1 a2 a3
      rw [sset_o a3, sset_o a2, sset_o a1]
    have st : sset (sset (sset S 28 0 (S 28 0 + 1)) 18 t (S 28 0 + 1)) 13 t prio 13 t = prio ∧ sset (sset (sset S 28 0 (S 28 0 + 1)) 18 t (S 28 0 + 1)) 13 t prio 18 t = S 28 0 + 1 := by
      simp [sset_at]
    have si : ∀ j i, j ≠ 28 → i ≠ t → sset (sset (sset S 28 0 (S 28 0 + 1)) 18 t (S 28 0 + 1)) 13 t prio j i = S j i := by
      intro j i a1 a2
      simp [sset_at, a1, a2]
    have lT : lid (sset (sset (sset S 28 0 (S 28 0 + 1)) 18 t (S 28 0 + 1)) 13 t prio) = lup (lid S) t prio := by
      funext k
      unfold lid
      by_cases d : k = t
      · rw [d, lup_t, so 10 (by omega) (by omega) (by omega), c2, if_neg (by omega), if_pos rfl, st.1]
      · rw [lup_o d, si _ _ (by omega) d, si _ _ (by omega) d, si _ _ (by omega) d]
    generalize sset (sset (sset S 28 0 (S 28 0 + 1)) 18 t (S 28 0 + 1)) 13 t prio = T at *
    have eu2 := us_cg (S := S) (S' := T) (so 0 (by omega) (by omega) (by omega)) (so 1 (by omega) (by omega) (by omega))
    have lt : lup (lid S) t (-1) t = -1 := lup_t _ _ _
    have h3 : Rel w2 A T (lup (lid S) t (-1)) := by
      refine Hp.tset (S := sset S 13 t prio) h2 hA1 ht lt (fun j hj => by rw [so j (by omega) (by omega) (by omega), sset_o (by omega)]) (fun j i j1 j2 hi => by rw [si j i (by omega) hi, sset_at, if_neg (fun x => hi x.2)]) (by rw [sset_o (by omega)]; exact h0) (by rw [so 10 (by omega) (by omega) (by omega)]; exact h0) (fun k i f c => rfl) ?_
      intro f v g
      rw [Fv_thr, ← g]
      refine (Fthr_18 (by rw [lv_me, lv_me]) (fun j j1 j2 j3 j4 => ?_) f).symm
      by_cases d : j = 13
      · rw [d, st.1, sset_at, if_pos ⟨rfl, rfl⟩]
      · rw [so j (by omega) j3 d, sset_o d]
    have hA2 : CapA T := hA.cg (so 0 (by omega) (by omega) (by omega)) (so 1 (by omega) (by omega) (by omega)) (so 2 (by omega) (by omega) (by omega)) (so 3 (by omega) (by omega) (by omega)) (so 5 (by omega) (by omega) (by omega)) (so 6 (by omega) (by omega) (by omega))
    have q1 := q.up t
    have hI2 : LnI T (lup (lid S) t (-1)) := by
      refine ⟨q1.1, fun k hk g => by rw [eu2]; exact q1.2.1 k hk g, fun x y hx hy hne g g' => ?_⟩
      have nx : x ≠ t := fun c => by rw [c, lup_t] at g; omega
      have ny : y ≠ t := fun c => by rw [c, lup_t] at g'; omega
      rw [si _ _ (by omega) nx, si _ _ (by omega) ny]
      exact q1.2.2 x y hx hy hne g g'
    obtain ⟨⟨t0, t1, t2, t3, t4⟩, f0, f1, f2, f3⟩ := h2.ker
    have hk : x_has w2 (A 12 0) [0] := ⟨_, _, t0, by decide⟩
    have r1 := h2.rls (q := prio.toNat) (by omega)
    rw [show ((prio.toNat : Nat) : Int) = prio by omega] at r1
    have ec := x_cle (e := prio) (by omega) (by omega)
    have nn := x_nn (e := prio) (by omega) (by omega)
    have nc := x_clt (e := prio) (n := 4) (by omega) (by omega) (by omega)
    simp (disch := first | exact hR _ _ | exact x01a | exact x01b | (unfold x_r; omega) | assumption | omega) only [wK_changePriority_26, wK_changePriority_27, wK_changePriority_28, wK_changePriority_31, wK_changePriority_32 t3 (by omega) nn nc, hk, f2, ec, r1, x_gi_int, x_ga_ref, x_ga_null, List.getElem?_cons_zero, List.getElem?_cons_succ, List.length_cons, List.length_nil, List.set_cons_zero, List.set_cons_succ, Nat.reduceAdd, Nat.reduceLT, xr_lt, xr_eq, xr_toInt, xr_0, xi_add, xi_sub, xi_mul, xr_div, xr_rm, Int.toNat_natCast, bd_t, true_and, and_true, not_false_eq_true, ↓reduceIte, ilt_t, ilt_f, ile_t, x_c1i, x_c1r, x_c1n, and_self, Option.toList_some, Option.toList_none, List.cons_append, List.nil_append, xr_01, xr_00, ieq_f, ieq_t]
    refine wK_changePriority_33 (by simp) rfl rfl (k_joinLine (t := t) h3 hA2 hI2 ⟨ht, by omega, lt, fun k hk g => ?_, hI2.2.2⟩ (by rw [eu2]; exact hut) (by rw [eu2]; exact us_lin (Or.inl ⟨by omega, by omega⟩)) (fun w3 h3 fr3 => ?_))
    · have nx : k ≠ t := fun c => by rw [c, lup_t] at g; omega
      rw [lup_o nx] at g
      rw [si _ _ (by omega) nx, st.2]
      have := hI.tc k (by assumption) (by omega)
      omega
    · simp (disch := first | exact hR _ _ | exact x01a | exact x01b | (unfold x_r; omega) | assumption | omega) only [wK_changePriority_36, x_gi_int, x_ga_ref, x_ga_null, List.getElem?_cons_zero, List.getElem?_cons_succ, List.length_cons, List.length_nil, List.set_cons_zero, List.set_cons_succ, Nat.reduceAdd, Nat.reduceLT, xr_lt, xr_eq, xr_toInt, xr_0, xi_add, xi_sub, xi_mul, xr_div, xr_rm, Int.toNat_natCast, bd_t, true_and, and_true, not_false_eq_true, ↓reduceIte, ilt_t, ilt_f, ile_t, x_c1i, x_c1r, x_c1n, and_self, Option.toList_some, Option.toList_none, List.cons_append, List.nil_append, xr_01, xr_00, ieq_f, ieq_t]
      rw [lup_lup, ← lT] at h3
      exact hQ w3 h3 ((fr1.trans (k := 0) fr2 (by omega)).trans fr3 (by omega))
  · rw [if_neg c2] at hQ
    simp (disch := first | exact hR _ _ | exact x01a | exact x01b | (unfold x_r; omega) | assumption | omega) only [wK_changePriority_0, wK_changePriority_1, wK_changePriority_2, wK_changePriority_5, wK_changePriority_9, wK_changePriority_10, wK_changePriority_11, wK_changePriority_14, wK_changePriority_15, wK_changePriority_18, wK_changePriority_19, wK_changePriority_36, x_has_put, x_fd_put, x_f0, hz, z5, z6, c1', c2, sset_at, Nat.reduceEqDiff, false_and, and_false, eq_self, and_self, reduceCtorEq, x_gi_int, x_ga_ref, x_ga_null, List.getElem?_cons_zero, List.getElem?_cons_succ, List.length_cons, List.length_nil, List.set_cons_zero, List.set_cons_succ, Nat.reduceAdd, Nat.reduceLT, xr_lt, xr_eq, xr_toInt, xr_0, xi_add, xi_sub, xi_mul, xr_div, xr_rm, Int.toNat_natCast, bd_t, true_and, and_true, not_false_eq_true, ↓reduceIte, ilt_t, ilt_f, ile_t, x_c1i, x_c1r, x_c1n, and_self, Option.toList_some, Option.toList_none, List.cons_append, List.nil_append, xr_01, xr_00, ieq_f, ieq_t]
    have e18 : sset (sset S 28 0 (S 28 0 + 1)) 18 t (S 18 t) = sset S 28 0 (S 28 0 + 1) := by
      have := sset_self (sset S 28 0 (S 28 0 + 1)) 18 t
      rw [show sset S 28 0 (S 28 0 + 1) 18 t = S 18 t by rw [sset_o (by omega)]] at this
      exact this
    rw [e18] at hQ
    have eT : ∀ j, j < 28 → sset (sset S 28 0 (S 28 0 + 1)) 13 t prio j = sset S 13 t prio j := by
      intro j hj
      funext i
      by_cases d : j = 13 ∧ i = t
      · rw [sset_at, if_pos d, sset_at, if_pos d]
      · rw [sset_at, if_neg d, sset_at, if_neg (by omega), sset_at, if_neg d]
    refine hQ _ ?_ fr1
    have lT : lid (sset (sset S 28 0 (S 28 0 + 1)) 13 t prio) = lid S := by
      funext k
      unfold lid
      rw [sset_o (j' := 10) (by omega), sset_o (j' := 10) (by omega), sset_o (j' := 19) (by omega), sset_o (j' := 19) (by omega)]
      by_cases d : k = t
      · rw [d]
        by_cases d2 : S 10 t < 2
        · rw [if_pos d2, if_pos d2]
        · rw [if_neg d2, if_neg d2, if_neg c2, if_neg c2]
      · rw [show sset (sset S 28 0 (S 28 0 + 1)) 13 t prio 13 k = S 13 k by rw [sset_at, if_neg (fun x => d x.2), sset_o (by omega)]]
    rw [lT]
    exact h1.cg eT
end KS
