theorem Fthr_all {A : xA} {S : xS} {ln : Nat → Int} {u : Int} {t : Nat} {p : Nat → Value → Prop} (h0 : p 0 (.int (xi 2))) (h1 : p 1 (.int (xi u))) (h2 : p 2 (pv (S 11 t) (A 1 (S 11 t)))) (h3 : p 3 (pv (S 12 t) (A 5 (S 12 t)))) (h4 : p 4 (.int (xi (S 13 t)))) (h5 : p 5 (.int (xi (S 10 t)))) (h6 : p 6 (.int (xi (S 14 t)))) (h7 : p 7 (.int (xi (S 15 t)))) (h8 : p 8 (.int (xi (S 16 t)))) (h9 : p 9 (.int (xi (S 17 t)))) (h10 : p 10 (pv (ln t) (A 9 (ln t)))) (h11 : p 11 (pv (nxtL S ln t) (A 2 (8 * nxtL S ln t))))
    (h12 : S 10 t = 3 → p 12 (.int (xi (S 21 t)))) (h13 : S 10 t = 3 → p 13 (.int (xi (S 22 t)))) (h14 : S 10 t = 3 → p 14 (.int (xi (S 23 t)))) (h15 : S 10 t = 3 ∨ S 10 t = 4 → p 15 (.int (xi (S 20 t)))) : ∀ f v, Fthr A S ln u t f = some v → p f v := by
  intro f v e
  unfold Fthr at e
  by_cases c0 : f = 0
  · rw [if_pos c0] at e; rw [c0, ← Option.some.inj e]; exact h0
  rw [if_neg c0] at e
  by_cases c1 : f = 1
  · rw [if_pos c1] at e; rw [c1, ← Option.some.inj e]; exact h1
  rw [if_neg c1] at e
  by_cases c2 : f = 2
  · rw [if_pos c2] at e; rw [c2, ← Option.some.inj e]; exact h2
  rw [if_neg c2] at e
  by_cases c3 : f = 3
  · rw [if_pos c3] at e; rw [c3, ← Option.some.inj e]; exact h3
  rw [if_neg c3] at e
  by_cases c4 : f = 4
  · rw [if_pos c4] at e; rw [c4, ← Option.some.inj e]; exact h4
  rw [if_neg c4] at e
  by_cases c5 : f = 5
  · rw [if_pos c5] at e; rw [c5, ← Option.some.inj e]; exact h5
  rw [if_neg c5] at e
  by_cases c6 : f = 6
  · rw [if_pos c6] at e; rw [c6, ← Option.some.inj e]; exact h6
  rw [if_neg c6] at e
  by_cases c7 : f = 7
  · rw [if_pos c7] at e; rw [c7, ← Option.some.inj e]; exact h7
  rw [if_neg c7] at e
  by_cases c8 : f = 8
  · rw [if_pos c8] at e; rw [c8, ← Option.some.inj e]; exact h8
  rw [if_neg c8] at e
  by_cases c9 : f = 9
  · rw [if_pos c9] at e; rw [c9, ← Option.some.inj e]; exact h9
  rw [if_neg c9] at e
  by_cases c10 : f = 10
  · rw [if_pos c10] at e; rw [c10, ← Option.some.inj e]; exact h10
  rw [if_neg c10] at e
  by_cases c11 : f = 11
  · rw [if_pos c11] at e; rw [c11, ← Option.some.inj e]; exact h11
  rw [if_neg c11] at e
  by_cases c12 : f = 12
  · rw [if_pos c12] at e
    by_cases d : S 10 t = 3
    · rw [if_pos d] at e; rw [c12, ← Option.some.inj e]; exact h12 d
    · rw [if_neg d] at e; cases e
  rw [if_neg c12] at e
  by_cases c13 : f = 13
  · rw [if_pos c13] at e
    by_cases d : S 10 t = 3
    · rw [if_pos d] at e; rw [c13, ← Option.some.inj e]; exact h13 d
    · rw [if_neg d] at e; cases e
  rw [if_neg c13] at e
  by_cases c14 : f = 14
  · rw [if_pos c14] at e
    by_cases d : S 10 t = 3
    · rw [if_pos d] at e; rw [c14, ← Option.some.inj e]; exact h14 d
    · rw [if_neg d] at e; cases e
  rw [if_neg c14] at e
  by_cases c15 : f = 15
  · rw [if_pos c15] at e
    by_cases d : S 10 t = 3 ∨ S 10 t = 4
    · rw [if_pos d] at e; rw [c15, ← Option.some.inj e]; exact h15 d
    · rw [if_neg d] at e; cases e
  rw [if_neg c15] at e
  cases e
section KM
variable {P : xP} {w : xH} {Q : Option Value → xH → Prop} {A : xA} {S : xS} {ln : Nat → Int}
set_option maxHeartbeats 4000000 in
theorem k_becomeStoppedU {U : Int → Int → Prop} (h : Hp w A U (xFv A S ln)) (hU2 : ∀ u, U 2 u → ∃ t : Nat, t < 16 ∧ u = 8 * (t : Int)) (hU9 : ∀ l, U 9 l → 0 ≤ l) (hR : RgS S) (hI : LnU U S ln) {t : Nat} (ht : t < 16) (hu : U 2 (8 * (t : Int))) (h0 : S 10 t ≠ 0) (hQ : ∀ w', Hp w' A U (xFv A (sset S 10 t 1) (lup ln t (-1))) → Fr w w' 0 → Q none w') : WP P 35 0 [some (.ref (A 2 (8 * (t : Int))))] [] w Q := by
  simp (disch := first | exact hR _ _ | exact x01a | exact x01b | (unfold x_r; omega) | assumption | omega) only [wK_becomeStopped_0, x_gi_int, x_ga_ref, x_ga_null, List.getElem?_cons_zero, List.getElem?_cons_succ, List.length_cons, List.length_nil, List.set_cons_zero, List.set_cons_succ, Nat.reduceAdd, Nat.reduceLT, xr_lt, xr_eq, xr_toInt, xr_0, xi_add, xi_sub, xi_mul, xr_div, xr_rm, Int.toNat_natCast, bd_t, true_and, and_true, not_false_eq_true, ↓reduceIte, ilt_t, ilt_f, ile_t, x_c1i, x_c1r, x_c1n, and_self, Option.toList_some, Option.toList_none, List.cons_append, List.nil_append, xr_01, xr_00, ieq_f, ieq_t]
  refine wK_becomeStopped_1 (by simp) rfl rfl (k_leaveLineU h hU2 hU9 hI ht hu (fun w1 h1 fr1 ft1 => ?_))
  obtain ⟨z0, -⟩ := h1.thr hu
  have hz : x_has w1 (A 2 (8 * (t : Int))) [2] := ⟨_, _, z0, by decide⟩
  have lt : lup ln t (-1) t = -1 := lup_t _ _ _
  simp (disch := first | exact hR _ _ | exact x01a | exact x01b | (unfold x_r; omega) | assumption | omega) only [wK_becomeStopped_4, wK_becomeStopped_5, wK_becomeStopped_6, wK_becomeStopped_9, x_has_put, x_f0, hz, x_gi_int, x_ga_ref, x_ga_null, List.getElem?_cons_zero, List.getElem?_cons_succ, List.length_cons, List.length_nil, List.set_cons_zero, List.set_cons_succ, Nat.reduceAdd, Nat.reduceLT, xr_lt, xr_eq, xr_toInt, xr_0, xi_add, xi_sub, xi_mul, xr_div, xr_rm, Int.toNat_natCast, bd_t, true_and, and_true, not_false_eq_true, ↓reduceIte, ilt_t, ilt_f, ile_t, x_c1i, x_c1r, x_c1n, and_self, Option.toList_some, Option.toList_none, List.cons_append, List.nil_append, xr_01, xr_00, ieq_f, ieq_t]
  have so : ∀ j, j ≠ 10 → sset S 10 t 1 j = S j := fun j hj => sset_o hj
  have st : sset S 10 t 1 10 t = 1 := by rw [sset_at, if_pos ⟨rfl, rfl⟩]
  refine hQ _ (Hp.tsetU (S := S) (h1.put hu 5 _) hU2 hU9 ht lt (fun j hj => so j (by omega)) (fun j i j1 j2 hi => ?_) h0 (by rw [st]; omega) (fun k i f c => ?_) ?_) (h1.frp fr1 hu 5 _)
  · rw [sset_at, if_neg (fun x => hi x.2)]
  · rw [fup_n (fun x => c ⟨x.1, x.2.1⟩)]
  · have nx : nxtL (sset S 10 t 1) (lup ln t (-1)) t = nxtL S (lup ln t (-1)) t := by rw [lv_me, lv_me]
    refine Fthr_all (p := fun f v => fup (xFv A S (lup ln t (-1))) 2 (8 * (t : Int)) 5 (.int (xi 1)) 2 (8 * (t : Int)) f = some v) ?_ ?_ ?_ ?_ ?_ ?_ ?_ ?_ ?_ ?_ ?_ ?_ (fun c => ?_) (fun c => ?_) (fun c => ?_) (fun c => ?_)
    all_goals first
      | (exfalso; omega)
      | (rw [fup_n (by omega), Fv_thr, so _ (by omega)]; rfl)
      | (rw [fup_n (by omega), Fv_thr]; rfl)
      | (rw [fup_n (by omega), Fv_thr, nx]; rfl)
      | (rw [fup_e, st])
theorem k_becomeStopped (h : Rel w A S ln) (hA : CapA S) (hR : RgS S) (hI : LnI S ln) {t : Nat} (ht : t < 16) (hu : us S 2 (8 * (t : Int))) (h0 : S 10 t ≠ 0) (hQ : ∀ w', Rel w' A (sset S 10 t 1) (lup ln t (-1)) → Fr w w' 0 → Q none w') : WP P 35 0 [some (.ref (A 2 (8 * (t : Int))))] [] w Q := by
  have eu := us_cg (S := S) (S' := sset S 10 t 1) (sset_o (by omega)) (sset_o (by omega))
  refine k_becomeStoppedU h (fun _ u => us_2 hA u) (fun _ u => us_9 hA u) hR hI ht hu h0 (fun w' h' fr => hQ w' ?_ fr)
  unfold Rel
  rw [eu]
  exact h'
set_option maxHeartbeats 8000000 in
theorem k_becomeWaiting (h : Rel w A S ln) (hA : CapA S) (hR : RgS S) (hI : LnI S ln) {t : Nat} {how u a : Int} (ht : t < 16) (hu : us S 2 (8 * (t : Int))) (h0 : S 10 t ≠ 0) (hh : 3 ≤ how ∧ how ≤ 5) (hul : us S 9 (u + 4)) (hc : ∀ k, k < 16 → 0 ≤ ln k → S 18 k ≤ S 28 0)
    (hf3 : how = 3 → x_fd w (A 2 (8 * (t : Int))) 12 = .int (xi (S 21 t)) ∧ x_fd w (A 2 (8 * (t : Int))) 13 = .int (xi (S 22 t)) ∧ x_fd w (A 2 (8 * (t : Int))) 14 = .int (xi (S 23 t))) (hf4 : how = 3 ∨ how = 4 → x_fd w (A 2 (8 * (t : Int))) 15 = .int (xi a))
    (hQ : ∀ w', Rel w' A (s_waits S t how u a) (lup ln t (u + 4)) → Fr w w' 0 → Q none w') : WP P 50 0 [some (.ref (A 2 (8 * (t : Int)))), some (.int (xi how)), some (.ref (A 9 (u + 4)))] [] w Q := by
  simp (disch := first | exact hR _ _ | exact x01a | exact x01b | (unfold x_r; omega) | assumption | omega) only [wK_becomeWaiting_0, x_gi_int, x_ga_ref, x_ga_null, List.getElem?_cons_zero, List.getElem?_cons_succ, List.length_cons, List.length_nil, List.set_cons_zero, List.set_cons_succ, Nat.reduceAdd, Nat.reduceLT, xr_lt, xr_eq, xr_toInt, xr_0, xi_add, xi_sub, xi_mul, xr_div, xr_rm, Int.toNat_natCast, bd_t, true_and, and_true, not_false_eq_true, ↓reduceIte, ilt_t, ilt_f, ile_t, x_c1i, x_c1r, x_c1n, and_self, Option.toList_some, Option.toList_none, List.cons_append, List.nil_append, xr_01, xr_00, ieq_f, ieq_t]
  refine wK_becomeWaiting_1 (by simp) rfl rfl (k_leaveLine h hA hI ht hu (fun w1 h1 fr1 ft1 => ?_))
  obtain ⟨z0, -⟩ := h1.thr hu
  obtain ⟨y0, -⟩ := h.thr hu
  have hz : x_has w1 (A 2 (8 * (t : Int))) [2] := ⟨_, _, z0, by decide⟩
  have lt : lup ln t (-1) t = -1 := lup_t _ _ _
  simp (disch := first | exact hR _ _ | exact x01a | exact x01b | (unfold x_r; omega) | assumption | omega) only [wK_becomeWaiting_4, wK_becomeWaiting_5, wK_becomeWaiting_6, wK_becomeWaiting_9, wK_becomeWaiting_10, x_has_put, x_f0, hz, x_gi_int, x_ga_ref, x_ga_null, List.getElem?_cons_zero, List.getElem?_cons_succ, List.length_cons, List.length_nil, List.set_cons_zero, List.set_cons_succ, Nat.reduceAdd, Nat.reduceLT, xr_lt, xr_eq, xr_toInt, xr_0, xi_add, xi_sub, xi_mul, xr_div, xr_rm, Int.toNat_natCast, bd_t, true_and, and_true, not_false_eq_true, ↓reduceIte, ilt_t, ilt_f, ile_t, x_c1i, x_c1r, x_c1n, and_self, Option.toList_some, Option.toList_none, List.cons_append, List.nil_append, xr_01, xr_00, ieq_f, ieq_t]
  have so : ∀ j, j ≠ 10 → j ≠ 19 → j ≠ 20 → j ≠ 28 → j ≠ 18 → s_waits S t how u a j = S j := by
    intro j a1 a2 a3 a4 a5
    unfold s_waits
    rw [sset_o a5, sset_o a4, sset_o a3, sset_o a2, sset_o a1]
  have si : ∀ j i, j ≠ 28 → i ≠ t → s_waits S t how u a j i = S j i := by
    intro j i a1 a2
    unfold s_waits
    simp [sset_at, a1, a2]
  have st : s_waits S t how u a 10 t = how ∧ s_waits S t how u a 20 t = a ∧ s_waits S t how u a 18 t = S 28 0 + 1 := by
    unfold s_waits
    simp [sset_at]
  have nx : nxtL (s_waits S t how u a) (lup ln t (-1)) t = nxtL S (lup ln t (-1)) t := by rw [lv_me, lv_me]
  -- the heap as it is, with the fields that nobody has asked for till now
  let F : Int → Int → Nat → Option Value := fun k i f => if k = 2 ∧ i = 8 * (t : Int) ∧ 12 ≤ f then some (x_fd w (A 2 (8 * (t : Int))) f) else xFv A S (lup ln t (-1)) k i f
  have h1F : Hp w1 A (us S) F := by
    obtain ⟨a1, a2, a3, a4⟩ := h1
    refine ⟨a1, a2, fun k i f v uu e => ?_, a4⟩
    by_cases c : k = 2 ∧ i = 8 * (t : Int) ∧ 12 ≤ f
    · have e : some (x_fd w (A 2 (8 * (t : Int))) f) = some v := by rw [← e]; exact (if_pos c).symm
      rw [c.1, c.2.1, ft1 _ f y0 (by omega) (by omega)]
      exact Option.some.inj e
    · have e : xFv A S (lup ln t (-1)) k i f = some v := by rw [← e]; exact (if_neg c).symm
      exact a3 k i f v uu e
  have Fn : ∀ k i f, ¬ (k = 2 ∧ i = 8 * (t : Int) ∧ 12 ≤ f) → F k i f = xFv A S (lup ln t (-1)) k i f := fun k i f c => if_neg c
  have Fy : ∀ f, 12 ≤ f → F 2 (8 * (t : Int)) f = some (x_fd w (A 2 (8 * (t : Int))) f) := fun f c => if_pos ⟨rfl, rfl, c⟩
  have h2 : Rel (x_put w1 (A 2 (8 * (t : Int))) 5 (.int (xi how))) A (s_waits S t how u a) (lup ln t (-1)) := by
    refine Hp.tset (S := S) (h1F.put hu 5 _) hA ht lt (fun j hj => so j (by omega) (by omega) (by omega) (by omega) (by omega)) (fun j i j1 j2 hi => si j i (by omega) hi) h0 (by rw [st.1]; omega) (fun k i f c => ?_) ?_
    · rw [fup_n (fun x => c ⟨x.1, x.2.1⟩), Fn k i f (fun x => c ⟨x.1, x.2.1⟩)]
    · refine Fthr_all (p := fun f v => fup F 2 (8 * (t : Int)) 5 (.int (xi how)) 2 (8 * (t : Int)) f = some v) ?_ ?_ ?_ ?_ ?_ ?_ ?_ ?_ ?_ ?_ ?_ ?_ (fun c => ?_) (fun c => ?_) (fun c => ?_) (fun c => ?_)
      · rw [fup_n (by omega), Fn _ _ _ (by omega), Fv_thr]; rfl
      · rw [fup_n (by omega), Fn _ _ _ (by omega), Fv_thr]; rfl
      · rw [fup_n (by omega), Fn _ _ _ (by omega), Fv_thr, so 11 (by omega) (by omega) (by omega) (by omega) (by omega)]; rfl
      · rw [fup_n (by omega), Fn _ _ _ (by omega), Fv_thr, so 12 (by omega) (by omega) (by omega) (by omega) (by omega)]; rfl
      · rw [fup_n (by omega), Fn _ _ _ (by omega), Fv_thr, so 13 (by omega) (by omega) (by omega) (by omega) (by omega)]; rfl
      · rw [fup_e, st.1]
      · rw [fup_n (by omega), Fn _ _ _ (by omega), Fv_thr, so 14 (by omega) (by omega) (by omega) (by omega) (by omega)]; rfl
      · rw [fup_n (by omega), Fn _ _ _ (by omega), Fv_thr, so 15 (by omega) (by omega) (by omega) (by omega) (by omega)]; rfl
      · rw [fup_n (by omega), Fn _ _ _ (by omega), Fv_thr, so 16 (by omega) (by omega) (by omega) (by omega) (by omega)]; rfl
      · rw [fup_n (by omega), Fn _ _ _ (by omega), Fv_thr, so 17 (by omega) (by omega) (by omega) (by omega) (by omega)]; rfl
      · rw [fup_n (by omega), Fn _ _ _ (by omega), Fv_thr]; rfl
      · rw [fup_n (by omega), Fn _ _ _ (by omega), Fv_thr, nx]; rfl
      · rw [st.1] at c
        rw [fup_n (by omega), Fy _ (by omega), (hf3 c).1, so 21 (by omega) (by omega) (by omega) (by omega) (by omega)]
      · rw [st.1] at c
        rw [fup_n (by omega), Fy _ (by omega), (hf3 c).2.1, so 22 (by omega) (by omega) (by omega) (by omega) (by omega)]
      · rw [st.1] at c
        rw [fup_n (by omega), Fy _ (by omega), (hf3 c).2.2, so 23 (by omega) (by omega) (by omega) (by omega) (by omega)]
      · rw [st.1] at c
        rw [fup_n (by omega), Fy _ (by omega), hf4 c, st.2.1]
  have s0 : ∀ j, j < 10 → s_waits S t how u a j = S j := fun j hj => so j (by omega) (by omega) (by omega) (by omega) (by omega)
  have eu := us_cg (S := S) (S' := s_waits S t how u a) (s0 0 (by omega)) (s0 1 (by omega))
  have hA' : CapA (s_waits S t how u a) := hA.cg (s0 0 (by omega)) (s0 1 (by omega)) (s0 2 (by omega)) (s0 3 (by omega)) (s0 5 (by omega)) (s0 6 (by omega))
  have hI1 := hI.up t
  have hI' : LnI (s_waits S t how u a) (lup ln t (-1)) := by
    refine ⟨hI1.1, fun k hk g => by rw [eu]; exact hI1.2.1 k hk g, fun x y hx hy hne g g' => ?_⟩
    have nx : x ≠ t := fun c => by rw [c, lup_t] at g; omega
    have ny : y ≠ t := fun c => by rw [c, lup_t] at g'; omega
    rw [si _ _ (by omega) nx, si _ _ (by omega) ny]
    exact hI1.2.2 x y hx hy hne g g'
  have ul0 := us_9 hA hul
  refine wK_becomeWaiting_11 (by simp) rfl rfl (k_joinLine (t := t) h2 hA' hI' ⟨ht, ul0, lt, fun k hk g => ?_, hI'.2.2⟩ (by rw [eu]; exact hu) (by rw [eu]; exact hul) (fun w3 h3 fr3 => ?_))
  · have nx : k ≠ t := fun c => by rw [c, lup_t] at g; omega
    rw [lup_o nx] at g
    rw [si _ _ (by omega) nx, st.2.2]
    have := hc k hk (by omega)
    omega
  · simp (disch := first | exact hR _ _ | exact x01a | exact x01b | (unfold x_r; omega) | assumption | omega) only [wK_becomeWaiting_14, x_gi_int, x_ga_ref, x_ga_null, List.getElem?_cons_zero, List.getElem?_cons_succ, List.length_cons, List.length_nil, List.set_cons_zero, List.set_cons_succ, Nat.reduceAdd, Nat.reduceLT, xr_lt, xr_eq, xr_toInt, xr_0, xi_add, xi_sub, xi_mul, xr_div, xr_rm, Int.toNat_natCast, bd_t, true_and, and_true, not_false_eq_true, ↓reduceIte, ilt_t, ilt_f, ile_t, x_c1i, x_c1r, x_c1n, and_self, Option.toList_some, Option.toList_none, List.cons_append, List.nil_append, xr_01, xr_00, ieq_f, ieq_t]
    rw [lup_lup] at h3
    exact hQ w3 h3 (Fr.trans (h1.frp fr1 hu 5 _) fr3 (by omega))
end KM
