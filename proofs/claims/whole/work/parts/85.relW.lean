/-- which arrays a sort's fields are made of -/
def dep (k : Int) (j : Nat) : Prop := if k = 0 then (j = 0 ∨ j = 1 ∨ j = 4 ∨ j = 5 ∨ j = 6) else if k = 2 then (10 ≤ j ∧ j < 24) else if k < 8 then (j = 24 ∨ j = 25 ∨ j = 26) else if k = 8 then (j < 5 ∨ j = 7 ∨ j = 8 ∨ j = 9) else if k = 9 then j = 18 else if k = 10 then (j = 0 ∨ j = 1 ∨ j = 25 ∨ j = 26) else if k = 11 then (j = 0 ∨ j = 7 ∨ j = 8) else (j = 0 ∨ j = 10 ∨ j = 27)
theorem Fv_dep {A : xA} {S S' : xS} {ln : Nat → Int} {k i : Int} {f : Nat} (h : ∀ j, dep k j → S' j = S j) : xFv A S' ln k i f = xFv A S ln k i f := by
  unfold dep at h
  unfold xFv
  by_cases k0 : k = 0
  · simp only [if_pos k0] at h ⊢
    unfold Funt s_children
    rw [h 0 (by omega), h 1 (by omega), h 4 (by omega), h 5 (by omega), h 6 (by omega)]
  simp only [if_neg k0] at h ⊢
  by_cases k2 : k = 2
  · simp only [if_pos k2] at h ⊢
    unfold Fthr nxtL
    rw [h 10 (by omega), h 11 (by omega), h 12 (by omega), h 13 (by omega), h 14 (by omega), h 15 (by omega), h 16 (by omega), h 17 (by omega), h 18 (by omega), h 20 (by omega), h 21 (by omega), h 22 (by omega), h 23 (by omega)]
  simp only [if_neg k2] at h ⊢
  by_cases k8 : k < 8
  · simp only [if_pos k8] at h ⊢
    unfold Fthi
    rw [h 24 (by omega), h 25 (by omega), h 26 (by omega)]
  simp only [if_neg k8] at h ⊢
  by_cases k8' : k = 8
  · simp only [if_pos k8'] at h ⊢
    unfold Fcap thA
    rw [h 0 (by omega), h 1 (by omega), h 2 (by omega), h 3 (by omega), h 4 (by omega), h 7 (by omega), h 8 (by omega), h 9 (by omega)]
  simp only [if_neg k8'] at h ⊢
  by_cases k9 : k = 9
  · simp only [if_pos k9] at h ⊢
    unfold Flin fstL lstL
    rw [h 18 (by omega)]
  simp only [if_neg k9] at h ⊢
  by_cases k10 : k = 10
  · simp only [if_pos k10] at h ⊢
    unfold s_leafOf
    rw [lfL_cg (h 0 (by omega)) (h 1 (by omega)) (h 25 (by omega)) (h 26 (by omega))]
  simp only [if_neg k10] at h ⊢
  by_cases k11 : k = 11
  · simp only [if_pos k11] at h ⊢
    unfold s_frameOf
    rw [frL_cg (h 0 (by omega)) (h 7 (by omega)) (h 8 (by omega))]
  simp only [if_neg k11] at h ⊢
  unfold Fker
  rw [h 0 (by omega), h 10 (by omega), h 27 (by omega)]
theorem dep_no {k : Int} {j : Nat} : (j = 27 → dep k j → ¬ (k ≤ 11)) ∧ (j = 9 → dep k j → k = 8) ∧ ((j = 2 ∨ j = 3) → dep k j → k = 8) ∧ ((j = 5 ∨ j = 6) → dep k j → k = 0) ∧ ((j = 7 ∨ j = 8) → dep k j → (k = 8 ∨ k = 11)) ∧ (j = 4 → dep k j → (k = 0 ∨ k = 8)) ∧ ((j = 25 ∨ j = 26) → dep k j → ((k < 8 ∧ k ≠ 0 ∧ k ≠ 2) ∨ k = 10)) ∧ (j = 24 → dep k j → (k < 8 ∧ k ≠ 0 ∧ k ≠ 2)) := by
  unfold dep
  refine ⟨fun e h c => ?_, fun e h => ?_, fun e h => ?_, fun e h => ?_, fun e h => ?_, fun e h => ?_, fun e h => ?_, fun e h => ?_⟩ <;> (repeat' split at h) <;> omega
theorem us_le {S : xS} {k i : Int} (h : us S k i) : 0 ≤ k ∧ k ≤ 12 := by
  unfold us at h
  omega
theorem us_12 {S : xS} {i : Int} (h : us S 12 i) : 0 ≤ i ∧ i ≤ 4 := by
  unfold us at h
  omega
theorem Hp.bnd {w : xH} {A : xA} {S : xS} {ln : Nat → Int} (h : Rel w A S ln) {n : Nat} {v : Int} : Rel (x_put w (A 12 4) n (pv v (A 4 v))) A (sset S 27 n v) ln := by
  have e : ∀ j, j ≠ 27 → sset S 27 n v j = S j := fun j hj => sset_o hj
  have eu := us_cg (S := S) (S' := sset S 27 n v) (e 0 (by omega)) (e 1 (by omega))
  refine Hp.to (h.put (us_ker (i := 4) (by omega)) n (pv v (A 4 v))) (fun k i q => ⟨by rw [← eu]; exact q, rfl⟩) (fun k i f x q g => ?_)
  rw [eu] at q
  have k12 := us_le q
  by_cases c : k = 12
  · rw [c] at q g ⊢
    have i4 := us_12 q
    by_cases d : i = 4
    · rw [d] at g ⊢
      by_cases ef : f = n
      · rw [ef, fup_e]
        rw [ef] at g
        have g : (if n < 4 then some (pv (sset S 27 n v 27 n) (A 4 (sset S 27 n v 27 n))) else none) = some x := g
        rw [show sset S 27 n v 27 n = v by rw [sset_at, if_pos ⟨rfl, rfl⟩]] at g
        split at g
        · exact g
        · cases g
      · rw [fup_n (fun x => ef x.2.2), ← g]
        show Fker A S 4 f = Fker A (sset S 27 n v) 4 f
        unfold Fker
        rw [e 0 (by omega), e 10 (by omega), show sset S 27 n v 27 f = S 27 f by rw [sset_at, if_neg (fun x => ef x.2)]]
    · rw [fup_n (fun x => d x.2.1), ← g]
      show Fker A S i f = Fker A (sset S 27 n v) i f
      unfold Fker
      rw [e 0 (by omega), e 10 (by omega)]
      by_cases i0 : i = 0
      · simp only [if_pos i0]
      by_cases i1 : i = 1
      · simp only [if_neg i0, if_pos i1]
      by_cases i2 : i = 2
      · simp only [if_neg i0, if_neg i1, if_pos i2]
      by_cases i3 : i = 3
      · simp only [if_neg i0, if_neg i1, if_neg i2, if_pos i3]
      omega
  · rw [fup_n (fun x => c x.1), ← g]
    exact (Fv_dep (fun j hj => e j (fun z => by have := dep_no.1 z hj; omega))).symm
section KR
variable {P : xP} {w : xH} {Q : Option Value → xH → Prop} {A : xA} {S : xS} {ln : Nat → Int}
set_option maxHeartbeats 8000000 in
theorem k_bind (h : Rel w A S (lid S)) (hI : Inv S) {n b : Int} (hn' : x_r n) (hb : x_r b) {l3 l4 : Option Value} (hQ : ∀ w', Rel w' A (s_bind S n b).2 (lid (s_bind S n b).2) → Fr w w' 0 → Q (some (.int (xi (s_bind S n b).1))) w') : WP P 64 0 [some (.ref (A 12 0)), some (.int (xi n)), some (.int (xi b)), l3, l4] [] w Q := by
  obtain ⟨⟨t0, t1, t2, t3, t4⟩, f0, f1, f2, f3⟩ := h.ker
  have hk : x_has w (A 12 0) [0] := ⟨_, _, t0, by decide⟩
  have hR := hI.1.1
  have hA := hI.1.2.1
  have hn := s_now_in S
  unfold s_bind at hQ
  simp (disch := first | exact hR _ _ | exact x01a | exact x01b | (unfold x_r; omega) | assumption | omega) only [wK_bind_0, x_gi_int, x_ga_ref, x_ga_null, List.getElem?_cons_zero, List.getElem?_cons_succ, List.length_cons, List.length_nil, List.set_cons_zero, List.set_cons_succ, Nat.reduceAdd, Nat.reduceLT, xr_lt, xr_eq, xr_toInt, xr_0, xi_add, xi_sub, xi_mul, xr_div, xr_rm, Int.toNat_natCast, bd_t, true_and, and_true, not_false_eq_true, ↓reduceIte, ilt_t, ilt_f, ile_t, x_c1i, x_c1r, x_c1n, and_self, Option.toList_some, Option.toList_none, List.cons_append, List.nil_append, xr_01, xr_00, ieq_f, ieq_t]
  refine wK_bind_1 t0 (by simp) rfl rfl (k_currentThread h hI ?_)
  by_cases c1 : s_now S < 0
  · rw [if_pos c1] at hQ
    rw [pv_n c1]
    simp (disch := first | exact hR _ _ | exact x01a | exact x01b | (unfold x_r; omega) | assumption | omega) only [wK_bind_4, wK_bind_4n, wK_bind_5, wK_bind_6n, wK_bind_6, wK_bind_9, wK_bind_11, x_gi_int, x_ga_ref, x_ga_null, List.getElem?_cons_zero, List.getElem?_cons_succ, List.length_cons, List.length_nil, List.set_cons_zero, List.set_cons_succ, Nat.reduceAdd, Nat.reduceLT, xr_lt, xr_eq, xr_toInt, xr_0, xi_add, xi_sub, xi_mul, xr_div, xr_rm, Int.toNat_natCast, bd_t, true_and, and_true, not_false_eq_true, ↓reduceIte, ilt_t, ilt_f, ile_t, x_c1i, x_c1r, x_c1n, and_self, Option.toList_some, Option.toList_none, List.cons_append, List.nil_append, xr_01, xr_00, ieq_f, ieq_t]
    exact hQ w h (Fr.refl w)
  rw [if_neg c1] at hQ
  rw [pv_r c1]
  obtain ⟨n1, n2⟩ := now_is c1
  have hb0 := hb
  unfold x_r at hn' hb
  by_cases c2 : n < 0
  · rw [if_pos c2] at hQ
    simp (disch := first | exact hR _ _ | exact x01a | exact x01b | (unfold x_r; omega) | assumption | omega) only [wK_bind_4, wK_bind_4n, wK_bind_5, wK_bind_6n, wK_bind_6, wK_bind_12, wK_bind_13, wK_bind_21, wK_bind_22, x_gi_int, x_ga_ref, x_ga_null, List.getElem?_cons_zero, List.getElem?_cons_succ, List.length_cons, List.length_nil, List.set_cons_zero, List.set_cons_succ, Nat.reduceAdd, Nat.reduceLT, xr_lt, xr_eq, xr_toInt, xr_0, xi_add, xi_sub, xi_mul, xr_div, xr_rm, Int.toNat_natCast, bd_t, true_and, and_true, not_false_eq_true, ↓reduceIte, ilt_t, ilt_f, ile_t, x_c1i, x_c1r, x_c1n, and_self, Option.toList_some, Option.toList_none, List.cons_append, List.nil_append, xr_01, xr_00, ieq_f, ieq_t]
    exact hQ w h (Fr.refl w)
  rw [if_neg c2] at hQ
  by_cases c3 : 3 < n
  · rw [if_pos c3] at hQ
    simp (disch := first | exact hR _ _ | exact x01a | exact x01b | (unfold x_r; omega) | assumption | omega) only [wK_bind_4, wK_bind_4n, wK_bind_5, wK_bind_6n, wK_bind_6, wK_bind_12, wK_bind_13, wK_bind_16, wK_bind_17, wK_bind_18, wK_bind_21, wK_bind_22, x_gi_int, x_ga_ref, x_ga_null, List.getElem?_cons_zero, List.getElem?_cons_succ, List.length_cons, List.length_nil, List.set_cons_zero, List.set_cons_succ, Nat.reduceAdd, Nat.reduceLT, xr_lt, xr_eq, xr_toInt, xr_0, xi_add, xi_sub, xi_mul, xr_div, xr_rm, Int.toNat_natCast, bd_t, true_and, and_true, not_false_eq_true, ↓reduceIte, ilt_t, ilt_f, ile_t, x_c1i, x_c1r, x_c1n, and_self, Option.toList_some, Option.toList_none, List.cons_append, List.nil_append, xr_01, xr_00, ieq_f, ieq_t]
    exact hQ w h (Fr.refl w)
  rw [if_neg c3] at hQ
  simp (disch := first | exact hR _ _ | exact x01a | exact x01b | (unfold x_r; omega) | assumption | omega) only [wK_bind_4, wK_bind_4n, wK_bind_5, wK_bind_6n, wK_bind_6, wK_bind_12, wK_bind_13, wK_bind_16, wK_bind_17, wK_bind_18, wK_bind_23, wK_bind_24, wK_bind_25, x_gi_int, x_ga_ref, x_ga_null, List.getElem?_cons_zero, List.getElem?_cons_succ, List.length_cons, List.length_nil, List.set_cons_zero, List.set_cons_succ, Nat.reduceAdd, Nat.reduceLT, xr_lt, xr_eq, xr_toInt, xr_0, xi_add, xi_sub, xi_mul, xr_div, xr_rm, Int.toNat_natCast, bd_t, true_and, and_true, not_false_eq_true, ↓reduceIte, ilt_t, ilt_f, ile_t, x_c1i, x_c1r, x_c1n, and_self, Option.toList_some, Option.toList_none, List.cons_append, List.nil_append, xr_01, xr_00, ieq_f, ieq_t]
  refine wK_bind_26 t0 (by simp) rfl rfl (k_bellAt h hI (by omega) (by omega) (by omega) hb0 ?_)
  rw [← having_hk (by omega)]
  have hh := s_having_in hI.gs.1 (by omega) b 4
  have ec := x_cle (e := n) (by omega) (by omega)
  have nn := x_nn (e := n) (by omega) (by omega)
  have nc := x_clt (e := n) (n := 4) (by omega) (by omega) (by omega)
  have done : ∀ v, Rel (x_put w (A 12 4) n.toNat (pv v (A 4 v))) A (sset S 27 n.toNat v) (lid (sset S 27 n.toNat v)) := by
    intro v
    rw [lid_o (S := S) (sset_o (by omega)) (sset_o (by omega)) (sset_o (by omega))]
    exact h.bnd
  have hu4 : us S 12 4 := us_ker (by omega)
  by_cases c4 : b = -1
  · rw [if_pos c4] at hQ
    have e1 : s_having S b 4 < 0 := by
      have : s_find S (s_now S).toNat b = -1 := by
        unfold s_find
        rw [c4]
        split
        · rfl
        · rfl
      unfold s_having
      rw [this, if_pos (by omega)]
      omega
    rw [pv_n e1]
    simp (disch := first | exact hR _ _ | exact x01a | exact x01b | (unfold x_r; omega) | assumption | omega) only [wK_bind_29, wK_bind_29n, wK_bind_31, wK_bind_33n, wK_bind_33, wK_bind_36, wK_bind_37, wK_bind_38, wK_bind_43, wK_bind_44, wK_bind_47, wK_bind_48, wK_bind_50n t4 (by omega) nn nc, wK_bind_51, wK_bind_52, hk, f3, c4, ec, x_gi_int, x_ga_ref, x_ga_null, List.getElem?_cons_zero, List.getElem?_cons_succ, List.length_cons, List.length_nil, List.set_cons_zero, List.set_cons_succ, Nat.reduceAdd, Nat.reduceLT, xr_lt, xr_eq, xr_toInt, xr_0, xi_add, xi_sub, xi_mul, xr_div, xr_rm, Int.toNat_natCast, bd_t, true_and, and_true, not_false_eq_true, ↓reduceIte, ilt_t, ilt_f, ile_t, x_c1i, x_c1r, x_c1n, and_self, Option.toList_some, Option.toList_none, List.cons_append, List.nil_append, xr_01, xr_00, ieq_f, ieq_t]
    have := done (-1)
    rw [pv_n (by omega)] at this
    exact hQ _ this (h.frp (Fr.refl w) hu4 _ _)
  rw [if_neg c4] at hQ
  by_cases c5 : s_having S b 4 < 0
  · rw [if_pos c5] at hQ
    rw [pv_n c5]
    simp (disch := first | exact hR _ _ | exact x01a | exact x01b | (unfold x_r; omega) | assumption | omega) only [wK_bind_29, wK_bind_29n, wK_bind_31, wK_bind_33n, wK_bind_33, wK_bind_36, wK_bind_37, wK_bind_38, wK_bind_41, wK_bind_42, c4, x_gi_int, x_ga_ref, x_ga_null, List.getElem?_cons_zero, List.getElem?_cons_succ, List.length_cons, List.length_nil, List.set_cons_zero, List.set_cons_succ, Nat.reduceAdd, Nat.reduceLT, xr_lt, xr_eq, xr_toInt, xr_0, xi_add, xi_sub, xi_mul, xr_div, xr_rm, Int.toNat_natCast, bd_t, true_and, and_true, not_false_eq_true, ↓reduceIte, ilt_t, ilt_f, ile_t, x_c1i, x_c1r, x_c1n, and_self, Option.toList_some, Option.toList_none, List.cons_append, List.nil_append, xr_01, xr_00, ieq_f, ieq_t]
    exact hQ w h (Fr.refl w)
  rw [if_neg c5] at hQ
  rw [pv_r c5]
  have k1 := hh.2.2 (by omega)
  have hbd : hd S 4 (S 1 (s_having S b 4).toNat) := ⟨_, by omega, k1.2 (by omega), rfl⟩
  have hb4 := hA.hd hbd
  obtain ⟨b0, -⟩ := h.bel (us_thi (by omega) (by omega) hbd)
  simp (disch := first | exact hR _ _ | exact x01a | exact x01b | (unfold x_r; omega) | assumption | omega) only [wK_bind_29, wK_bind_29n, wK_bind_31, wK_bind_33n, wK_bind_33, wK_bind_43, wK_bind_44, wK_bind_47, wK_bind_48, wK_bind_50 t4 b0 (by omega) nn nc, wK_bind_51, wK_bind_52, hk, f3, ec, x_gi_int, x_ga_ref, x_ga_null, List.getElem?_cons_zero, List.getElem?_cons_succ, List.length_cons, List.length_nil, List.set_cons_zero, List.set_cons_succ, Nat.reduceAdd, Nat.reduceLT, xr_lt, xr_eq, xr_toInt, xr_0, xi_add, xi_sub, xi_mul, xr_div, xr_rm, Int.toNat_natCast, bd_t, true_and, and_true, not_false_eq_true, ↓reduceIte, ilt_t, ilt_f, ile_t, x_c1i, x_c1r, x_c1n, and_self, Option.toList_some, Option.toList_none, List.cons_append, List.nil_append, xr_01, xr_00, ieq_f, ieq_t]
  have := done (S 1 (s_having S b 4).toNat)
  rw [pv_r (by omega)] at this
  exact hQ _ this (h.frp (Fr.refl w) hu4 _ _)
end KR
