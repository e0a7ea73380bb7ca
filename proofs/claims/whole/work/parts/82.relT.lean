section KO
variable {P : xP} {w : xH} {Q : Option Value → xH → Prop} {A : xA} {S : xS} {ln : Nat → Int}
theorem Inv.tc {S : xS} (h : Inv S) : ∀ k, k < 16 → 0 ≤ lid S k → S 18 k ≤ S 28 0 := fun k hk g => h.1.2.2.2.2.2.2.2.1.2.1 k hk (lid_2 g)
theorem k_ready (h : Rel w A S (lid S)) (hI : Inv S) {t : Nat} (ht : t < 16) (h0 : S 10 t ≠ 0) (hQ : ∀ w', Rel w' A (s_ready S t) (lid (s_ready S t)) → Fr w w' 0 → Q none w') : WP P 5 0 [some (.ref (A 12 0)), some (.ref (A 2 (8 * (t : Int))))] [] w Q := by
  have tb := hI.1.2.2.2.2.2.2.1 t ht h0
  refine k_becomeReady h hI.1.2.1 hI.1.1 hI.lnI ht (us_thi (by omega) (by omega) ((hI.1.2.2.2.2.2.1 t ht).2.1.1 h0)) tb.1 h0 hI.tc (fun w' h' fr => hQ w' ?_ fr)
  rw [lid_ready]
  exact h'
theorem k_stop (h : Rel w A S (lid S)) (hI : Inv S) {t : Nat} (ht : t < 16) (h0 : S 10 t ≠ 0) (hQ : ∀ w', Rel w' A (sset S 10 t 1) (lid (sset S 10 t 1)) → Fr w w' 0 → Q none w') : WP P 35 0 [some (.ref (A 2 (8 * (t : Int))))] [] w Q := by
  refine k_becomeStopped h hI.1.2.1 hI.1.1 hI.lnI ht (us_thi (by omega) (by omega) ((hI.1.2.2.2.2.2.1 t ht).2.1.1 h0)) h0 (fun w' h' fr => hQ w' ?_ fr)
  rw [lid_stop]
  exact h'
set_option maxHeartbeats 4000000 in
theorem k_run (h : Rel w A S (lid S)) (hI : Inv S) {t on : Int} (ht : x_r t) (hon : on = 0 ∨ on = 1) {l3 l4 : Option Value} (hQ : ∀ w', Rel w' A (s_run S t on).2 (lid (s_run S t on).2) → Fr w w' 0 → Q (some (.int (xi (s_run S t on).1))) w') : WP P 47 0 [some (.ref (A 12 0)), some (.int (xi t)), some (.int (xi on)), l3, l4] [] w Q := by
  obtain ⟨⟨t0, t1, t2, t3, t4⟩, f0, f1, f2, f3⟩ := h.ker
  have hR := hI.1.1
  have hn := s_now_in S
  unfold s_run at hQ
  simp (disch := first | exact hR _ _ | exact x01a | exact x01b | (unfold x_r; omega) | assumption | omega) only [wK_run_0, x_gi_int, x_ga_ref, x_ga_null, List.getElem?_cons_zero, List.getElem?_cons_succ, List.length_cons, List.length_nil, List.set_cons_zero, List.set_cons_succ, Nat.reduceAdd, Nat.reduceLT, xr_lt, xr_eq, xr_toInt, xr_0, xi_add, xi_sub, xi_mul, xr_div, xr_rm, Int.toNat_natCast, bd_t, true_and, and_true, not_false_eq_true, ↓reduceIte, ilt_t, ilt_f, ile_t, x_c1i, x_c1r, x_c1n, and_self, Option.toList_some, Option.toList_none, List.cons_append, List.nil_append, xr_01, xr_00, ieq_f, ieq_t]
  refine wK_run_1 t0 (by simp) rfl rfl (k_currentThread h hI ?_)
  by_cases c1 : s_now S < 0
  · rw [if_pos c1] at hQ
    rw [pv_n c1]
    simp (disch := first | exact hR _ _ | exact x01a | exact x01b | (unfold x_r; omega) | assumption | omega) only [wK_run_4, wK_run_4n, wK_run_5, wK_run_6n, wK_run_6, wK_run_9, wK_run_11, x_gi_int, x_ga_ref, x_ga_null, List.getElem?_cons_zero, List.getElem?_cons_succ, List.length_cons, List.length_nil, List.set_cons_zero, List.set_cons_succ, Nat.reduceAdd, Nat.reduceLT, xr_lt, xr_eq, xr_toInt, xr_0, xi_add, xi_sub, xi_mul, xr_div, xr_rm, Int.toNat_natCast, bd_t, true_and, and_true, not_false_eq_true, ↓reduceIte, ilt_t, ilt_f, ile_t, x_c1i, x_c1r, x_c1n, and_self, Option.toList_some, Option.toList_none, List.cons_append, List.nil_append, xr_01, xr_00, ieq_f, ieq_t]
    exact hQ w h (Fr.refl w)
  rw [if_neg c1] at hQ
  rw [pv_r c1]
  obtain ⟨n1, n2⟩ := now_is c1
  simp (disch := first | exact hR _ _ | exact x01a | exact x01b | (unfold x_r; omega) | assumption | omega) only [wK_run_4, wK_run_4n, wK_run_5, wK_run_6n, wK_run_6, wK_run_12, wK_run_13, wK_run_14, x_gi_int, x_ga_ref, x_ga_null, List.getElem?_cons_zero, List.getElem?_cons_succ, List.length_cons, List.length_nil, List.set_cons_zero, List.set_cons_succ, Nat.reduceAdd, Nat.reduceLT, xr_lt, xr_eq, xr_toInt, xr_0, xi_add, xi_sub, xi_mul, xr_div, xr_rm, Int.toNat_natCast, bd_t, true_and, and_true, not_false_eq_true, ↓reduceIte, ilt_t, ilt_f, ile_t, x_c1i, x_c1r, x_c1n, and_self, Option.toList_some, Option.toList_none, List.cons_append, List.nil_append, xr_01, xr_00, ieq_f, ieq_t]
  refine wK_run_15 t0 (by simp) rfl rfl (k_threadAt h hI (by omega) (by omega) (by omega) ht ?_)
  rw [← having_hk (by omega)]
  by_cases c2 : s_having S t 2 < 0
  · rw [if_pos c2] at hQ
    rw [pv_n c2]
    simp (disch := first | exact hR _ _ | exact x01a | exact x01b | (unfold x_r; omega) | assumption | omega) only [wK_run_18, wK_run_18n, wK_run_20, wK_run_22n, wK_run_22, wK_run_25, wK_run_26, x_gi_int, x_ga_ref, x_ga_null, List.getElem?_cons_zero, List.getElem?_cons_succ, List.length_cons, List.length_nil, List.set_cons_zero, List.set_cons_succ, Nat.reduceAdd, Nat.reduceLT, xr_lt, xr_eq, xr_toInt, xr_0, xi_add, xi_sub, xi_mul, xr_div, xr_rm, Int.toNat_natCast, bd_t, true_and, and_true, not_false_eq_true, ↓reduceIte, ilt_t, ilt_f, ile_t, x_c1i, x_c1r, x_c1n, and_self, Option.toList_some, Option.toList_none, List.cons_append, List.nil_append, xr_01, xr_00, ieq_f, ieq_t]
    exact hQ w h (Fr.refl w)
  rw [if_neg c2] at hQ
  rw [pv_r c2]
  obtain ⟨k1, k2, k3⟩ := having_th hI (by omega) c2
  have k4 : S 1 (s_having S t 2).toNat / 8 = ((S 1 (s_having S t 2).toNat / 8).toNat : Int) := by omega
  rw [k3]
  have hus := us_thi (S := S) (k := 2) (by omega) (by omega) ((hI.1.2.2.2.2.2.1 _ k1).2.1.1 k2)
  rcases hon with rfl | rfl
  · rw [if_pos rfl] at hQ
    simp (disch := first | exact hR _ _ | exact x01a | exact x01b | (unfold x_r; omega) | assumption | omega) only [wK_run_18, wK_run_18n, wK_run_20, wK_run_22n, wK_run_22, wK_run_27, wK_run_28, wK_run_31, x_gi_int, x_ga_ref, x_ga_null, List.getElem?_cons_zero, List.getElem?_cons_succ, List.length_cons, List.length_nil, List.set_cons_zero, List.set_cons_succ, Nat.reduceAdd, Nat.reduceLT, xr_lt, xr_eq, xr_toInt, xr_0, xi_add, xi_sub, xi_mul, xr_div, xr_rm, Int.toNat_natCast, bd_t, true_and, and_true, not_false_eq_true, ↓reduceIte, ilt_t, ilt_f, ile_t, x_c1i, x_c1r, x_c1n, and_self, Option.toList_some, Option.toList_none, List.cons_append, List.nil_append, xr_01, xr_00, ieq_f, ieq_t]
    refine wK_run_33 (by simp) rfl rfl (k_stop h hI k1 k2 (fun w' h' fr => ?_))
    simp (disch := first | exact hR _ _ | exact x01a | exact x01b | (unfold x_r; omega) | assumption | omega) only [wK_run_36, wK_run_54, wK_run_55, x_gi_int, x_ga_ref, x_ga_null, List.getElem?_cons_zero, List.getElem?_cons_succ, List.length_cons, List.length_nil, List.set_cons_zero, List.set_cons_succ, Nat.reduceAdd, Nat.reduceLT, xr_lt, xr_eq, xr_toInt, xr_0, xi_add, xi_sub, xi_mul, xr_div, xr_rm, Int.toNat_natCast, bd_t, true_and, and_true, not_false_eq_true, ↓reduceIte, ilt_t, ilt_f, ile_t, x_c1i, x_c1r, x_c1n, and_self, Option.toList_some, Option.toList_none, List.cons_append, List.nil_append, xr_01, xr_00, ieq_f, ieq_t]
    exact hQ w' h' fr
  · rw [if_neg (by omega)] at hQ
    obtain ⟨z0, z1, z2, z3, z4, z5, z6, -⟩ := h.thr hus
    rw [Int.toNat_natCast] at z6
    have hz : x_has w (A 2 (8 * ((S 1 (s_having S t 2).toNat / 8).toNat : Int))) [2] := ⟨_, _, z0, by decide⟩
    by_cases c3 : S 10 (S 1 (s_having S t 2).toNat / 8).toNat = 1
    · rw [if_pos c3] at hQ
      simp (disch := first | exact hR _ _ | exact x01a | exact x01b | (unfold x_r; omega) | assumption | omega) only [wK_run_18, wK_run_18n, wK_run_20, wK_run_22n, wK_run_22, wK_run_27, wK_run_28, wK_run_39, wK_run_41, wK_run_44, wK_run_45, wK_run_48, wK_run_49, hz, z6, c3, x_gi_int, x_ga_ref, x_ga_null, List.getElem?_cons_zero, List.getElem?_cons_succ, List.length_cons, List.length_nil, List.set_cons_zero, List.set_cons_succ, Nat.reduceAdd, Nat.reduceLT, xr_lt, xr_eq, xr_toInt, xr_0, xi_add, xi_sub, xi_mul, xr_div, xr_rm, Int.toNat_natCast, bd_t, true_and, and_true, not_false_eq_true, ↓reduceIte, ilt_t, ilt_f, ile_t, x_c1i, x_c1r, x_c1n, and_self, Option.toList_some, Option.toList_none, List.cons_append, List.nil_append, xr_01, xr_00, ieq_f, ieq_t]
      rw [k4] at hQ
      refine wK_run_51 t0 (by simp) rfl rfl (k_ready h hI k1 k2 (fun w' h' fr => ?_))
      simp (disch := first | exact hR _ _ | exact x01a | exact x01b | (unfold x_r; omega) | assumption | omega) only [wK_run_54, wK_run_55, x_gi_int, x_ga_ref, x_ga_null, List.getElem?_cons_zero, List.getElem?_cons_succ, List.length_cons, List.length_nil, List.set_cons_zero, List.set_cons_succ, Nat.reduceAdd, Nat.reduceLT, xr_lt, xr_eq, xr_toInt, xr_0, xi_add, xi_sub, xi_mul, xr_div, xr_rm, Int.toNat_natCast, bd_t, true_and, and_true, not_false_eq_true, ↓reduceIte, ilt_t, ilt_f, ile_t, x_c1i, x_c1r, x_c1n, and_self, Option.toList_some, Option.toList_none, List.cons_append, List.nil_append, xr_01, xr_00, ieq_f, ieq_t]
      exact hQ w' h' fr
    · rw [if_neg c3] at hQ
      simp (disch := first | exact hR _ _ | exact x01a | exact x01b | (unfold x_r; omega) | assumption | omega) only [wK_run_18, wK_run_18n, wK_run_20, wK_run_22n, wK_run_22, wK_run_27, wK_run_28, wK_run_39, wK_run_41, wK_run_44, wK_run_45, wK_run_54, wK_run_55, hz, z6, c3, x_gi_int, x_ga_ref, x_ga_null, List.getElem?_cons_zero, List.getElem?_cons_succ, List.length_cons, List.length_nil, List.set_cons_zero, List.set_cons_succ, Nat.reduceAdd, Nat.reduceLT, xr_lt, xr_eq, xr_toInt, xr_0, xi_add, xi_sub, xi_mul, xr_div, xr_rm, Int.toNat_natCast, bd_t, true_and, and_true, not_false_eq_true, ↓reduceIte, ilt_t, ilt_f, ile_t, x_c1i, x_c1r, x_c1n, and_self, Option.toList_some, Option.toList_none, List.cons_append, List.nil_append, xr_01, xr_00, ieq_f, ieq_t]
      exact hQ w h (Fr.refl w)
theorem k_hear (h : Rel w A S ln) (hA : CapA S) {t : Nat} {n : Int} (hu : us S 2 (8 * (t : Int))) (hQ : ∀ w', Rel w' A (s_hears S t n) ln → Fr w w' 0 → Q none w') : WP P 56 0 [some (.ref (A 2 (8 * (t : Int)))), some (.int (xi n))] [] w Q := by
  have hR : RgS s_zero := RgS.zero
  obtain ⟨z0, -⟩ := h.thr hu
  have hz : x_has w (A 2 (8 * (t : Int))) [2] := ⟨_, _, z0, by decide⟩
  simp (disch := first | exact hR _ _ | exact x01a | exact x01b | (unfold x_r; omega) | assumption | omega) only [wThr_hear_0, wThr_hear_1, wThr_hear_2, wThr_hear_5, wThr_hear_6, wThr_hear_7, wThr_hear_10, wThr_hear_11, wThr_hear_12, wThr_hear_15, x_has_put, x_f0, hz, x_gi_int, x_ga_ref, x_ga_null, List.getElem?_cons_zero, List.getElem?_cons_succ, List.length_cons, List.length_nil, List.set_cons_zero, List.set_cons_succ, Nat.reduceAdd, Nat.reduceLT, xr_lt, xr_eq, xr_toInt, xr_0, xi_add, xi_sub, xi_mul, xr_div, xr_rm, Int.toNat_natCast, bd_t, true_and, and_true, not_false_eq_true, ↓reduceIte, ilt_t, ilt_f, ile_t, x_c1i, x_c1r, x_c1n, and_self, Option.toList_some, Option.toList_none, List.cons_append, List.nil_append, xr_01, xr_00, ieq_f, ieq_t]
  have e1 := us_cg (S := S) (S' := sset S 15 t n) (sset_o (by omega)) (sset_o (by omega))
  have e2 := us_cg (S := sset S 15 t n) (S' := sset (sset S 15 t n) 16 t 0) (sset_o (by omega)) (sset_o (by omega))
  have a1 : CapA (sset S 15 t n) := hA.cg (sset_o (by omega)) (sset_o (by omega)) (sset_o (by omega)) (sset_o (by omega)) (sset_o (by omega)) (sset_o (by omega))
  have a2 : CapA (sset (sset S 15 t n) 16 t 0) := a1.cg (sset_o (by omega)) (sset_o (by omega)) (sset_o (by omega)) (sset_o (by omega)) (sset_o (by omega)) (sset_o (by omega))
  have h1 := h.tint hA hu (j := 15) (f := 7) (v := n) (by omega)
  have h2 := h1.tint a1 (by rw [e1]; exact hu) (j := 16) (f := 8) (v := 0) (by omega)
  have h3 := h2.tint a2 (by rw [e2, e1]; exact hu) (j := 17) (f := 9) (v := 0) (by omega)
  exact hQ _ h3 (h2.frp (h1.frp (h.frp (Fr.refl w) hu 7 _) (by rw [e1]; exact hu) 8 _) (by rw [e2, e1]; exact hu) 9 _)
end KO
