section KQ
variable {P : xP} {w : xH} {Q : Option Value → xH → Prop} {A : xA} {S : xS} {ln : Nat → Int}
set_option maxHeartbeats 8000000 in
theorem k_signal (h : Rel w A S (lid S)) (hI : Inv S) {b : Int} (hb : x_r b) {l2 l3 l4 l5 : Option Value} (hQ : ∀ w', Rel w' A (s_signal S b).2 (lid (s_signal S b).2) → Fr w w' 0 → Q (some (.int (xi (s_signal S b).1))) w') : WP P 54 0 [some (.ref (A 12 0)), some (.int (xi b)), l2, l3, l4, l5] [] w Q := by
  unfold s_signal at hQ
  obtain ⟨⟨t0, t1, t2, t3, t4⟩, f0, f1, f2, f3⟩ := h.ker
  have hR := hI.1.1
  have hA := hI.1.2.1
  have hn := s_now_in S
  simp (disch := first | exact hR _ _ | exact x01a | exact x01b | (unfold x_r; omega) | assumption | omega) only [wK_signal_0, x_gi_int, x_ga_ref, x_ga_null, List.getElem?_cons_zero, List.getElem?_cons_succ, List.length_cons, List.length_nil, List.set_cons_zero, List.set_cons_succ, Nat.reduceAdd, Nat.reduceLT, xr_lt, xr_eq, xr_toInt, xr_0, xi_add, xi_sub, xi_mul, xr_div, xr_rm, Int.toNat_natCast, bd_t, true_and, and_true, not_false_eq_true, ↓reduceIte, ilt_t, ilt_f, ile_t, x_c1i, x_c1r, x_c1n, and_self, Option.toList_some, Option.toList_none, List.cons_append, List.nil_append, xr_01, xr_00, ieq_f, ieq_t]
  refine wK_signal_1 t0 (by simp) rfl rfl (k_currentThread h hI ?_)
  by_cases c1 : s_now S < 0
  · rw [if_pos c1] at hQ
    rw [pv_n c1]
    simp (disch := first | exact hR _ _ | exact x01a | exact x01b | (unfold x_r; omega) | assumption | omega) only [wK_signal_4, wK_signal_4n, wK_signal_5, wK_signal_6n, wK_signal_6, wK_signal_9, wK_signal_11, x_gi_int, x_ga_ref, x_ga_null, List.getElem?_cons_zero, List.getElem?_cons_succ, List.length_cons, List.length_nil, List.set_cons_zero, List.set_cons_succ, Nat.reduceAdd, Nat.reduceLT, xr_lt, xr_eq, xr_toInt, xr_0, xi_add, xi_sub, xi_mul, xr_div, xr_rm, Int.toNat_natCast, bd_t, true_and, and_true, not_false_eq_true, ↓reduceIte, ilt_t, ilt_f, ile_t, x_c1i, x_c1r, x_c1n, and_self, Option.toList_some, Option.toList_none, List.cons_append, List.nil_append, xr_01, xr_00, ieq_f, ieq_t]
    exact hQ w h (Fr.refl w)
  rw [if_neg c1] at hQ
  rw [pv_r c1]
  obtain ⟨n1, n2⟩ := now_is c1
  simp (disch := first | exact hR _ _ | exact x01a | exact x01b | (unfold x_r; omega) | assumption | omega) only [wK_signal_4, wK_signal_4n, wK_signal_5, wK_signal_6n, wK_signal_6, wK_signal_12, wK_signal_13, wK_signal_14, x_gi_int, x_ga_ref, x_ga_null, List.getElem?_cons_zero, List.getElem?_cons_succ, List.length_cons, List.length_nil, List.set_cons_zero, List.set_cons_succ, Nat.reduceAdd, Nat.reduceLT, xr_lt, xr_eq, xr_toInt, xr_0, xi_add, xi_sub, xi_mul, xr_div, xr_rm, Int.toNat_natCast, bd_t, true_and, and_true, not_false_eq_true, ↓reduceIte, ilt_t, ilt_f, ile_t, x_c1i, x_c1r, x_c1n, and_self, Option.toList_some, Option.toList_none, List.cons_append, List.nil_append, xr_01, xr_00, ieq_f, ieq_t]
  refine wK_signal_15 t0 (by simp) rfl rfl (k_capabilityAt h hI (by omega) (by omega) (by omega) hb ?_)
  have hb := s_hv_is hI (t := (s_now S).toNat) n1 b
  have ehk : s_having S b 4 = s_hk S (s_now S).toNat b 4 := having_hk (by omega)
  unfold s_hk at ehk
  by_cases d1 : s_hv S (s_now S).toNat b < 0
  · rw [if_pos d1] at ehk
    rw [if_pos (by omega)] at hQ
    rw [pv_n d1]
    simp (disch := first | exact hR _ _ | exact x01a | exact x01b | (unfold x_r; omega) | assumption | omega) only [wK_signal_18, wK_signal_18n, wK_signal_19, wK_signal_20n, wK_signal_20, wK_signal_47, wK_signal_48, x_gi_int, x_ga_ref, x_ga_null, List.getElem?_cons_zero, List.getElem?_cons_succ, List.length_cons, List.length_nil, List.set_cons_zero, List.set_cons_succ, Nat.reduceAdd, Nat.reduceLT, xr_lt, xr_eq, xr_toInt, xr_0, xi_add, xi_sub, xi_mul, xr_div, xr_rm, Int.toNat_natCast, bd_t, true_and, and_true, not_false_eq_true, ↓reduceIte, ilt_t, ilt_f, ile_t, x_c1i, x_c1r, x_c1n, and_self, Option.toList_some, Option.toList_none, List.cons_append, List.nil_append, xr_01, xr_00, ieq_f, ieq_t]
    exact hQ w h (Fr.refl w)
  rw [if_neg d1] at ehk
  rw [pv_r d1]
  obtain ⟨ct, e0, e1, e2, -⟩ := h.cap (p := s_hv S (s_now S).toNat b) (by omega) (by omega) (hb.2.2 d1)
  obtain ⟨n, g0, g1, g2, g3⟩ := h.thg hA (p := s_hv S (s_now S).toNat b) (by omega) (by omega) (hb.2.2 d1)
  have hc : x_has w (A 8 (s_hv S (s_now S).toNat b)) [1] := ⟨_, _, ct, by decide⟩
  have k7 := (hA (s_hv S (s_now S).toNat b).toNat (by omega)).1
  have ti := (tgK_is (hb.2.2 d1) k7.2.1).2.2.2.1
  by_cases d2 : ¬ S 0 (s_hv S (s_now S).toNat b).toNat = 4
  · rw [if_neg d2] at ehk
    rw [if_pos (by omega)] at hQ
    have tt : ¬ (tgK (S 0 (s_hv S (s_now S).toNat b).toNat) 0).1 = 7 := fun x => d2 (ti.1 x)
    simp (disch := first | exact hR _ _ | exact x01a | exact x01b | (unfold x_r; omega) | assumption | omega) only [wK_signal_18, wK_signal_18n, wK_signal_19, wK_signal_20n, wK_signal_20, wK_signal_23, wK_signal_24, wK_signal_27, wK_signal_27n, wK_signal_29, wK_signal_31 g0 g1, wK_signal_34, wK_signal_47, wK_signal_48, hc, e0, tt, x_gi_int, x_ga_ref, x_ga_null, List.getElem?_cons_zero, List.getElem?_cons_succ, List.length_cons, List.length_nil, List.set_cons_zero, List.set_cons_succ, Nat.reduceAdd, Nat.reduceLT, xr_lt, xr_eq, xr_toInt, xr_0, xi_add, xi_sub, xi_mul, xr_div, xr_rm, Int.toNat_natCast, bd_t, true_and, and_true, not_false_eq_true, ↓reduceIte, ilt_t, ilt_f, ile_t, x_c1i, x_c1r, x_c1n, and_self, Option.toList_some, Option.toList_none, List.cons_append, List.nil_append, xr_01, xr_00, ieq_f, ieq_t]
    exact hQ w h (Fr.refl w)
  have d2 := Decidable.not_not.1 d2
  rw [if_pos d2] at ehk
  rw [if_neg (by omega)] at hQ
  rw [← ehk] at d1 d2 ct e0 e1 e2 g0 g1 g2 g3 hc hb k7 ti ⊢
  have tt := ti.2 d2
  rw [tt] at g0 g1
  rw [thA_k d2 (by omega)] at e0 g0
  have hr := ((hA (s_having S b 4).toNat (by omega)).2 (by omega)).2.2.1
  have xa := xr_and (a := S 2 (s_having S b 4).toNat) (b := 2) hr.1 (by omega)
  have an := s_and_7 (b := 2) ⟨hr.1, hr.2.1⟩
  have hbl : hd S 4 (S 1 (s_having S b 4).toNat) := ⟨_, by omega, d2, rfl⟩
  generalize s_having S b 4 = p at *
  by_cases c3 : s_and (S 2 p.toNat) 2 = 0
  · rw [if_pos c3] at hQ
    simp (disch := first | exact hR _ _ | exact x01a | exact x01b | (unfold x_r; omega) | assumption | omega) only [wK_signal_18, wK_signal_18n, wK_signal_19, wK_signal_20n, wK_signal_20, wK_signal_23, wK_signal_24, wK_signal_27, wK_signal_27n, wK_signal_29, wK_signal_31 g0 g1, wK_signal_34, wK_signal_37, wK_signal_39 g0, wK_signal_42, wK_signal_42n, wK_signal_44, wK_signal_49, wK_signal_50, wK_signal_53, wK_signal_54, wK_signal_55, wK_signal_58, wK_signal_59, hc, e0, e1, xa, c3, x_gi_int, x_ga_ref, x_ga_null, List.getElem?_cons_zero, List.getElem?_cons_succ, List.length_cons, List.length_nil, List.set_cons_zero, List.set_cons_succ, Nat.reduceAdd, Nat.reduceLT, xr_lt, xr_eq, xr_toInt, xr_0, xi_add, xi_sub, xi_mul, xr_div, xr_rm, Int.toNat_natCast, bd_t, true_and, and_true, not_false_eq_true, ↓reduceIte, ilt_t, ilt_f, ile_t, x_c1i, x_c1r, x_c1n, and_self, Option.toList_some, Option.toList_none, List.cons_append, List.nil_append, xr_01, xr_00, ieq_f, ieq_t]
    exact hQ w h (Fr.refl w)
  rw [if_neg c3] at hQ
  by_cases c4 : S 3 p.toNat = 0
  · rw [if_pos c4] at hQ
    simp (disch := first | exact hR _ _ | exact x01a | exact x01b | (unfold x_r; omega) | assumption | omega) only [wK_signal_18, wK_signal_18n, wK_signal_19, wK_signal_20n, wK_signal_20, wK_signal_23, wK_signal_24, wK_signal_27, wK_signal_27n, wK_signal_29, wK_signal_31 g0 g1, wK_signal_34, wK_signal_37, wK_signal_39 g0, wK_signal_42, wK_signal_42n, wK_signal_44, wK_signal_49, wK_signal_50, wK_signal_53, wK_signal_54, wK_signal_55, wK_signal_60, wK_signal_61, wK_signal_63, wK_signal_64, wK_signal_67, wK_signal_70, wK_signal_73, hc, e0, e1, e2, xa, c3, c4, x_gi_int, x_ga_ref, x_ga_null, List.getElem?_cons_zero, List.getElem?_cons_succ, List.length_cons, List.length_nil, List.set_cons_zero, List.set_cons_succ, Nat.reduceAdd, Nat.reduceLT, xr_lt, xr_eq, xr_toInt, xr_0, xi_add, xi_sub, xi_mul, xr_div, xr_rm, Int.toNat_natCast, bd_t, true_and, and_true, not_false_eq_true, ↓reduceIte, ilt_t, ilt_f, ile_t, x_c1i, x_c1r, x_c1n, and_self, Option.toList_some, Option.toList_none, List.cons_append, List.nil_append, xr_01, xr_00, ieq_f, ieq_t]
    refine wK_signal_80 t0 (by simp) rfl rfl (k_ring h hI hbl ⟨by omega, by omega⟩ (fun w1 h1 fr1 => ?_))
    simp (disch := first | exact hR _ _ | exact x01a | exact x01b | (unfold x_r; omega) | assumption | omega) only [wK_signal_83, wK_signal_84, x_gi_int, x_ga_ref, x_ga_null, List.getElem?_cons_zero, List.getElem?_cons_succ, List.length_cons, List.length_nil, List.set_cons_zero, List.set_cons_succ, Nat.reduceAdd, Nat.reduceLT, xr_lt, xr_eq, xr_toInt, xr_0, xi_add, xi_sub, xi_mul, xr_div, xr_rm, Int.toNat_natCast, bd_t, true_and, and_true, not_false_eq_true, ↓reduceIte, ilt_t, ilt_f, ile_t, x_c1i, x_c1r, x_c1n, and_self, Option.toList_some, Option.toList_none, List.cons_append, List.nil_append, xr_01, xr_00, ieq_f, ieq_t]
    exact hQ w1 h1 fr1
  · rw [if_neg c4] at hQ
    simp (disch := first | exact hR _ _ | exact x01a | exact x01b | (unfold x_r; omega) | assumption | omega) only [wK_signal_18, wK_signal_18n, wK_signal_19, wK_signal_20n, wK_signal_20, wK_signal_23, wK_signal_24, wK_signal_27, wK_signal_27n, wK_signal_29, wK_signal_31 g0 g1, wK_signal_34, wK_signal_37, wK_signal_39 g0, wK_signal_42, wK_signal_42n, wK_signal_44, wK_signal_49, wK_signal_50, wK_signal_53, wK_signal_54, wK_signal_55, wK_signal_60, wK_signal_61, wK_signal_63, wK_signal_64, wK_signal_67, wK_signal_76, wK_signal_77, hc, e0, e1, e2, xa, c3, c4, x_gi_int, x_ga_ref, x_ga_null, List.getElem?_cons_zero, List.getElem?_cons_succ, List.length_cons, List.length_nil, List.set_cons_zero, List.set_cons_succ, Nat.reduceAdd, Nat.reduceLT, xr_lt, xr_eq, xr_toInt, xr_0, xi_add, xi_sub, xi_mul, xr_div, xr_rm, Int.toNat_natCast, bd_t, true_and, and_true, not_false_eq_true, ↓reduceIte, ilt_t, ilt_f, ile_t, x_c1i, x_c1r, x_c1n, and_self, Option.toList_some, Option.toList_none, List.cons_append, List.nil_append, xr_01, xr_00, ieq_f, ieq_t]
    refine wK_signal_80 t0 (by simp) rfl rfl (k_ring h hI hbl ⟨by omega, by omega⟩ (fun w1 h1 fr1 => ?_))
    simp (disch := first | exact hR _ _ | exact x01a | exact x01b | (unfold x_r; omega) | assumption | omega) only [wK_signal_83, wK_signal_84, x_gi_int, x_ga_ref, x_ga_null, List.getElem?_cons_zero, List.getElem?_cons_succ, List.length_cons, List.length_nil, List.set_cons_zero, List.set_cons_succ, Nat.reduceAdd, Nat.reduceLT, xr_lt, xr_eq, xr_toInt, xr_0, xi_add, xi_sub, xi_mul, xr_div, xr_rm, Int.toNat_natCast, bd_t, true_and, and_true, not_false_eq_true, ↓reduceIte, ilt_t, ilt_f, ile_t, x_c1i, x_c1r, x_c1n, and_self, Option.toList_some, Option.toList_none, List.cons_append, List.nil_append, xr_01, xr_00, ieq_f, ieq_t]
    exact hQ w1 h1 fr1
set_option maxHeartbeats 8000000 in
theorem k_listen (h : Rel w A S (lid S)) (hI : Inv S) {b bl : Int} (hb : x_r b) (hbl : bl = 0 ∨ bl = 1) {l3 l4 l5 l6 : Option Value} (hQ : ∀ w', Rel w' A (s_listen S b bl).2 (lid (s_listen S b bl).2) → Fr w w' 0 → Q (some (.int (xi (s_listen S b bl).1))) w') : WP P 57 0 [some (.ref (A 12 0)), some (.int (xi b)), some (.int (xi bl)), l3, l4, l5, l6] [] w Q := by
  unfold s_listen at hQ
  obtain ⟨⟨t0, t1, t2, t3, t4⟩, f0, f1, f2, f3⟩ := h.ker
  have hR := hI.1.1
  have hA := hI.1.2.1
  have hn := s_now_in S
  simp (disch := first | exact hR _ _ | exact x01a | exact x01b | (unfold x_r; omega) | assumption | omega) only [wK_listen_0, x_gi_int, x_ga_ref, x_ga_null, List.getElem?_cons_zero, List.getElem?_cons_succ, List.length_cons, List.length_nil, List.set_cons_zero, List.set_cons_succ, Nat.reduceAdd, Nat.reduceLT, xr_lt, xr_eq, xr_toInt, xr_0, xi_add, xi_sub, xi_mul, xr_div, xr_rm, Int.toNat_natCast, bd_t, true_and, and_true, not_false_eq_true, ↓reduceIte, ilt_t, ilt_f, ile_t, x_c1i, x_c1r, x_c1n, and_self, Option.toList_some, Option.toList_none, List.cons_append, List.nil_append, xr_01, xr_00, ieq_f, ieq_t]
  refine wK_listen_1 t0 (by simp) rfl rfl (k_currentThread h hI ?_)
  by_cases c1 : s_now S < 0
  · rw [if_pos c1] at hQ
    rw [pv_n c1]
    simp (disch := first | exact hR _ _ | exact x01a | exact x01b | (unfold x_r; omega) | assumption | omega) only [wK_listen_4, wK_listen_4n, wK_listen_5, wK_listen_6n, wK_listen_6, wK_listen_9, wK_listen_11, x_gi_int, x_ga_ref, x_ga_null, List.getElem?_cons_zero, List.getElem?_cons_succ, List.length_cons, List.length_nil, List.set_cons_zero, List.set_cons_succ, Nat.reduceAdd, Nat.reduceLT, xr_lt, xr_eq, xr_toInt, xr_0, xi_add, xi_sub, xi_mul, xr_div, xr_rm, Int.toNat_natCast, bd_t, true_and, and_true, not_false_eq_true, ↓reduceIte, ilt_t, ilt_f, ile_t, x_c1i, x_c1r, x_c1n, and_self, Option.toList_some, Option.toList_none, List.cons_append, List.nil_append, xr_01, xr_00, ieq_f, ieq_t]
    exact hQ w h (Fr.refl w)
  rw [if_neg c1] at hQ
  rw [pv_r c1]
  obtain ⟨n1, n2⟩ := now_is c1
  simp (disch := first | exact hR _ _ | exact x01a | exact x01b | (unfold x_r; omega) | assumption | omega) only [wK_listen_4, wK_listen_4n, wK_listen_5, wK_listen_6n, wK_listen_6, wK_listen_12, wK_listen_13, wK_listen_14, x_gi_int, x_ga_ref, x_ga_null, List.getElem?_cons_zero, List.getElem?_cons_succ, List.length_cons, List.length_nil, List.set_cons_zero, List.set_cons_succ, Nat.reduceAdd, Nat.reduceLT, xr_lt, xr_eq, xr_toInt, xr_0, xi_add, xi_sub, xi_mul, xr_div, xr_rm, Int.toNat_natCast, bd_t, true_and, and_true, not_false_eq_true, ↓reduceIte, ilt_t, ilt_f, ile_t, x_c1i, x_c1r, x_c1n, and_self, Option.toList_some, Option.toList_none, List.cons_append, List.nil_append, xr_01, xr_00, ieq_f, ieq_t]
  refine wK_listen_15 t0 (by simp) rfl rfl (k_capabilityAt h hI (by omega) (by omega) (by omega) hb ?_)
  have hb := s_hv_is hI (t := (s_now S).toNat) n1 b
  have ehk : s_having S b 4 = s_hk S (s_now S).toNat b 4 := having_hk (by omega)
  unfold s_hk at ehk
  by_cases d1 : s_hv S (s_now S).toNat b < 0
  · rw [if_pos d1] at ehk
    rw [if_pos (by omega)] at hQ
    rw [pv_n d1]
    simp (disch := first | exact hR _ _ | exact x01a | exact x01b | (unfold x_r; omega) | assumption | omega) only [wK_listen_18, wK_listen_18n, wK_listen_20, wK_listen_22n, wK_listen_22, wK_listen_50, wK_listen_51, x_gi_int, x_ga_ref, x_ga_null, List.getElem?_cons_zero, List.getElem?_cons_succ, List.length_cons, List.length_nil, List.set_cons_zero, List.set_cons_succ, Nat.reduceAdd, Nat.reduceLT, xr_lt, xr_eq, xr_toInt, xr_0, xi_add, xi_sub, xi_mul, xr_div, xr_rm, Int.toNat_natCast, bd_t, true_and, and_true, not_false_eq_true, ↓reduceIte, ilt_t, ilt_f, ile_t, x_c1i, x_c1r, x_c1n, and_self, Option.toList_some, Option.toList_none, List.cons_append, List.nil_append, xr_01, xr_00, ieq_f, ieq_t]
    exact hQ w h (Fr.refl w)
  rw [if_neg d1] at ehk
  rw [pv_r d1]
  obtain ⟨ct, e0, e1, e2, -⟩ := h.cap (p := s_hv S (s_now S).toNat b) (by omega) (by omega) (hb.2.2 d1)
  obtain ⟨n, g0, g1, g2, g3⟩ := h.thg hA (p := s_hv S (s_now S).toNat b) (by omega) (by omega) (hb.2.2 d1)
  have hc : x_has w (A 8 (s_hv S (s_now S).toNat b)) [1] := ⟨_, _, ct, by decide⟩
  have k7 := (hA (s_hv S (s_now S).toNat b).toNat (by omega)).1
  have ti := (tgK_is (hb.2.2 d1) k7.2.1).2.2.2.1
  by_cases d2 : ¬ S 0 (s_hv S (s_now S).toNat b).toNat = 4
  · rw [if_neg d2] at ehk
    rw [if_pos (by omega)] at hQ
    have tt : ¬ (tgK (S 0 (s_hv S (s_now S).toNat b).toNat) 0).1 = 7 := fun x => d2 (ti.1 x)
    simp (disch := first | exact hR _ _ | exact x01a | exact x01b | (unfold x_r; omega) | assumption | omega) only [wK_listen_18, wK_listen_18n, wK_listen_20, wK_listen_22n, wK_listen_22, wK_listen_25, wK_listen_27, wK_listen_30, wK_listen_30n, wK_listen_32, wK_listen_34 g0 g1, wK_listen_37, wK_listen_50, wK_listen_51, hc, e0, tt, x_gi_int, x_ga_ref, x_ga_null, List.getElem?_cons_zero, List.getElem?_cons_succ, List.length_cons, List.length_nil, List.set_cons_zero, List.set_cons_succ, Nat.reduceAdd, Nat.reduceLT, xr_lt, xr_eq, xr_toInt, xr_0, xi_add, xi_sub, xi_mul, xr_div, xr_rm, Int.toNat_natCast, bd_t, true_and, and_true, not_false_eq_true, ↓reduceIte, ilt_t, ilt_f, ile_t, x_c1i, x_c1r, x_c1n, and_self, Option.toList_some, Option.toList_none, List.cons_append, List.nil_append, xr_01, xr_00, ieq_f, ieq_t]
    exact hQ w h (Fr.refl w)
  have d2 := Decidable.not_not.1 d2
  rw [if_pos d2] at ehk
  rw [if_neg (by omega)] at hQ
  rw [← ehk] at d1 d2 ct e0 e1 e2 g0 g1 g2 g3 hc hb k7 ti ⊢
  have tt := ti.2 d2
  rw [tt] at g0 g1
  rw [thA_k d2 (by omega)] at e0 g0
  have hr := ((hA (s_having S b 4).toNat (by omega)).2 (by omega)).2.2.1
  have xa := xr_and (a := S 2 (s_having S b 4).toNat) (b := 1) hr.1 (by omega)
  have an := s_and_7 (b := 1) ⟨hr.1, hr.2.1⟩
  have hbd : hd S 4 (S 1 (s_having S b 4).toNat) := ⟨_, by omega, d2, rfl⟩
  generalize s_having S b 4 = p at *
  by_cases c3 : s_and (S 2 p.toNat) 1 = 0
  · rw [if_pos c3] at hQ
    simp (disch := first | exact hR _ _ | exact x01a | exact x01b | (unfold x_r; omega) | assumption | omega) only [wK_listen_18, wK_listen_18n, wK_listen_20, wK_listen_22n, wK_listen_22, wK_listen_25, wK_listen_27, wK_listen_30, wK_listen_30n, wK_listen_32, wK_listen_34 g0 g1, wK_listen_37, wK_listen_40, wK_listen_42 g0, wK_listen_45, wK_listen_45n, wK_listen_47, wK_listen_52, wK_listen_54, wK_listen_57, wK_listen_58, wK_listen_59, wK_listen_62, wK_listen_63, hc, e0, e1, xa, c3, x_gi_int, x_ga_ref, x_ga_null, List.getElem?_cons_zero, List.getElem?_cons_succ, List.length_cons, List.length_nil, List.set_cons_zero, List.set_cons_succ, Nat.reduceAdd, Nat.reduceLT, xr_lt, xr_eq, xr_toInt, xr_0, xi_add, xi_sub, xi_mul, xr_div, xr_rm, Int.toNat_natCast, bd_t, true_and, and_true, not_false_eq_true, ↓reduceIte, ilt_t, ilt_f, ile_t, x_c1i, x_c1r, x_c1n, and_self, Option.toList_some, Option.toList_none, List.cons_append, List.nil_append, xr_01, xr_00, ieq_f, ieq_t]
    exact hQ w h (Fr.refl w)
  rw [if_neg c3] at hQ
  have hus : us S 4 (S 1 p.toNat) := us_thi (by omega) (by omega) hbd
  obtain ⟨b0, b1, b2, b3, b4⟩ := h.bel hus
  have hbb : x_has w (A 4 (S 1 p.toNat)) [7] := ⟨_, _, b0, by decide⟩
  have bw := hI.1.2.2.2.2.2.2.2.2.2.2.2.1 (S 1 p.toNat / 2).toNat (by omega)
  obtain ⟨t, et⟩ : ∃ t : Nat, s_now S = (t : Int) := ⟨(s_now S).toNat, by omega⟩
  rw [et] at n1 n2 hQ ⊢
  rw [Int.toNat_natCast] at n1 n2
  have hut : us S 2 (8 * (t : Int)) := us_thi (by omega) (by omega) ((hI.1.2.2.2.2.2.1 t n1).2.1.1 (by omega))
  obtain ⟨z0, -⟩ := h.thr hut
  have bl01 : bl = 0 ∨ bl = 1 := hbl
  by_cases c4 : S 24 (S 1 p.toNat / 2).toNat = 0
  · rw [if_pos c4] at hQ
    rcases bl01 with rfl | rfl
    · rw [if_pos rfl] at hQ
      simp (disch := first | exact hR _ _ | exact x01a | exact x01b | (unfold x_r; omega) | assumption | omega) only [wK_listen_18, wK_listen_18n, wK_listen_20, wK_listen_22n, wK_listen_22, wK_listen_25, wK_listen_27, wK_listen_30, wK_listen_30n, wK_listen_32, wK_listen_34 g0 g1, wK_listen_37, wK_listen_40, wK_listen_42 g0, wK_listen_45, wK_listen_45n, wK_listen_47, wK_listen_52, wK_listen_54, wK_listen_57, wK_listen_58, wK_listen_59, wK_listen_64, wK_listen_66, wK_listen_69, wK_listen_89, wK_listen_90, wK_listen_93, wK_listen_95, hc, hbb, e0, e1, b4, xa, c3, c4, x_gi_int, x_ga_ref, x_ga_null, List.getElem?_cons_zero, List.getElem?_cons_succ, List.length_cons, List.length_nil, List.set_cons_zero, List.set_cons_succ, Nat.reduceAdd, Nat.reduceLT, xr_lt, xr_eq, xr_toInt, xr_0, xi_add, xi_sub, xi_mul, xr_div, xr_rm, Int.toNat_natCast, bd_t, true_and, and_true, not_false_eq_true, ↓reduceIte, ilt_t, ilt_f, ile_t, x_c1i, x_c1r, x_c1n, and_self, Option.toList_some, Option.toList_none, List.cons_append, List.nil_append, xr_01, xr_00, ieq_f, ieq_t]
      exact hQ w h (Fr.refl w)
    · rw [if_neg (by omega)] at hQ
      simp (disch := first | exact hR _ _ | exact x01a | exact x01b | (unfold x_r; omega) | assumption | omega) only [wK_listen_18, wK_listen_18n, wK_listen_20, wK_listen_22n, wK_listen_22, wK_listen_25, wK_listen_27, wK_listen_30, wK_listen_30n, wK_listen_32, wK_listen_34 g0 g1, wK_listen_37, wK_listen_40, wK_listen_42 g0, wK_listen_45, wK_listen_45n, wK_listen_47, wK_listen_52, wK_listen_54, wK_listen_57, wK_listen_58, wK_listen_59, wK_listen_64, wK_listen_66, wK_listen_69, wK_listen_89, wK_listen_90, wK_listen_96, wK_listen_97, wK_listen_98, wK_listen_100, hc, hbb, e0, e1, b3, b4, xa, c3, c4, x_gi_int, x_ga_ref, x_ga_null, List.getElem?_cons_zero, List.getElem?_cons_succ, List.length_cons, List.length_nil, List.set_cons_zero, List.set_cons_succ, Nat.reduceAdd, Nat.reduceLT, xr_lt, xr_eq, xr_toInt, xr_0, xi_add, xi_sub, xi_mul, xr_div, xr_rm, Int.toNat_natCast, bd_t, true_and, and_true, not_false_eq_true, ↓reduceIte, ilt_t, ilt_f, ile_t, x_c1i, x_c1r, x_c1n, and_self, Option.toList_some, Option.toList_none, List.cons_append, List.nil_append, xr_01, xr_00, ieq_f, ieq_t]
      refine wK_listen_103 (by simp) rfl rfl (k_becomeWaiting h hA hR hI.lnI (a := -1) n1 hut (by omega) ⟨by omega, by omega⟩ (us_lin (Or.inr (Or.inr (by rw [show S 1 p.toNat + 4 - 4 = S 1 p.toNat by omega]; exact hbd)))) hI.tc (fun x => by omega) (fun x => by omega) (fun w1 h1 fr1 => ?_))
      simp (disch := first | exact hR _ _ | exact x01a | exact x01b | (unfold x_r; omega) | assumption | omega) only [wK_listen_106, wK_listen_108, x_gi_int, x_ga_ref, x_ga_null, List.getElem?_cons_zero, List.getElem?_cons_succ, List.length_cons, List.length_nil, List.set_cons_zero, List.set_cons_succ, Nat.reduceAdd, Nat.reduceLT, xr_lt, xr_eq, xr_toInt, xr_0, xi_add, xi_sub, xi_mul, xr_div, xr_rm, Int.toNat_natCast, bd_t, true_and, and_true, not_false_eq_true, ↓reduceIte, ilt_t, ilt_f, ile_t, x_c1i, x_c1r, x_c1n, and_self, Option.toList_some, Option.toList_none, List.cons_append, List.nil_append, xr_01, xr_00, ieq_f, ieq_t]
      rw [← lid_waits (a := -1) S t (how := 5) (by omega)] at h1
      exact hQ w1 h1 fr1
  · rw [if_neg c4] at hQ
    simp (disch := first | exact hR _ _ | exact x01a | exact x01b | (unfold x_r; omega) | assumption | omega) only [wK_listen_18, wK_listen_18n, wK_listen_20, wK_listen_22n, wK_listen_22, wK_listen_25, wK_listen_27, wK_listen_30, wK_listen_30n, wK_listen_32, wK_listen_34 g0 g1, wK_listen_37, wK_listen_40, wK_listen_42 g0, wK_listen_45, wK_listen_45n, wK_listen_47, wK_listen_52, wK_listen_54, wK_listen_57, wK_listen_58, wK_listen_59, wK_listen_64, wK_listen_66, wK_listen_69, wK_listen_72, wK_listen_73, wK_listen_75, hc, hbb, e0, e1, b4, xa, c3, c4, x_gi_int, x_ga_ref, x_ga_null, List.getElem?_cons_zero, List.getElem?_cons_succ, List.length_cons, List.length_nil, List.set_cons_zero, List.set_cons_succ, Nat.reduceAdd, Nat.reduceLT, xr_lt, xr_eq, xr_toInt, xr_0, xi_add, xi_sub, xi_mul, xr_div, xr_rm, Int.toNat_natCast, bd_t, true_and, and_true, not_false_eq_true, ↓reduceIte, ilt_t, ilt_f, ile_t, x_c1i, x_c1r, x_c1n, and_self, Option.toList_some, Option.toList_none, List.cons_append, List.nil_append, xr_01, xr_00, ieq_f, ieq_t]
    refine wK_listen_78 z0 (by simp) rfl rfl (k_hear h hA hut (fun w1 h1 fr1 => ?_))
    have eu := us_cg (S := S) (S' := s_hears S t (S 24 (S 1 p.toNat / 2).toNat)) (hears_o (by omega)) (hears_o (by omega))
    have ehd := hd_cg (S := S) (S' := s_hears S t (S 24 (S 1 p.toNat / 2).toNat)) (hears_o (by omega)) (hears_o (by omega))
    have hA1 : CapA (s_hears S t (S 24 (S 1 p.toNat / 2).toNat)) := hA.cg (hears_o (by omega)) (hears_o (by omega)) (hears_o (by omega)) (hears_o (by omega)) (hears_o (by omega)) (hears_o (by omega))
    have hb1 : x_has w1 (A 4 (S 1 p.toNat)) [7] := ⟨_, _, h1.tg (by rw [eu]; exact hus), by show (7 : Nat) ∈ [7]; decide⟩
    have h2 := h1.bellw hA1 (u := S 1 p.toNat) (v := 0) (by rw [ehd]; exact hbd)
    simp (disch := first | exact hR _ _ | exact x01a | exact x01b | (unfold x_r; omega) | assumption | omega) only [wK_listen_81, wK_listen_83, wK_listen_84, wK_listen_87, wK_listen_88, hb1, x_f0, x_gi_int, x_ga_ref, x_ga_null, List.getElem?_cons_zero, List.getElem?_cons_succ, List.length_cons, List.length_nil, List.set_cons_zero, List.set_cons_succ, Nat.reduceAdd, Nat.reduceLT, xr_lt, xr_eq, xr_toInt, xr_0, xi_add, xi_sub, xi_mul, xr_div, xr_rm, Int.toNat_natCast, bd_t, true_and, and_true, not_false_eq_true, ↓reduceIte, ilt_t, ilt_f, ile_t, x_c1i, x_c1r, x_c1n, and_self, Option.toList_some, Option.toList_none, List.cons_append, List.nil_append, xr_01, xr_00, ieq_f, ieq_t]
    refine hQ _ ?_ (h1.frp fr1 (by rw [eu]; exact hus) 3 _)
    dsimp only
    rw [lid_o (S := S) (by rw [sset_o (by omega), hears_o (by omega)]) (by rw [sset_o (by omega), hears_o (by omega)]) (by rw [sset_o (by omega), hears_o (by omega)])]
    exact h2
end KQ
