section KT
variable {P : xP} {w : xH} {Q : Option Value → xH → Prop} {A : xA} {S : xS} {ln : Nat → Int}
theorem having_m1 {S : xS} {k : Int} : s_having S (-1) k < 0 := by
  have : s_find S (s_now S).toNat (-1) = -1 := by
    unfold s_find
    split
    · rfl
    · rfl
  unfold s_having
  rw [this, if_pos (by omega)]
  omega
set_option maxHeartbeats 8000000 in
theorem k_configure (h : Rel w A S (lid S)) (hI : Inv S) {t tab spc prio : Int} (ht : x_r t) (hta : x_r tab) (hsp : x_r spc) (hpr : x_r prio) {l5 l6 l7 l8 : Option Value} (hQ : ∀ w', Rel w' A (s_configure S t tab spc prio).2 (lid (s_configure S t tab spc prio).2) → Fr w w' 0 → Q (some (.int (xi (s_configure S t tab spc prio).1))) w') : WP P 42 0 [some (.ref (A 12 0)), some (.int (xi t)), some (.int (xi tab)), some (.int (xi spc)), some (.int (xi prio)), l5, l6, l7, l8] [] w Q := by
  obtain ⟨⟨t0, t1, t2, t3, t4⟩, f0, f1, f2, f3⟩ := h.ker
  have hR := hI.1.1
  have hA := hI.1.2.1
  have hn := s_now_in S
  unfold s_configure at hQ
  simp (disch := first | exact hR _ _ | exact x01a | exact x01b | (unfold x_r; omega) | assumption | omega) only [wK_configure_0, x_gi_int, x_ga_ref, x_ga_null, List.getElem?_cons_zero, List.getElem?_cons_succ, List.length_cons, List.length_nil, List.set_cons_zero, List.set_cons_succ, Nat.reduceAdd, Nat.reduceLT, xr_lt, xr_eq, xr_toInt, xr_0, xi_add, xi_sub, xi_mul, xr_div, xr_rm, Int.toNat_natCast, bd_t, true_and, and_true, not_false_eq_true, ↓reduceIte, ilt_t, ilt_f, ile_t, x_c1i, x_c1r, x_c1n, and_self, Option.toList_some, Option.toList_none, List.cons_append, List.nil_append, xr_01, xr_00, ieq_f, ieq_t]
  refine wK_configure_1 t0 (by simp) rfl rfl (k_currentThread h hI ?_)
  by_cases c1 : s_now S < 0
  · rw [if_pos c1] at hQ
    rw [pv_n c1]
    simp (disch := first | exact hR _ _ | exact x01a | exact x01b | (unfold x_r; omega) | assumption | omega) only [wK_configure_4, wK_configure_4n, wK_configure_6, wK_configure_8n, wK_configure_8, wK_configure_11, wK_configure_13, x_gi_int, x_ga_ref, x_ga_null, List.getElem?_cons_zero, List.getElem?_cons_succ, List.length_cons, List.length_nil, List.set_cons_zero, List.set_cons_succ, Nat.reduceAdd, Nat.reduceLT, xr_lt, xr_eq, xr_toInt, xr_0, xi_add, xi_sub, xi_mul, xr_div, xr_rm, Int.toNat_natCast, bd_t, true_and, and_true, not_false_eq_true, ↓reduceIte, ilt_t, ilt_f, ile_t, x_c1i, x_c1r, x_c1n, and_self, Option.toList_some, Option.toList_none, List.cons_append, List.nil_append, xr_01, xr_00, ieq_f, ieq_t]
    exact hQ w h (Fr.refl w)
  rw [if_neg c1] at hQ
  rw [pv_r c1]
  obtain ⟨n1, n2⟩ := now_is c1
  simp (disch := first | exact hR _ _ | exact x01a | exact x01b | (unfold x_r; omega) | assumption | omega) only [wK_configure_4, wK_configure_4n, wK_configure_6, wK_configure_8n, wK_configure_8, wK_configure_14, wK_configure_15, wK_configure_17, x_gi_int, x_ga_ref, x_ga_null, List.getElem?_cons_zero, List.getElem?_cons_succ, List.length_cons, List.length_nil, List.set_cons_zero, List.set_cons_succ, Nat.reduceAdd, Nat.reduceLT, xr_lt, xr_eq, xr_toInt, xr_0, xi_add, xi_sub, xi_mul, xr_div, xr_rm, Int.toNat_natCast, bd_t, true_and, and_true, not_false_eq_true, ↓reduceIte, ilt_t, ilt_f, ile_t, x_c1i, x_c1r, x_c1n, and_self, Option.toList_some, Option.toList_none, List.cons_append, List.nil_append, xr_01, xr_00, ieq_f, ieq_t]
  refine wK_configure_18 t0 (by simp) rfl rfl (k_threadAt h hI (by omega) (by omega) (by omega) ht ?_)
  rw [← having_hk (by omega)]
  by_cases c2 : s_having S t 2 < 0
  · rw [if_pos c2] at hQ
    rw [pv_n c2]
    simp (disch := first | exact hR _ _ | exact x01a | exact x01b | (unfold x_r; omega) | assumption | omega) only [wK_configure_21, wK_configure_21n, wK_configure_23, wK_configure_25n, wK_configure_25, wK_configure_28, wK_configure_29, x_gi_int, x_ga_ref, x_ga_null, List.getElem?_cons_zero, List.getElem?_cons_succ, List.length_cons, List.length_nil, List.set_cons_zero, List.set_cons_succ, Nat.reduceAdd, Nat.reduceLT, xr_lt, xr_eq, xr_toInt, xr_0, xi_add, xi_sub, xi_mul, xr_div, xr_rm, Int.toNat_natCast, bd_t, true_and, and_true, not_false_eq_true, ↓reduceIte, ilt_t, ilt_f, ile_t, x_c1i, x_c1r, x_c1n, and_self, Option.toList_some, Option.toList_none, List.cons_append, List.nil_append, xr_01, xr_00, ieq_f, ieq_t]
    exact hQ w h (Fr.refl w)
  rw [if_neg c2] at hQ
  rw [pv_r c2]
  obtain ⟨k1, k2, k3⟩ := having_th hI (by omega) c2
  have k4 : S 1 (s_having S t 2).toNat / 8 = ((S 1 (s_having S t 2).toNat / 8).toNat : Int) := by omega
  rw [k4] at hQ
  rw [k3]
  generalize (S 1 (s_having S t 2).toNat / 8).toNat = it at *
  have hut : us S 2 (8 * (it : Int)) := us_thi (by omega) (by omega) ((hI.1.2.2.2.2.2.1 it k1).2.1.1 k2)
  simp (disch := first | exact hR _ _ | exact x01a | exact x01b | (unfold x_r; omega) | assumption | omega) only [wK_configure_21, wK_configure_21n, wK_configure_23, wK_configure_25n, wK_configure_25, wK_configure_30, wK_configure_31, wK_configure_33, x_gi_int, x_ga_ref, x_ga_null, List.getElem?_cons_zero, List.getElem?_cons_succ, List.length_cons, List.length_nil, List.set_cons_zero, List.set_cons_succ, Nat.reduceAdd, Nat.reduceLT, xr_lt, xr_eq, xr_toInt, xr_0, xi_add, xi_sub, xi_mul, xr_div, xr_rm, Int.toNat_natCast, bd_t, true_and, and_true, not_false_eq_true, ↓reduceIte, ilt_t, ilt_f, ile_t, x_c1i, x_c1r, x_c1n, and_self, Option.toList_some, Option.toList_none, List.cons_append, List.nil_append, xr_01, xr_00, ieq_f, ieq_t]
  refine wK_configure_34 t0 (by simp) rfl rfl (k_tableAt h hI (by omega) (by omega) (by omega) hta ?_)
  rw [← having_hk (by omega)]
  have hta0 := hta
  have hsp0 := hsp
  unfold x_r at hta hsp hpr
  by_cases c3 : tab ≠ -1 ∧ s_having S tab 1 < 0
  · rw [if_pos c3] at hQ
    rw [pv_n c3.2]
    have c3' := c3.1
    simp (disch := first | exact hR _ _ | exact x01a | exact x01b | (unfold x_r; omega) | assumption | omega) only [wK_configure_37, wK_configure_37n, wK_configure_39, wK_configure_41n, wK_configure_41, wK_configure_44, wK_configure_45, wK_configure_46, wK_configure_49, wK_configure_50, c3', x_gi_int, x_ga_ref, x_ga_null, List.getElem?_cons_zero, List.getElem?_cons_succ, List.length_cons, List.length_nil, List.set_cons_zero, List.set_cons_succ, Nat.reduceAdd, Nat.reduceLT, xr_lt, xr_eq, xr_toInt, xr_0, xi_add, xi_sub, xi_mul, xr_div, xr_rm, Int.toNat_natCast, bd_t, true_and, and_true, not_false_eq_true, ↓reduceIte, ilt_t, ilt_f, ile_t, x_c1i, x_c1r, x_c1n, and_self, Option.toList_some, Option.toList_none, List.cons_append, List.nil_append, xr_01, xr_00, ieq_f, ieq_t]
    exact hQ w h (Fr.refl w)
  rw [if_neg c3] at hQ
  have vt : pv (s_having S tab 1) (A 1 (S 1 (s_having S tab 1).toNat)) = pv (if tab = -1 then -1 else S 1 (s_having S tab 1).toNat) (A 1 (if tab = -1 then -1 else S 1 (s_having S tab 1).toNat)) := by
    by_cases d : tab = -1
    · rw [if_pos d, d, pv_n having_m1, pv_n (by omega)]
    · rw [if_neg d]
      have g : ¬ s_having S tab 1 < 0 := fun x => c3 ⟨d, x⟩
      have := hA.hd (having_hd hI (by omega) (by omega) g)
      rw [pv_r g, pv_r (by omega)]
  have st : ∀ lo' : List (Option Value), WP P 42 51 ((lo'.set 7 (some (pv (if tab = -1 then -1 else S 1 (s_having S tab 1).toNat) (A 1 (if tab = -1 then -1 else S 1 (s_having S tab 1).toNat)))))) [] w Q → 7 < lo'.length → lo'[2]? = some (some (.int (xi tab))) → WP P 42 37 lo' [pv (s_having S tab 1) (A 1 (S 1 (s_having S tab 1).toNat))] w Q := by
    intro lo' hw hl h2
    rw [← vt] at hw
    have e7 : ∀ x, (lo'.set 7 x)[7]? = some x := fun x => List.getElem?_set_self hl
    have e2 : ∀ x, (lo'.set 7 x)[2]? = lo'[2]? := fun x => List.getElem?_set_ne (by omega)
    by_cases d : s_having S tab 1 < 0
    · have d2 : tab = -1 := Decidable.byContradiction (fun x => c3 ⟨x, d⟩)
      rw [pv_n d] at hw ⊢
      simp (disch := first | exact hR _ _ | exact x01a | exact x01b | (unfold x_r; omega) | assumption | omega) only [wK_configure_37, wK_configure_37n, wK_configure_39, wK_configure_41n, wK_configure_41, wK_configure_44, wK_configure_45, wK_configure_46, hl, e7, e2, h2, d2, x_gi_int, x_ga_ref, x_ga_null, List.getElem?_cons_zero, List.getElem?_cons_succ, List.length_cons, List.length_nil, List.set_cons_zero, List.set_cons_succ, Nat.reduceAdd, Nat.reduceLT, xr_lt, xr_eq, xr_toInt, xr_0, xi_add, xi_sub, xi_mul, xr_div, xr_rm, Int.toNat_natCast, bd_t, true_and, and_true, not_false_eq_true, ↓reduceIte, ilt_t, ilt_f, ile_t, x_c1i, x_c1r, x_c1n, and_self, Option.toList_some, Option.toList_none, List.cons_append, List.nil_append, xr_01, xr_00, ieq_f, ieq_t]
      exact hw
    · rw [pv_r d] at hw ⊢
      simp (disch := first | exact hR _ _ | exact x01a | exact x01b | (unfold x_r; omega) | assumption | omega) only [wK_configure_37, wK_configure_37n, wK_configure_39, wK_configure_41n, wK_configure_41, hl, e7, x_gi_int, x_ga_ref, x_ga_null, List.getElem?_cons_zero, List.getElem?_cons_succ, List.length_cons, List.length_nil, List.set_cons_zero, List.set_cons_succ, Nat.reduceAdd, Nat.reduceLT, xr_lt, xr_eq, xr_toInt, xr_0, xi_add, xi_sub, xi_mul, xr_div, xr_rm, Int.toNat_natCast, bd_t, true_and, and_true, not_false_eq_true, ↓reduceIte, ilt_t, ilt_f, ile_t, x_c1i, x_c1r, x_c1n, and_self, Option.toList_some, Option.toList_none, List.cons_append, List.nil_append, xr_01, xr_00, ieq_f, ieq_t]
      exact hw
  simp only [Option.toList_some, List.cons_append, List.nil_append]
  refine st _ ?_ (by simp) rfl
  simp only [List.set_cons_succ, List.set_cons_zero]
  generalize hta' : (if tab = -1 then -1 else S 1 (s_having S tab 1).toNat) = ta at *
  have hta2 : ta = -1 ∨ hd S 1 ta := by
    rw [← hta']
    split
    · exact Or.inl rfl
    next d => exact Or.inr (having_hd hI (by omega) (by omega) (fun x => c3 ⟨d, x⟩))
  simp (disch := first | exact hR _ _ | exact x01a | exact x01b | (unfold x_r; omega) | assumption | omega) only [wK_configure_51, wK_configure_52, wK_configure_54, x_gi_int, x_ga_ref, x_ga_null, List.getElem?_cons_zero, List.getElem?_cons_succ, List.length_cons, List.length_nil, List.set_cons_zero, List.set_cons_succ, Nat.reduceAdd, Nat.reduceLT, xr_lt, xr_eq, xr_toInt, xr_0, xi_add, xi_sub, xi_mul, xr_div, xr_rm, Int.toNat_natCast, bd_t, true_and, and_true, not_false_eq_true, ↓reduceIte, ilt_t, ilt_f, ile_t, x_c1i, x_c1r, x_c1n, and_self, Option.toList_some, Option.toList_none, List.cons_append, List.nil_append, xr_01, xr_00, ieq_f, ieq_t]
  refine wK_configure_55 t0 (by simp) rfl rfl (k_spaceAt h hI (by omega) (by omega) (by omega) hsp0 ?_)
  rw [← having_hk (by omega)]
  by_cases c4 : spc ≠ -1 ∧ s_having S spc 5 < 0
  · rw [if_pos c4] at hQ
    rw [pv_n c4.2]
    have c4' := c4.1
    simp (disch := first | exact hR _ _ | exact x01a | exact x01b | (unfold x_r; omega) | assumption | omega) only [wK_configure_58, wK_configure_58n, wK_configure_60, wK_configure_62n, wK_configure_62, wK_configure_65, wK_configure_66, wK_configure_67, wK_configure_70, wK_configure_71, c4', x_gi_int, x_ga_ref, x_ga_null, List.getElem?_cons_zero, List.getElem?_cons_succ, List.length_cons, List.length_nil, List.set_cons_zero, List.set_cons_succ, Nat.reduceAdd, Nat.reduceLT, xr_lt, xr_eq, xr_toInt, xr_0, xi_add, xi_sub, xi_mul, xr_div, xr_rm, Int.toNat_natCast, bd_t, true_and, and_true, not_false_eq_true, ↓reduceIte, ilt_t, ilt_f, ile_t, x_c1i, x_c1r, x_c1n, and_self, Option.toList_some, Option.toList_none, List.cons_append, List.nil_append, xr_01, xr_00, ieq_f, ieq_t]
    exact hQ w h (Fr.refl w)
  rw [if_neg c4] at hQ
  have vs : pv (s_having S spc 5) (A 5 (S 1 (s_having S spc 5).toNat)) = pv (if spc = -1 then -1 else S 1 (s_having S spc 5).toNat) (A 5 (if spc = -1 then -1 else S 1 (s_having S spc 5).toNat)) := by
    by_cases d : spc = -1
    · rw [if_pos d, d, pv_n having_m1, pv_n (by omega)]
    · rw [if_neg d]
      have g : ¬ s_having S spc 5 < 0 := fun x => c4 ⟨d, x⟩
      have := hA.hd (having_hd hI (by omega) (by omega) g)
      rw [pv_r g, pv_r (by omega)]
  have ss : ∀ lo' : List (Option Value), WP P 42 72 ((lo'.set 8 (some (pv (if spc = -1 then -1 else S 1 (s_having S spc 5).toNat) (A 5 (if spc = -1 then -1 else S 1 (s_having S spc 5).toNat)))))) [] w Q → 8 < lo'.length → lo'[3]? = some (some (.int (xi spc))) → WP P 42 58 lo' [pv (s_having S spc 5) (A 5 (S 1 (s_having S spc 5).toNat))] w Q := by
    intro lo' hw hl h2
    rw [← vs] at hw
    have e7 : ∀ x, (lo'.set 8 x)[8]? = some x := fun x => List.getElem?_set_self hl
    have e2 : ∀ x, (lo'.set 8 x)[3]? = lo'[3]? := fun x => List.getElem?_set_ne (by omega)
    by_cases d : s_having S spc 5 < 0
    · have d2 : spc = -1 := Decidable.byContradiction (fun x => c4 ⟨x, d⟩)
      rw [pv_n d] at hw ⊢
      simp (disch := first | exact hR _ _ | exact x01a | exact x01b | (unfold x_r; omega) | assumption | omega) only [wK_configure_58, wK_configure_58n, wK_configure_60, wK_configure_62n, wK_configure_62, wK_configure_65, wK_configure_66, wK_configure_67, hl, e7, e2, h2, d2, x_gi_int, x_ga_ref, x_ga_null, List.getElem?_cons_zero, List.getElem?_cons_succ, List.length_cons, List.length_nil, List.set_cons_zero, List.set_cons_succ, Nat.reduceAdd, Nat.reduceLT, xr_lt, xr_eq, xr_toInt, xr_0, xi_add, xi_sub, xi_mul, xr_div, xr_rm, Int.toNat_natCast, bd_t, true_and, and_true, not_false_eq_true, ↓reduceIte, ilt_t, ilt_f, ile_t, x_c1i, x_c1r, x_c1n, and_self, Option.toList_some, Option.toList_none, List.cons_append, List.nil_append, xr_01, xr_00, ieq_f, ieq_t]
      exact hw
    · rw [pv_r d] at hw ⊢
      simp (disch := first | exact hR _ _ | exact x01a | exact x01b | (unfold x_r; omega) | assumption | omega) only [wK_configure_58, wK_configure_58n, wK_configure_60, wK_configure_62n, wK_configure_62, hl, e7, x_gi_int, x_ga_ref, x_ga_null, List.getElem?_cons_zero, List.getElem?_cons_succ, List.length_cons, List.length_nil, List.set_cons_zero, List.set_cons_succ, Nat.reduceAdd, Nat.reduceLT, xr_lt, xr_eq, xr_toInt, xr_0, xi_add, xi_sub, xi_mul, xr_div, xr_rm, Int.toNat_natCast, bd_t, true_and, and_true, not_false_eq_true, ↓reduceIte, ilt_t, ilt_f, ile_t, x_c1i, x_c1r, x_c1n, and_self, Option.toList_some, Option.toList_none, List.cons_append, List.nil_append, xr_01, xr_00, ieq_f, ieq_t]
      exact hw
  simp only [Option.toList_some, List.cons_append, List.nil_append]
  refine ss _ ?_ (by simp) rfl
  simp only [List.set_cons_succ, List.set_cons_zero]
  generalize hsp' : (if spc = -1 then -1 else S 1 (s_having S spc 5).toNat) = sp at *
  have hsp2 : sp = -1 ∨ hd S 5 sp := by
    rw [← hsp']
    split
    · exact Or.inl rfl
    next d => exact Or.inr (having_hd hI (by omega) (by omega) (fun x => c4 ⟨d, x⟩))
  by_cases c5 : prio < 0
  · rw [if_pos c5] at hQ
    simp (disch := first | exact hR _ _ | exact x01a | exact x01b | (unfold x_r; omega) | assumption | omega) only [wK_configure_72, wK_configure_74, wK_configure_83, wK_configure_84, x_gi_int, x_ga_ref, x_ga_null, List.getElem?_cons_zero, List.getElem?_cons_succ, List.length_cons, List.length_nil, List.set_cons_zero, List.set_cons_succ, Nat.reduceAdd, Nat.reduceLT, xr_lt, xr_eq, xr_toInt, xr_0, xi_add, xi_sub, xi_mul, xr_div, xr_rm, Int.toNat_natCast, bd_t, true_and, and_true, not_false_eq_true, ↓reduceIte, ilt_t, ilt_f, ile_t, x_c1i, x_c1r, x_c1n, and_self, Option.toList_some, Option.toList_none, List.cons_append, List.nil_append, xr_01, xr_00, ieq_f, ieq_t]
    exact hQ w h (Fr.refl w)
  rw [if_neg c5] at hQ
  by_cases c6 : 3 < prio
  · rw [if_pos c6] at hQ
    simp (disch := first | exact hR _ _ | exact x01a | exact x01b | (unfold x_r; omega) | assumption | omega) only [wK_configure_72, wK_configure_74, wK_configure_77, wK_configure_79, wK_configure_80, wK_configure_83, wK_configure_84, x_gi_int, x_ga_ref, x_ga_null, List.getElem?_cons_zero, List.getElem?_cons_succ, List.length_cons, List.length_nil, List.set_cons_zero, List.set_cons_succ, Nat.reduceAdd, Nat.reduceLT, xr_lt, xr_eq, xr_toInt, xr_0, xi_add, xi_sub, xi_mul, xr_div, xr_rm, Int.toNat_natCast, bd_t, true_and, and_true, not_false_eq_true, ↓reduceIte, ilt_t, ilt_f, ile_t, x_c1i, x_c1r, x_c1n, and_self, Option.toList_some, Option.toList_none, List.cons_append, List.nil_append, xr_01, xr_00, ieq_f, ieq_t]
    exact hQ w h (Fr.refl w)
  rw [if_neg c6] at hQ
  obtain ⟨y0, y1, y2, y3, y4, y5, -⟩ := h.thr (t := s_now S) (us_thr hI (by omega) (by omega) (by omega))
  have hy : x_has w (A 2 (8 * s_now S)) [2] := ⟨_, _, y0, by decide⟩
  have tbn := (hI.1.2.2.2.2.2.2.1 (s_now S).toNat n1 (by omega)).1
  by_cases c7 : S 13 (s_now S).toNat < prio
  · rw [if_pos c7] at hQ
    simp (disch := first | exact hR _ _ | exact x01a | exact x01b | (unfold x_r; omega) | assumption | omega) only [wK_configure_72, wK_configure_74, wK_configure_77, wK_configure_79, wK_configure_80, wK_configure_85, wK_configure_87, wK_configure_89, wK_configure_92, wK_configure_95, wK_configure_96, hy, y5, x_gi_int, x_ga_ref, x_ga_null, List.getElem?_cons_zero, List.getElem?_cons_succ, List.length_cons, List.length_nil, List.set_cons_zero, List.set_cons_succ, Nat.reduceAdd, Nat.reduceLT, xr_lt, xr_eq, xr_toInt, xr_0, xi_add, xi_sub, xi_mul, xr_div, xr_rm, Int.toNat_natCast, bd_t, true_and, and_true, not_false_eq_true, ↓reduceIte, ilt_t, ilt_f, ile_t, x_c1i, x_c1r, x_c1n, and_self, Option.toList_some, Option.toList_none, List.cons_append, List.nil_append, xr_01, xr_00, ieq_f, ieq_t]
    exact hQ w h (Fr.refl w)
  rw [if_neg c7] at hQ
  obtain ⟨z0, -⟩ := h.thr hut
  have hz : x_has w (A 2 (8 * (it : Int))) [2] := ⟨_, _, z0, by decide⟩
  have h1 := h.tptr hA hut (j := 11) (f := 2) (v := ta) (k := 1) (by omega)
  have eu := us_cg (S := S) (S' := sset S 11 it ta) (sset_o (by omega)) (sset_o (by omega))
  have hA1 : CapA (sset S 11 it ta) := hA.cg (sset_o (by omega)) (sset_o (by omega)) (sset_o (by omega)) (sset_o (by omega)) (sset_o (by omega)) (sset_o (by omega))
  have h2 := h1.tptr hA1 (by rw [eu]; exact hut) (j := 12) (f := 3) (v := sp) (k := 5) (by omega)
  have fr2 := h1.frp (h.frp (Fr.refl w) hut 2 (pv ta (A 1 ta))) (by rw [eu]; exact hut) 3 (pv sp (A 5 sp))
  have hI2 : Inv (s_cf1 S it ta sp) := hI.cf1 hta2 hsp2
  have l2 : lid (s_cf1 S it ta sp) = lid S := by
    unfold s_cf1
    exact lid_o (by rw [sset_o (by omega), sset_o (by omega)]) (by rw [sset_o (by omega), sset_o (by omega)]) (by rw [sset_o (by omega), sset_o (by omega)])
  have h2 : Rel (x_put (x_put w (A 2 (8 * (it : Int))) 2 (pv ta (A 1 ta))) (A 2 (8 * (it : Int))) 3 (pv sp (A 5 sp))) A (s_cf1 S it ta sp) (lid (s_cf1 S it ta sp)) := by
    rw [l2]
    exact h2
  have ga : ∀ (a : Int) (b : Nat) (k : Value → Prop), x_ga (some (some (pv a b))) k = k (pv a b) := by
    intro a b k
    unfold pv
    split <;> rfl
  simp (disch := first | exact hR _ _ | exact x01a | exact x01b | (unfold x_r; omega) | assumption | omega) only [wK_configure_72, wK_configure_74, wK_configure_77, wK_configure_79, wK_configure_80, wK_configure_85, wK_configure_87, wK_configure_89, wK_configure_92, wK_configure_97, wK_configure_99, wK_configure_101, wK_configure_104, wK_configure_106, wK_configure_108, wK_configure_111, wK_configure_112, wK_configure_114, x_has_put, x_f2p, ga, hy, y5, hz, x_gi_int, x_ga_ref, x_ga_null, List.getElem?_cons_zero, List.getElem?_cons_succ, List.length_cons, List.length_nil, List.set_cons_zero, List.set_cons_succ, Nat.reduceAdd, Nat.reduceLT, xr_lt, xr_eq, xr_toInt, xr_0, xi_add, xi_sub, xi_mul, xr_div, xr_rm, Int.toNat_natCast, bd_t, true_and, and_true, not_false_eq_true, ↓reduceIte, ilt_t, ilt_f, ile_t, x_c1i, x_c1r, x_c1n, and_self, Option.toList_some, Option.toList_none, List.cons_append, List.nil_append, xr_01, xr_00, ieq_f, ieq_t]
  refine wK_configure_116 t0 (by simp) rfl rfl (k_changePriority h2 hI2 k1 (by unfold s_cf1; rw [sset_o (by omega), sset_o (by omega)]; exact k2) ⟨by omega, by omega⟩ (fun w3 h3 fr3 => ?_))
  simp (disch := first | exact hR _ _ | exact x01a | exact x01b | (unfold x_r; omega) | assumption | omega) only [wK_configure_119, wK_configure_120, x_gi_int, x_ga_ref, x_ga_null, List.getElem?_cons_zero, List.getElem?_cons_succ, List.length_cons, List.length_nil, List.set_cons_zero, List.set_cons_succ, Nat.reduceAdd, Nat.reduceLT, xr_lt, xr_eq, xr_toInt, xr_0, xi_add, xi_sub, xi_mul, xr_div, xr_rm, Int.toNat_natCast, bd_t, true_and, and_true, not_false_eq_true, ↓reduceIte, ilt_t, ilt_f, ile_t, x_c1i, x_c1r, x_c1n, and_self, Option.toList_some, Option.toList_none, List.cons_append, List.nil_append, xr_01, xr_00, ieq_f, ieq_t]
  exact hQ w3 h3 (fr2.trans fr3 (by omega))
end KT
