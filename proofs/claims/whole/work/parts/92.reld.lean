/-- a capability handed over: the answer and the state but the mark -/
def s_ho (S : xS) (a b : Nat) : Int × xS := if S 23 a = 0 then (0, S) else if s_find S a (S 20 a) < 0 then (0, S) else if s_find S b (S 20 b) < 0 then (0, S) else if S 0 (s_find S a (S 20 a)).toNat ≤ 0 then (0, S) else if S 0 (s_find S b (S 20 b)).toNat < 0 then (1, sset (sset (s_fill S (s_find S b (S 20 b)) (S 0 (s_find S a (S 20 a)).toNat) (S 1 (s_find S a (S 20 a)).toNat) 0 (s_find S a (S 20 a))) 2 (s_find S b (S 20 b)).toNat (S 2 (s_find S a (S 20 a)).toNat)) 3 (s_find S b (S 20 b)).toNat (S 3 (s_find S a (S 20 a)).toNat)) else (0, S)
section KW
variable {P : xP} {w : xH} {Q : Option Value → xH → Prop} {A : xA} {S : xS} {ln : Nat → Int}
set_option maxHeartbeats 8000000 in
theorem k_handOver (h : Rel w A S ln) (hI : Inv S) {a b : Nat} (ha : a < 16) (hal : S 10 a ≠ 0) (hb : b < 16) (hbl : S 10 b ≠ 0) (x14 : x_fd w (A 2 (8 * (a : Int))) 14 = .int (xi (S 23 a))) (x15 : x_fd w (A 2 (8 * (a : Int))) 15 = .int (xi (S 20 a))) (y15 : x_fd w (A 2 (8 * (b : Int))) 15 = .int (xi (S 20 b))) {l3 l4 : Option Value}
    (hQ : ∀ w' A', (∀ k, k ≠ 8 → k ≠ 0 → A' k = A k) → Rel w' A' (s_ho S a b).2 ln → Fr w w' 1 → Q (some (.int (xi (s_ho S a b).1))) w') : WP P 52 0 [some (.ref (A 12 0)), some (.ref (A 2 (8 * (a : Int)))), some (.ref (A 2 (8 * (b : Int)))), l3, l4] [] w Q := by
  obtain ⟨⟨t0, t1, t2, t3, t4⟩, f0, f1, f2, f3⟩ := h.ker
  have hR := hI.1.1
  have hA := hI.1.2.1
  have fr0 : Fr w w 1 := (Fr.refl w).le (by omega)
  have hua : us S 2 (8 * (a : Int)) := us_thi (by omega) (by omega) ((hI.1.2.2.2.2.2.1 a ha).2.1.1 hal)
  have hub : us S 2 (8 * (b : Int)) := us_thi (by omega) (by omega) ((hI.1.2.2.2.2.2.1 b hb).2.1.1 hbl)
  have hxa : x_has w (A 2 (8 * (a : Int))) [2] := ⟨_, _, (h.thr hua).1, by decide⟩
  have hxb : x_has w (A 2 (8 * (b : Int))) [2] := ⟨_, _, (h.thr hub).1, by decide⟩
  have same : ∀ k, k ≠ 8 → k ≠ 0 → A k = A k := fun _ _ _ => rfl
  unfold s_ho at hQ
  by_cases c1 : S 23 a = 0
  · rw [if_pos c1] at hQ
    rw [c1] at x14
    simp (disch := first | exact hR _ _ | exact x01a | exact x01b | (unfold x_r; omega) | assumption | omega) only [wK_handOver_0, wK_handOver_1, wK_handOver_4, wK_handOver_7, wK_handOver_8, hxa, x14, true_or, or_true, x_gi_int, x_ga_ref, x_ga_null, List.getElem?_cons_zero, List.getElem?_cons_succ, List.length_cons, List.length_nil, List.set_cons_zero, List.set_cons_succ, Nat.reduceAdd, Nat.reduceLT, xr_lt, xr_eq, xr_toInt, xr_0, xi_add, xi_sub, xi_mul, xr_div, xr_rm, Int.toNat_natCast, bd_t, true_and, and_true, not_false_eq_true, ↓reduceIte, ilt_t, ilt_f, ile_t, x_c1i, x_c1r, x_c1n, and_self, Option.toList_some, Option.toList_none, List.cons_append, List.nil_append, xr_01, xr_00, ieq_f, ieq_t]
    exact hQ w A same h fr0
  rw [if_neg c1] at hQ
  simp (disch := first | exact hR _ _ | exact x01a | exact x01b | (unfold x_r; omega) | assumption | omega) only [wK_handOver_0, wK_handOver_1, wK_handOver_4, wK_handOver_9, wK_handOver_10, wK_handOver_11, wK_handOver_12, hxa, x14, x15, c1, x_gi_int, x_ga_ref, x_ga_null, List.getElem?_cons_zero, List.getElem?_cons_succ, List.length_cons, List.length_nil, List.set_cons_zero, List.set_cons_succ, Nat.reduceAdd, Nat.reduceLT, xr_lt, xr_eq, xr_toInt, xr_0, xi_add, xi_sub, xi_mul, xr_div, xr_rm, Int.toNat_natCast, bd_t, true_and, and_true, not_false_eq_true, ↓reduceIte, ilt_t, ilt_f, ile_t, x_c1i, x_c1r, x_c1n, and_self, Option.toList_some, Option.toList_none, List.cons_append, List.nil_append, xr_01, xr_00, ieq_f, ieq_t]
  refine wK_handOver_15 t0 (by simp) rfl rfl (k_capabilityAt h hI (t := (a : Int)) (by omega) (by omega) (by rw [Int.toNat_natCast]; exact hal) (hR _ _) ?_)
  rw [Int.toNat_natCast]
  have hfa := s_find_in hI.gs.1 ha (S 20 a)
  have hfb := s_find_in hI.gs.1 hb (S 20 b)
  by_cases c2 : s_find S a (S 20 a) < 0
  · rw [if_pos c2] at hQ
    have e : s_hv S a (S 20 a) = -1 := if_pos c2
    rw [e, pv_n (by omega)]
    simp (disch := first | exact hR _ _ | exact x01a | exact x01b | (unfold x_r; omega) | assumption | omega) only [wK_handOver_18, wK_handOver_18n, wK_handOver_19, wK_handOver_20n, wK_handOver_20, wK_handOver_33, wK_handOver_34, true_or, or_true, x_gi_int, x_ga_ref, x_ga_null, List.getElem?_cons_zero, List.getElem?_cons_succ, List.length_cons, List.length_nil, List.set_cons_zero, List.set_cons_succ, Nat.reduceAdd, Nat.reduceLT, xr_lt, xr_eq, xr_toInt, xr_0, xi_add, xi_sub, xi_mul, xr_div, xr_rm, Int.toNat_natCast, bd_t, true_and, and_true, not_false_eq_true, ↓reduceIte, ilt_t, ilt_f, ile_t, x_c1i, x_c1r, x_c1n, and_self, Option.toList_some, Option.toList_none, List.cons_append, List.nil_append, xr_01, xr_00, ieq_f, ieq_t]
    exact hQ w A same h fr0
  rw [if_neg c2] at hQ
  have ev : s_hv S a (S 20 a) = if S 0 (s_find S a (S 20 a)).toNat < 0 then -1 else s_find S a (S 20 a) := if_neg c2
  by_cases c4 : S 0 (s_find S a (S 20 a)).toNat ≤ 0
  · have hQ0 : Q (some (.int (xi 0))) w := by
      rw [if_pos c4] at hQ
      split at hQ
      · exact hQ w A same h fr0
      · exact hQ w A same h fr0
    by_cases c5 : S 0 (s_find S a (S 20 a)).toNat < 0
    · rw [ev, if_pos c5, pv_n (by omega)]
      simp (disch := first | exact hR _ _ | exact x01a | exact x01b | (unfold x_r; omega) | assumption | omega) only [wK_handOver_18, wK_handOver_18n, wK_handOver_19, wK_handOver_20n, wK_handOver_20, wK_handOver_33, wK_handOver_34, true_or, or_true, x_gi_int, x_ga_ref, x_ga_null, List.getElem?_cons_zero, List.getElem?_cons_succ, List.length_cons, List.length_nil, List.set_cons_zero, List.set_cons_succ, Nat.reduceAdd, Nat.reduceLT, xr_lt, xr_eq, xr_toInt, xr_0, xi_add, xi_sub, xi_mul, xr_div, xr_rm, Int.toNat_natCast, bd_t, true_and, and_true, not_false_eq_true, ↓reduceIte, ilt_t, ilt_f, ile_t, x_c1i, x_c1r, x_c1n, and_self, Option.toList_some, Option.toList_none, List.cons_append, List.nil_append, xr_01, xr_00, ieq_f, ieq_t]
      exact hQ0
    · rw [ev, if_neg c5, pv_r c2]
      obtain ⟨ct, e0, -⟩ := h.cap (p := s_find S a (S 20 a)) (by omega) (by omega) (by omega)
      obtain ⟨n, g0, g1, g2, g3⟩ := h.thg hA (p := s_find S a (S 20 a)) (by omega) (by omega) (by omega)
      have hc : x_has w (A 8 (s_find S a (S 20 a))) [1] := ⟨_, _, ct, by decide⟩
      have hg : x_has w (thA A S (s_find S a (S 20 a))) [2, 4, 5, 6, 7, 8, 9, 10] := ⟨_, _, g0, g1⟩
      have c6 : S 0 (s_find S a (S 20 a)).toNat = 0 := by omega
      simp (disch := first | exact hR _ _ | exact x01a | exact x01b | (unfold x_r; omega) | assumption | omega) only [wK_handOver_18, wK_handOver_18n, wK_handOver_19, wK_handOver_20n, wK_handOver_20, wK_handOver_23, wK_handOver_24, wK_handOver_27, wK_handOver_30, wK_handOver_33, wK_handOver_34, hc, hg, e0, g2, c6, true_or, or_true, x_gi_int, x_ga_ref, x_ga_null, List.getElem?_cons_zero, List.getElem?_cons_succ, List.length_cons, List.length_nil, List.set_cons_zero, List.set_cons_succ, Nat.reduceAdd, Nat.reduceLT, xr_lt, xr_eq, xr_toInt, xr_0, xi_add, xi_sub, xi_mul, xr_div, xr_rm, Int.toNat_natCast, bd_t, true_and, and_true, not_false_eq_true, ↓reduceIte, ilt_t, ilt_f, ile_t, x_c1i, x_c1r, x_c1n, and_self, Option.toList_some, Option.toList_none, List.cons_append, List.nil_append, xr_01, xr_00, ieq_f, ieq_t]
      exact hQ0
  rw [ev, if_neg (by omega), pv_r c2]
  obtain ⟨ct, e0, e1, e2, -⟩ := h.cap (p := s_find S a (S 20 a)) (by omega) (by omega) (by omega)
  obtain ⟨n, g0, g1, g2, g3⟩ := h.thg hA (p := s_find S a (S 20 a)) (by omega) (by omega) (by omega)
  have hc : x_has w (A 8 (s_find S a (S 20 a))) [1] := ⟨_, _, ct, by decide⟩
  have hg : x_has w (thA A S (s_find S a (S 20 a))) [2, 4, 5, 6, 7, 8, 9, 10] := ⟨_, _, g0, g1⟩
  have c6 : ¬ S 0 (s_find S a (S 20 a)).toNat = 0 := by omega
  simp (disch := first | exact hR _ _ | exact x01a | exact x01b | (unfold x_r; omega) | assumption | omega) only [wK_handOver_18, wK_handOver_18n, wK_handOver_19, wK_handOver_20n, wK_handOver_20, wK_handOver_23, wK_handOver_24, wK_handOver_27, wK_handOver_30, wK_handOver_35, wK_handOver_36, wK_handOver_37, wK_handOver_38, hc, hg, hxb, e0, g2, c6, y15, x_gi_int, x_ga_ref, x_ga_null, List.getElem?_cons_zero, List.getElem?_cons_succ, List.length_cons, List.length_nil, List.set_cons_zero, List.set_cons_succ, Nat.reduceAdd, Nat.reduceLT, xr_lt, xr_eq, xr_toInt, xr_0, xi_add, xi_sub, xi_mul, xr_div, xr_rm, Int.toNat_natCast, bd_t, true_and, and_true, not_false_eq_true, ↓reduceIte, ilt_t, ilt_f, ile_t, x_c1i, x_c1r, x_c1n, and_self, Option.toList_some, Option.toList_none, List.cons_append, List.nil_append, xr_01, xr_00, ieq_f, ieq_t]
  refine wK_handOver_41 t0 (by simp) rfl rfl (k_placeOf h hI (t := (b : Int)) (by omega) (by omega) (by rw [Int.toNat_natCast]; exact hbl) (hR _ _) ?_)
  rw [Int.toNat_natCast]
  simp (disch := first | exact hR _ _ | exact x01a | exact x01b | (unfold x_r; omega) | assumption | omega) only [wK_handOver_44, wK_handOver_46, wK_handOver_47, x_gi_int, x_ga_ref, x_ga_null, List.getElem?_cons_zero, List.getElem?_cons_succ, List.length_cons, List.length_nil, List.set_cons_zero, List.set_cons_succ, Nat.reduceAdd, Nat.reduceLT, xr_lt, xr_eq, xr_toInt, xr_0, xi_add, xi_sub, xi_mul, xr_div, xr_rm, Int.toNat_natCast, bd_t, true_and, and_true, not_false_eq_true, ↓reduceIte, ilt_t, ilt_f, ile_t, x_c1i, x_c1r, x_c1n, and_self, Option.toList_some, Option.toList_none, List.cons_append, List.nil_append, xr_01, xr_00, ieq_f, ieq_t]
  refine wK_handOver_49 t0 (by simp) rfl rfl (k_isEmptySlot h hfb.1 hfb.2 ?_)
  by_cases c3 : s_find S b (S 20 b) < 0
  · rw [if_pos c3] at hQ
    rw [if_pos (by omega)]
    simp (disch := first | exact hR _ _ | exact x01a | exact x01b | (unfold x_r; omega) | assumption | omega) only [wK_handOver_52, wK_handOver_55, wK_handOver_56, true_or, or_true, x_gi_int, x_ga_ref, x_ga_null, List.getElem?_cons_zero, List.getElem?_cons_succ, List.length_cons, List.length_nil, List.set_cons_zero, List.set_cons_succ, Nat.reduceAdd, Nat.reduceLT, xr_lt, xr_eq, xr_toInt, xr_0, xi_add, xi_sub, xi_mul, xr_div, xr_rm, Int.toNat_natCast, bd_t, true_and, and_true, not_false_eq_true, ↓reduceIte, ilt_t, ilt_f, ile_t, x_c1i, x_c1r, x_c1n, and_self, Option.toList_some, Option.toList_none, List.cons_append, List.nil_append, xr_01, xr_00, ieq_f, ieq_t]
    exact hQ w A same h fr0
  rw [if_neg c3, if_neg c4] at hQ
  rw [if_neg (by omega)]
  by_cases c7 : ¬ S 0 (s_find S b (S 20 b)).toNat < 0
  · rw [if_neg c7] at hQ ⊢
    simp (disch := first | exact hR _ _ | exact x01a | exact x01b | (unfold x_r; omega) | assumption | omega) only [wK_handOver_52, wK_handOver_55, wK_handOver_56, true_or, or_true, x_gi_int, x_ga_ref, x_ga_null, List.getElem?_cons_zero, List.getElem?_cons_succ, List.length_cons, List.length_nil, List.set_cons_zero, List.set_cons_succ, Nat.reduceAdd, Nat.reduceLT, xr_lt, xr_eq, xr_toInt, xr_0, xi_add, xi_sub, xi_mul, xr_div, xr_rm, Int.toNat_natCast, bd_t, true_and, and_true, not_false_eq_true, ↓reduceIte, ilt_t, ilt_f, ile_t, x_c1i, x_c1r, x_c1n, and_self, Option.toList_some, Option.toList_none, List.cons_append, List.nil_append, xr_01, xr_00, ieq_f, ieq_t]
    exact hQ w A same h fr0
  have c7 := Decidable.not_not.1 c7
  rw [if_pos c7] at hQ ⊢
  obtain ⟨d, ed⟩ : ∃ d : Nat, s_find S b (S 20 b) = (d : Int) := ⟨(s_find S b (S 20 b)).toNat, by omega⟩
  obtain ⟨fp, efp⟩ : ∃ fp : Nat, s_find S a (S 20 a) = (fp : Int) := ⟨(s_find S a (S 20 a)).toNat, by omega⟩
  rw [ed, efp] at hQ
  rw [ed] at c7 hfb ⊢
  rw [efp] at ct e0 e1 e2 g0 g1 g2 g3 hc hg c6 c4 hfa ⊢
  simp only [Int.toNat_natCast] at ct e0 e1 e2 g0 g1 g2 g3 c6 c4 c7 hQ
  have t0n : x_tg (x_new w 1 8 (x_df 1)) (A 12 0) = some (0, 4) := by
    rw [x_tg_new, if_neg (by have := h.lt (us_ker (i := 0) (by omega)); omega)]; exact t0
  have t1n : x_tg (x_new w 1 8 (x_df 1)) (A 12 1) = some (31, 128) := by
    rw [x_tg_new, if_neg (by have := h.lt (us_ker (i := 1) (by omega)); omega)]; exact t1
  have f0n : x_fd (x_new w 1 8 (x_df 1)) (A 12 0) 0 = .ref (A 12 1) := by
    rw [x_fd_new, if_neg (by have := h.lt (us_ker (i := 0) (by omega)); omega)]; exact f0
  have lc := h.lt (us_cap (p := (fp : Int)) (by omega) (by omega) (by rw [Int.toNat_natCast]; omega))
  have hcn : x_has (x_new w 1 8 (x_df 1)) (A 8 (fp : Int)) [1] := ⟨_, _, by rw [x_tg_new, if_neg (by omega)]; exact ct, by decide⟩
  have e0n : x_fd (x_new w 1 8 (x_df 1)) (A 8 (fp : Int)) 0 = .ref (thA A S (fp : Int)) := by rw [x_fd_new, if_neg (by omega)]; exact e0
  have e1n : x_fd (x_new w 1 8 (x_df 1)) (A 8 (fp : Int)) 1 = .int (xi (S 2 fp)) := by rw [x_fd_new, if_neg (by omega)]; exact e1
  have e2n : x_fd (x_new w 1 8 (x_df 1)) (A 8 (fp : Int)) 2 = .int (xi (S 3 fp)) := by rw [x_fd_new, if_neg (by omega)]; exact e2
  have tn : x_tg (x_new w 1 8 (x_df 1)) (x_sz w) = some (1, 8) := by rw [x_tg_new, if_pos rfl]
  simp (disch := first | exact hR _ _ | exact x01a | exact x01b | (unfold x_r; omega) | assumption | omega) only [wK_handOver_52, wK_handOver_57, wK_handOver_58, wK_handOver_61, wK_handOver_62, wK_handOver_63, wK_handOver_66, wK_handOver_67, wK_handOver_70, wK_handOver_71, wK_handOver_74, hcn, e0n, e1n, e2n, x_gi_int, x_ga_ref, x_ga_null, List.getElem?_cons_zero, List.getElem?_cons_succ, List.length_cons, List.length_nil, List.set_cons_zero, List.set_cons_succ, Nat.reduceAdd, Nat.reduceLT, xr_lt, xr_eq, xr_toInt, xr_0, xi_add, xi_sub, xi_mul, xr_div, xr_rm, Int.toNat_natCast, bd_t, true_and, and_true, not_false_eq_true, ↓reduceIte, ilt_t, ilt_f, ile_t, x_c1i, x_c1r, x_c1n, and_self, Option.toList_some, Option.toList_none, List.cons_append, List.nil_append, xr_01, xr_00, ieq_f, ieq_t]
  have ci := k_capInit (P := P) (w := x_new w 1 8 (x_df 1)) (a := x_sz w) (th := thA A S (fp : Int)) (r := S 2 fp) (b := S 3 fp) (p := (fp : Int)) (pa := A 8 (fp : Int)) ⟨_, _, tn, by decide⟩ (Q := fun v w1 => WP P 52 78 [some (.ref (A 12 0)), some (.ref (A 2 (8 * (a : Int)))), some (.ref (A 2 (8 * (b : Int)))), some (.ref (A 8 (fp : Int))), some (.int (xi (d : Int)))] (v.toList ++ [.ref (x_sz w), .ref (A 12 0)]) w1 Q) ?_
  · rw [pv_r (by omega)] at ci
    exact wK_handOver_75 (by simp) rfl rfl ci
  · simp (disch := first | exact hR _ _ | exact x01a | exact x01b | (unfold x_r; omega) | assumption | omega) only [wK_handOver_78, x_gi_int, x_ga_ref, x_ga_null, List.getElem?_cons_zero, List.getElem?_cons_succ, List.length_cons, List.length_nil, List.set_cons_zero, List.set_cons_succ, Nat.reduceAdd, Nat.reduceLT, xr_lt, xr_eq, xr_toInt, xr_0, xi_add, xi_sub, xi_mul, xr_div, xr_rm, Int.toNat_natCast, bd_t, true_and, and_true, not_false_eq_true, ↓reduceIte, ilt_t, ilt_f, ile_t, x_c1i, x_c1r, x_c1n, and_self, Option.toList_some, Option.toList_none, List.cons_append, List.nil_append, xr_01, xr_00, ieq_f, ieq_t]
    refine wK_handOver_80 t0n (by simp) rfl rfl (k_put (m := 8) ⟨_, _, t0n, by decide⟩ ?_ t1n tn (by omega) ?_)
    · rw [x_fd_put, if_neg (by omega), x_fd_put, if_neg (by omega), x_fd_put, if_neg (by omega), x_fd_put, if_neg (fun x => by have := h.lt (us_ker (i := 0) (by omega)); omega)]
      exact f0n
    · simp (disch := first | exact hR _ _ | exact x01a | exact x01b | (unfold x_r; omega) | assumption | omega) only [wK_handOver_83, wK_handOver_84, true_or, or_true, x_gi_int, x_ga_ref, x_ga_null, List.getElem?_cons_zero, List.getElem?_cons_succ, List.length_cons, List.length_nil, List.set_cons_zero, List.set_cons_succ, Nat.reduceAdd, Nat.reduceLT, xr_lt, xr_eq, xr_toInt, xr_0, xi_add, xi_sub, xi_mul, xr_div, xr_rm, Int.toNat_natCast, bd_t, true_and, and_true, not_false_eq_true, ↓reduceIte, ilt_t, ilt_f, ile_t, x_c1i, x_c1r, x_c1n, and_self, Option.toList_some, Option.toList_none, List.cons_append, List.nil_append, xr_01, xr_00, ieq_f, ieq_t]
      have fd := fill_d (S := S) (s := (d : Int)) (k := S 0 fp) (u := S 1 fp) (size := 0) (from_ := (fp : Int))
      rw [Int.toNat_natCast (n := d)] at fd
      have T0 : ∀ T : xS, T = (sset (sset (s_fill S (d : Int) (S 0 fp) (S 1 fp) 0 (fp : Int)) 2 d (S 2 fp)) 3 d (S 3 fp)) → Rel (capW w (A 12 1) d (thA A S (fp : Int)) (S 2 fp) (S 3 fp) (fp : Int) (A 8 (fp : Int))) (aup A 8 (d : Int) (x_sz w)) T ln := by
        intro T eT
        have o : ∀ j, 9 ≤ j → T j = S j := by
          intro j hj
          rw [eT, sset_o (by omega), sset_o (by omega), fill_o hj]
        have T2 : T 2 d = S 2 fp := by rw [eT, sset_o (by omega), sset_at, if_pos ⟨rfl, rfl⟩]
        have T3 : T 3 d = S 3 fp := by rw [eT, sset_at, if_pos ⟨rfl, rfl⟩]
        have := h.copyc (T := T) hI (d := d) (f := fp) (by omega) c7 (by omega) (by omega) o (fun j i hj hi => by rw [eT, sset_at, if_neg (fun x => hi x.2), sset_at, if_neg (fun x => hi x.2), fill_i (by rw [Int.toNat_natCast]; exact hi)]) (by rw [eT, sset_o (by omega), sset_o (by omega), fd.1]) (by rw [eT, sset_o (by omega), sset_o (by omega), fd.2.1]) (by rw [eT, sset_o (by omega), sset_o (by omega), fd.2.2.1]) (by rw [eT, sset_o (by omega), sset_o (by omega), fd.2.2.2.2.2])
        rw [T2, T3] at this
        exact this
      exact hQ _ _ aup_8 (T0 _ rfl) (h.newfr (Fr.refl w) (us_ker (by omega)) d _ _ _ _ _)
theorem ho_e {S : xS} {a b j : Nat} (hj : 9 ≤ j) : (s_ho S a b).2 j = S j := by
  unfold s_ho
  (repeat' split) <;> first | rfl | (dsimp only; rw [sset_o (by omega), sset_o (by omega), fill_o hj])
/-- handing over and the mark are the reference's transfer -/
theorem ho_tr {S : xS} (hI : Inv S) {a b : Nat} (ha : a < 16) (hb : b < 16) : sset (s_ho S a b).2 17 b (s_ho S a b).1 = s_trF S a b (s_find S a (S 20 a)) (s_find S b (S 20 b)) := by
  have hfa := s_find_in hI.gs.1 ha (S 20 a)
  have hfb := s_find_in hI.gs.1 hb (S 20 b)
  unfold s_ho s_trF
  rw [Int.toNat_natCast, Int.toNat_natCast]
  split
  · rfl
  split
  · rfl
  split
  · rfl
  split
  · rfl
  next c4 =>
    split
    next c5 =>
      unfold s_trC
      have ne : (s_find S a (S 20 a)).toNat ≠ (s_find S b (S 20 b)).toNat := by
        intro x
        rw [x] at c4
        omega
      rw [fill_i ne, fill_i ne]
      generalize s_find S a (S 20 a) = s at *
      generalize s_find S b (S 20 b) = d at *
      rw [Int.toNat_natCast, sset_o (S := S) (j := 17) (j' := 2) (by omega), sset_o (S := S) (j := 17) (j' := 3) (by omega)]
      funext j i
      unfold s_fill
      simp only [sset_at]
      by_cases c : j = 17
      · simp [c]
      · simp [c]
    · rfl
set_option maxHeartbeats 8000000 in
theorem k_transfer (h : Rel w A S ln) (hI : Inv S) {a b : Nat} (ha : a < 16) (hal : S 10 a ≠ 0) (hb : b < 16) (hbl : S 10 b ≠ 0) (x12 : x_fd w (A 2 (8 * (a : Int))) 12 = .int (xi (S 21 a))) (x13 : x_fd w (A 2 (8 * (a : Int))) 13 = .int (xi (S 22 a))) (x14 : x_fd w (A 2 (8 * (a : Int))) 14 = .int (xi (S 23 a))) (x15 : x_fd w (A 2 (8 * (a : Int))) 15 = .int (xi (S 20 a))) (y15 : x_fd w (A 2 (8 * (b : Int))) 15 = .int (xi (S 20 b)))
    (hQ : ∀ w' A', (∀ k, k ≠ 8 → k ≠ 0 → A' k = A k) → Rel w' A' (s_transfer S a b) ln → Fr w w' 1 → Q none w') : WP P 51 0 [some (.ref (A 12 0)), some (.ref (A 2 (8 * (a : Int)))), some (.ref (A 2 (8 * (b : Int))))] [] w Q := by
  obtain ⟨⟨t0, t1, t2, t3, t4⟩, f0, f1, f2, f3⟩ := h.ker
  have hR := hI.1.1
  have hA := hI.1.2.1
  have hua : us S 2 (8 * (a : Int)) := us_thi (by omega) (by omega) ((hI.1.2.2.2.2.2.1 a ha).2.1.1 hal)
  have hub : us S 2 (8 * (b : Int)) := us_thi (by omega) (by omega) ((hI.1.2.2.2.2.2.1 b hb).2.1.1 hbl)
  have hxa : x_has w (A 2 (8 * (a : Int))) [2] := ⟨_, _, (h.thr hua).1, by decide⟩
  have hxb : x_has w (A 2 (8 * (b : Int))) [2] := ⟨_, _, (h.thr hub).1, by decide⟩
  have h1 := h.tint hA hub (j := 15) (f := 7) (v := S 21 a) (by omega)
  have eu := us_cg (S := S) (S' := sset S 15 b (S 21 a)) (sset_o (by omega)) (sset_o (by omega))
  have hA1 : CapA (sset S 15 b (S 21 a)) := hA.cg (sset_o (by omega)) (sset_o (by omega)) (sset_o (by omega)) (sset_o (by omega)) (sset_o (by omega)) (sset_o (by omega))
  have h2 := h1.tint hA1 (by rw [eu]; exact hub) (j := 16) (f := 8) (v := S 22 a) (by omega)
  have fr2 := h1.frp (h.frp (Fr.refl w) hub 7 (.int (xi (S 21 a)))) (by rw [eu]; exact hub) 8 (.int (xi (S 22 a)))
  simp (disch := first | exact hR _ _ | exact x01a | exact x01b | (unfold x_r; omega) | assumption | omega) only [wK_transfer_0, wK_transfer_1, wK_transfer_2, wK_transfer_5, wK_transfer_8, wK_transfer_9, wK_transfer_10, wK_transfer_13, wK_transfer_16, wK_transfer_17, wK_transfer_18, wK_transfer_19, x_has_put, x_fd_put, x_f0, hxa, hxb, x12, x13, sset_at, Nat.reduceEqDiff, false_and, and_false, eq_self, and_self, reduceCtorEq, x_gi_int, x_ga_ref, x_ga_null, List.getElem?_cons_zero, List.getElem?_cons_succ, List.length_cons, List.length_nil, List.set_cons_zero, List.set_cons_succ, Nat.reduceAdd, Nat.reduceLT, xr_lt, xr_eq, xr_toInt, xr_0, xi_add, xi_sub, xi_mul, xr_div, xr_rm, Int.toNat_natCast, bd_t, true_and, and_true, not_false_eq_true, ↓reduceIte, ilt_t, ilt_f, ile_t, x_c1i, x_c1r, x_c1n, and_self, Option.toList_some, Option.toList_none, List.cons_append, List.nil_append, xr_01, xr_00, ieq_f, ieq_t]
  have eT : sset (sset S 15 b (S 21 a)) 16 b (S 22 a) = s_tr1 S a b := by
    unfold s_tr1
    rw [Int.toNat_natCast, Int.toNat_natCast]
  rw [eT] at h2
  have e1 : ∀ j, j ≠ 15 → j ≠ 16 → s_tr1 S a b j = S j := by
    intro j a1 a2
    unfold s_tr1
    rw [sset_o a2, sset_o a1]
  have hI2 : Inv (s_tr1 S a b) := by
    unfold s_tr1
    exact (hI.scal (by omega) (hR _ _)).scal (by omega) (hR _ _)
  refine wK_transfer_20 t0 (by simp) rfl rfl (k_handOver h2 hI2 ha (by rw [e1 10 (by omega) (by omega)]; exact hal) hb (by rw [e1 10 (by omega) (by omega)]; exact hbl) ?_ ?_ ?_ (fun w3 A3 hA3 h3 fr3 => ?_))
  · rw [x_fd_put, if_neg (by omega), x_fd_put, if_neg (by omega), e1 23 (by omega) (by omega)]; exact x14
  · rw [x_fd_put, if_neg (by omega), x_fd_put, if_neg (by omega), e1 20 (by omega) (by omega)]; exact x15
  · rw [x_fd_put, if_neg (by omega), x_fd_put, if_neg (by omega), e1 20 (by omega) (by omega)]; exact y15
  · have m01 : (s_ho (s_tr1 S a b) a b).1 = 0 ∨ (s_ho (s_tr1 S a b) a b).1 = 1 := by
      unfold s_ho
      (repeat' split) <;> simp
    have tr := ho_tr hI2 ha hb
    have trS : s_transfer S a b = s_trF (s_tr1 S a b) a b (s_find (s_tr1 S a b) a (s_tr1 S a b 20 a)) (s_find (s_tr1 S a b) b (s_tr1 S a b 20 b)) := rfl
    rw [← tr] at trS
    have A2 : A3 2 = A 2 := hA3 2 (by omega) (by omega)
    have A12 : A3 12 = A 12 := hA3 12 (by omega) (by omega)
    have I3 : CapA (s_ho (s_tr1 S a b) a b).2 ∧ us (s_ho (s_tr1 S a b) a b).2 2 (8 * (b : Int)) := by
      have it : Inv (s_transfer S a b) := hI.transfer (by omega) (by omega) (by rw [Int.toNat_natCast]; exact hal) (by omega) (by omega) (by rw [Int.toNat_natCast]; exact hbl)
      rw [trS] at it
      have e0 : ∀ j, j ≠ 17 → sset (s_ho (s_tr1 S a b) a b).2 17 b (s_ho (s_tr1 S a b) a b).1 j = (s_ho (s_tr1 S a b) a b).2 j := fun j hj => sset_o hj
      refine ⟨it.1.2.1.cg (e0 0 (by omega)).symm (e0 1 (by omega)).symm (e0 2 (by omega)).symm (e0 3 (by omega)).symm (e0 5 (by omega)).symm (e0 6 (by omega)).symm, ?_⟩
      have u := us_thi (S := sset (s_ho (s_tr1 S a b) a b).2 17 b (s_ho (s_tr1 S a b) a b).1) (k := 2) (by omega) (by omega) ((it.1.2.2.2.2.2.1 b hb).2.1.1 (by rw [e0 10 (by omega), ho_e (by omega), e1 10 (by omega) (by omega)]; exact hbl))
      rw [us_cg (e0 0 (by omega)) (e0 1 (by omega))] at u
      exact u
    have h4 := h3.tint I3.1 I3.2 (j := 17) (f := 9) (v := (s_ho (s_tr1 S a b) a b).1) (by omega)
    have hxb3 : x_has w3 (A 2 (8 * (b : Int))) [2] := by
      rw [← A2]
      exact ⟨_, _, (h3.thr I3.2).1, by decide⟩
    have fr4 := h3.frp ((fr2.trans (k := 1) fr3 (by omega))) I3.2 9 (.int (xi (s_ho (s_tr1 S a b) a b).1))
    rw [← trS] at h4
    rw [A2] at h4 fr4
    rcases m01 with m | m
    · rw [m] at h4 fr4 ⊢
      simp (disch := first | exact hR _ _ | exact x01a | exact x01b | (unfold x_r; omega) | assumption | omega) only [wK_transfer_23, wK_transfer_30, wK_transfer_31, wK_transfer_34, x_has_put, x_f0, hxb3, x_gi_int, x_ga_ref, x_ga_null, List.getElem?_cons_zero, List.getElem?_cons_succ, List.length_cons, List.length_nil, List.set_cons_zero, List.set_cons_succ, Nat.reduceAdd, Nat.reduceLT, xr_lt, xr_eq, xr_toInt, xr_0, xi_add, xi_sub, xi_mul, xr_div, xr_rm, Int.toNat_natCast, bd_t, true_and, and_true, not_false_eq_true, ↓reduceIte, ilt_t, ilt_f, ile_t, x_c1i, x_c1r, x_c1n, and_self, Option.toList_some, Option.toList_none, List.cons_append, List.nil_append, xr_01, xr_00, ieq_f, ieq_t]
      exact hQ _ A3 hA3 h4 fr4
    · rw [m] at h4 fr4 ⊢
      simp (disch := first | exact hR _ _ | exact x01a | exact x01b | (unfold x_r; omega) | assumption | omega) only [wK_transfer_23, wK_transfer_26, wK_transfer_27, wK_transfer_31, wK_transfer_34, x_has_put, x_f0, hxb3, x_gi_int, x_ga_ref, x_ga_null, List.getElem?_cons_zero, List.getElem?_cons_succ, List.length_cons, List.length_nil, List.set_cons_zero, List.set_cons_succ, Nat.reduceAdd, Nat.reduceLT, xr_lt, xr_eq, xr_toInt, xr_0, xi_add, xi_sub, xi_mul, xr_div, xr_rm, Int.toNat_natCast, bd_t, true_and, and_true, not_false_eq_true, ↓reduceIte, ilt_t, ilt_f, ile_t, x_c1i, x_c1r, x_c1n, and_self, Option.toList_some, Option.toList_none, List.cons_append, List.nil_append, xr_01, xr_00, ieq_f, ieq_t]
      exact hQ _ A3 hA3 h4 fr4
end KW
