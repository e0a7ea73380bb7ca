def s_hv (S : xS) (t : Nat) (a : Int) : Int := if s_find S t a < 0 then -1 else if S 0 (s_find S t a).toNat < 0 then -1 else s_find S t a
theorem having_hv (S : xS) (a : Int) : s_having S a (-1) = s_hv S (s_now S).toNat a := by
  unfold s_having s_hv
  simp only [show (-1 : Int) < 0 from by omega, if_true]
theorem having_k {S : xS} {a k : Int} (hk : 0 ≤ k) : s_having S a k = if s_having S a (-1) < 0 then -1 else if S 0 (s_having S a (-1)).toNat = k then s_having S a (-1) else -1 := by
  rw [having_hv]
  unfold s_having s_hv
  have : ¬ k < 0 := by omega
  by_cases c1 : s_find S (s_now S).toNat a < 0
  · simp only [c1, if_true]; rfl
  · by_cases c2 : S 0 (s_find S (s_now S).toNat a).toNat < 0
    · simp only [c1, c2, if_true, if_false]; rfl
    · simp only [c1, c2, this, if_false]
section KC
variable {P : xP} {w : xH} {Q : Option Value → xH → Prop} {A : xA} {S : xS} {ln : Nat → Int}
set_option maxHeartbeats 4000000 in
theorem k_capabilityAt (h : Rel w A S ln) (hI : Inv S) {t a : Int} (h0 : 0 ≤ t) (h1 : t < 16) (hl : S 10 t.toNat ≠ 0) (ha : x_r a) {l3 : Option Value} (hQ : Q (some (pv (s_hv S t.toNat a) (A 8 (s_hv S t.toNat a)))) w) : WP P 13 0 [some (.ref (A 12 0)), some (.ref (A 2 (8 * t))), some (.int (xi a)), l3] [] w Q := by
  obtain ⟨⟨t0, t1, t2, t3, t4⟩, f0, f1, f2, f3⟩ := h.ker
  have hk : x_has w (A 12 0) [0] := ⟨_, _, t0, by decide⟩
  have hb := s_find_in hI.gs.1 (t := t.toNat) (by omega) a
  have hR := hI.1.1
  simp (disch := first | exact hR _ _ | exact x01a | exact x01b | (unfold x_r; omega) | assumption | omega) only [wK_capabilityAt_0, wK_capabilityAt_1, wK_capabilityAt_2, x_gi_int, x_ga_ref, x_ga_null, List.getElem?_cons_zero, List.getElem?_cons_succ, List.length_cons, List.length_nil, List.set_cons_zero, List.set_cons_succ, Nat.reduceAdd, Nat.reduceLT, xr_lt, xr_eq, xr_toInt, xr_0, xi_add, xi_sub, xi_mul, xr_div, xr_rm, Int.toNat_natCast, bd_t, true_and, and_true, not_false_eq_true, ↓reduceIte, ilt_t, ilt_f, ile_t, x_c1i, x_c1r, x_c1n, and_self, Option.toList_some, Option.toList_none, List.cons_append, List.nil_append, xr_01, xr_00, ieq_f, ieq_t]
  refine wK_capabilityAt_3 t0 (by simp) rfl rfl (k_placeOf h hI h0 h1 hl ha ?_)
  unfold s_hv at hQ
  generalize s_find S t.toNat a = p at *
  by_cases c1 : p < 0
  · obtain rfl : p = -1 := by omega
    rw [if_pos c1, pv_n (by omega)] at hQ
    simp (disch := first | exact hR _ _ | exact x01a | exact x01b | (unfold x_r; omega) | assumption | omega) only [wK_capabilityAt_6, wK_capabilityAt_7, wK_capabilityAt_8, wK_capabilityAt_9, wK_capabilityAt_12, wK_capabilityAt_13, wK_capabilityAt_22n, wK_capabilityAt_22, x_gi_int, x_ga_ref, x_ga_null, List.getElem?_cons_zero, List.getElem?_cons_succ, List.length_cons, List.length_nil, List.set_cons_zero, List.set_cons_succ, Nat.reduceAdd, Nat.reduceLT, xr_lt, xr_eq, xr_toInt, xr_0, xi_add, xi_sub, xi_mul, xr_div, xr_rm, Int.toNat_natCast, bd_t, true_and, and_true, not_false_eq_true, ↓reduceIte, ilt_t, ilt_f, ile_t, x_c1i, x_c1r, x_c1n, and_self, Option.toList_some, Option.toList_none, List.cons_append, List.nil_append, xr_01, xr_00, ieq_f, ieq_t]
    exact hQ
  rw [if_neg c1] at hQ
  have sl := h.sl (p := p.toNat) (by omega)
  have ec := x_cle (e := p) (by omega) (by omega)
  have nn := x_nn (e := p) (by omega) (by omega)
  have nc := x_clt (e := p) (n := 128) (by omega) (by omega) (by omega)
  rw [show ((p.toNat : Nat) : Int) = p by omega] at sl
  have np : ¬ p = -1 := by omega
  by_cases c2 : S 0 p.toNat < 0
  · rw [if_pos c2, pv_n (by omega)] at hQ
    rw [pv_n c2] at sl
    simp (disch := first | exact hR _ _ | exact x01a | exact x01b | (unfold x_r; omega) | assumption | omega) only [wK_capabilityAt_6, wK_capabilityAt_7, wK_capabilityAt_8, wK_capabilityAt_9, wK_capabilityAt_16, wK_capabilityAt_17, wK_capabilityAt_20, wK_capabilityAt_21 t1 (by omega) nn nc, wK_capabilityAt_22n, wK_capabilityAt_22, hk, f0, ec, sl, np, x_gi_int, x_ga_ref, x_ga_null, List.getElem?_cons_zero, List.getElem?_cons_succ, List.length_cons, List.length_nil, List.set_cons_zero, List.set_cons_succ, Nat.reduceAdd, Nat.reduceLT, xr_lt, xr_eq, xr_toInt, xr_0, xi_add, xi_sub, xi_mul, xr_div, xr_rm, Int.toNat_natCast, bd_t, true_and, and_true, not_false_eq_true, ↓reduceIte, ilt_t, ilt_f, ile_t, x_c1i, x_c1r, x_c1n, and_self, Option.toList_some, Option.toList_none, List.cons_append, List.nil_append, xr_01, xr_00, ieq_f, ieq_t]
    exact hQ
  · rw [if_neg c2, pv_r c1] at hQ
    rw [pv_r c2] at sl
    simp (disch := first | exact hR _ _ | exact x01a | exact x01b | (unfold x_r; omega) | assumption | omega) only [wK_capabilityAt_6, wK_capabilityAt_7, wK_capabilityAt_8, wK_capabilityAt_9, wK_capabilityAt_16, wK_capabilityAt_17, wK_capabilityAt_20, wK_capabilityAt_21 t1 (by omega) nn nc, wK_capabilityAt_22n, wK_capabilityAt_22, hk, f0, ec, sl, np, x_gi_int, x_ga_ref, x_ga_null, List.getElem?_cons_zero, List.getElem?_cons_succ, List.length_cons, List.length_nil, List.set_cons_zero, List.set_cons_succ, Nat.reduceAdd, Nat.reduceLT, xr_lt, xr_eq, xr_toInt, xr_0, xi_add, xi_sub, xi_mul, xr_div, xr_rm, Int.toNat_natCast, bd_t, true_and, and_true, not_false_eq_true, ↓reduceIte, ilt_t, ilt_f, ile_t, x_c1i, x_c1r, x_c1n, and_self, Option.toList_some, Option.toList_none, List.cons_append, List.nil_append, xr_01, xr_00, ieq_f, ieq_t]
    exact hQ
theorem k_isEmptySlot (h : Rel w A S ln) {p : Int} (h0 : -1 ≤ p) (h1 : p < 128) (hQ : Q (some (.int (xi (if p = -1 then 0 else if S 0 p.toNat < 0 then 1 else 0)))) w) : WP P 15 0 [some (.ref (A 12 0)), some (.int (xi p))] [] w Q := by
  obtain ⟨⟨t0, t1, t2, t3, t4⟩, f0, f1, f2, f3⟩ := h.ker
  have hk : x_has w (A 12 0) [0] := ⟨_, _, t0, by decide⟩
  have hR : RgS s_zero := RgS.zero
  by_cases c1 : p = -1
  · rw [if_pos c1] at hQ
    rw [c1]
    simp (disch := first | exact hR _ _ | exact x01a | exact x01b | (unfold x_r; omega) | assumption | omega) only [wK_isEmptySlot_0, wK_isEmptySlot_1, wK_isEmptySlot_2, wK_isEmptySlot_18, wK_isEmptySlot_19, true_or, or_true, x_gi_int, x_ga_ref, x_ga_null, List.getElem?_cons_zero, List.getElem?_cons_succ, List.length_cons, List.length_nil, List.set_cons_zero, List.set_cons_succ, Nat.reduceAdd, Nat.reduceLT, xr_lt, xr_eq, xr_toInt, xr_0, xi_add, xi_sub, xi_mul, xr_div, xr_rm, Int.toNat_natCast, bd_t, true_and, and_true, not_false_eq_true, ↓reduceIte, ilt_t, ilt_f, ile_t, x_c1i, x_c1r, x_c1n, and_self, Option.toList_some, Option.toList_none, List.cons_append, List.nil_append, xr_01, xr_00, ieq_f, ieq_t]
    exact hQ
  rw [if_neg c1] at hQ
  have sl := h.sl (p := p.toNat) (by omega)
  have ec := x_cle (e := p) (by omega) (by omega)
  have nn := x_nn (e := p) (by omega) (by omega)
  have nc := x_clt (e := p) (n := 128) (by omega) (by omega) (by omega)
  rw [show ((p.toNat : Nat) : Int) = p by omega] at sl
  by_cases c2 : S 0 p.toNat < 0
  · rw [if_pos c2] at hQ
    rw [pv_n c2] at sl
    simp (disch := first | exact hR _ _ | exact x01a | exact x01b | (unfold x_r; omega) | assumption | omega) only [wK_isEmptySlot_0, wK_isEmptySlot_1, wK_isEmptySlot_2, wK_isEmptySlot_5, wK_isEmptySlot_6, wK_isEmptySlot_9, wK_isEmptySlot_10 t1 (by omega) nn nc, wK_isEmptySlot_11n, wK_isEmptySlot_11, wK_isEmptySlot_14, wK_isEmptySlot_15, wK_isEmptySlot_19, hk, f0, ec, sl, c1, true_or, or_true, x_gi_int, x_ga_ref, x_ga_null, List.getElem?_cons_zero, List.getElem?_cons_succ, List.length_cons, List.length_nil, List.set_cons_zero, List.set_cons_succ, Nat.reduceAdd, Nat.reduceLT, xr_lt, xr_eq, xr_toInt, xr_0, xi_add, xi_sub, xi_mul, xr_div, xr_rm, Int.toNat_natCast, bd_t, true_and, and_true, not_false_eq_true, ↓reduceIte, ilt_t, ilt_f, ile_t, x_c1i, x_c1r, x_c1n, and_self, Option.toList_some, Option.toList_none, List.cons_append, List.nil_append, xr_01, xr_00, ieq_f, ieq_t]
    exact hQ
  · rw [if_neg c2] at hQ
    rw [pv_r c2] at sl
    simp (disch := first | exact hR _ _ | exact x01a | exact x01b | (unfold x_r; omega) | assumption | omega) only [wK_isEmptySlot_0, wK_isEmptySlot_1, wK_isEmptySlot_2, wK_isEmptySlot_5, wK_isEmptySlot_6, wK_isEmptySlot_9, wK_isEmptySlot_10 t1 (by omega) nn nc, wK_isEmptySlot_11n, wK_isEmptySlot_11, wK_isEmptySlot_18, wK_isEmptySlot_19, hk, f0, ec, sl, c1, true_or, or_true, x_gi_int, x_ga_ref, x_ga_null, List.getElem?_cons_zero, List.getElem?_cons_succ, List.length_cons, List.length_nil, List.set_cons_zero, List.set_cons_succ, Nat.reduceAdd, Nat.reduceLT, xr_lt, xr_eq, xr_toInt, xr_0, xi_add, xi_sub, xi_mul, xr_div, xr_rm, Int.toNat_natCast, bd_t, true_and, and_true, not_false_eq_true, ↓reduceIte, ilt_t, ilt_f, ile_t, x_c1i, x_c1r, x_c1n, and_self, Option.toList_some, Option.toList_none, List.cons_append, List.nil_append, xr_01, xr_00, ieq_f, ieq_t]
    exact hQ
end KC
