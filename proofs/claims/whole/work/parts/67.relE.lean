theorem us_thr {S : xS} (hI : Inv S) {t : Int} (h0 : 0 ≤ t) (h1 : t < 16) (hl : S 10 t.toNat ≠ 0) : us S 2 (8 * t) := by
  have g := (hI.1.2.2.2.2.2.1 t.toNat (by omega)).2.1.1 hl
  rw [show ((t.toNat : Nat) : Int) = t by omega] at g
  exact us_thi (by omega) (by omega) g
section KB
variable {P : xP} {w : xH} {Q : Option Value → xH → Prop} {A : xA} {S : xS} {ln : Nat → Int}
set_option maxHeartbeats 4000000 in
theorem k_placeOf (h : Rel w A S ln) (hI : Inv S) {t a : Int} (h0 : 0 ≤ t) (h1 : t < 16) (hl : S 10 t.toNat ≠ 0) (ha : x_r a) {l3 : Option Value} (hQ : Q (some (.int (xi (s_find S t.toNat a)))) w) : WP P 14 0 [some (.ref (A 12 0)), some (.ref (A 2 (8 * t))), some (.int (xi a)), l3] [] w Q := by
  have hR := hI.1.1
  have hA := hI.1.2.1
  obtain ⟨⟨t0, t1, t2, t3, t4⟩, f0, f1, f2, f3⟩ := h.ker
  have tb := (hI.1.2.2.2.2.2.2.1 t.toNat (by omega) hl).2.1
  obtain ⟨u0, u1, u2, u3, -⟩ := h.thr (us_thr hI h0 h1 hl)
  have hk : x_has w (A 12 0) [0] := ⟨_, _, t0, by decide⟩
  have ht : x_has w (A 2 (8 * t)) [2] := ⟨_, _, u0, by decide⟩
  unfold s_find at hQ
  unfold x_r at ha
  by_cases c1 : S 11 t.toNat = -1
  · rw [if_pos c1] at hQ
    rw [pv_n (by omega)] at u3
    simp (disch := first | exact hR _ _ | exact x01a | exact x01b | (unfold x_r; omega) | assumption | omega) only [wK_placeOf_0, wK_placeOf_1, wK_placeOf_4n, wK_placeOf_4, wK_placeOf_18, wK_placeOf_19, ht, u3, x_gi_int, x_ga_ref, x_ga_null, List.getElem?_cons_zero, List.getElem?_cons_succ, List.length_cons, List.length_nil, List.set_cons_zero, List.set_cons_succ, Nat.reduceAdd, Nat.reduceLT, xr_lt, xr_eq, xr_toInt, xr_0, xi_add, xi_sub, xi_mul, xr_div, xr_rm, Int.toNat_natCast, bd_t, true_and, and_true, not_false_eq_true, ↓reduceIte, ilt_t, ilt_f, ile_t, x_c1i, x_c1r, x_c1n, and_self, Option.toList_some, Option.toList_none, List.cons_append, List.nil_append, xr_01, xr_00, ieq_f, ieq_t]
    exact hQ
  rw [if_neg c1] at hQ
  have tb := tb.resolve_left c1
  have tu := hA.hd tb
  rw [pv_r (by omega)] at u3
  obtain ⟨v0, v1, v2⟩ := h.thi (k := 1) (by omega) (by omega) (us_thi (by omega) (by omega) tb)
  have hv : x_has w (A 1 (S 11 t.toNat)) [5] := ⟨_, _, v0, List.mem_singleton.2 rfl⟩
  have t112 : S 11 t.toNat ≤ 112 := by
    obtain ⟨p, p1, p2, p3⟩ := tb
    have := hA.tab p1 p2
    omega
  by_cases c2 : a < 0
  · rw [if_pos c2] at hQ
    simp (disch := first | exact hR _ _ | exact x01a | exact x01b | (unfold x_r; omega) | assumption | omega) only [wK_placeOf_0, wK_placeOf_1, wK_placeOf_4n, wK_placeOf_4, wK_placeOf_7, wK_placeOf_8, wK_placeOf_18, wK_placeOf_19, ht, u3, x_gi_int, x_ga_ref, x_ga_null, List.getElem?_cons_zero, List.getElem?_cons_succ, List.length_cons, List.length_nil, List.set_cons_zero, List.set_cons_succ, Nat.reduceAdd, Nat.reduceLT, xr_lt, xr_eq, xr_toInt, xr_0, xi_add, xi_sub, xi_mul, xr_div, xr_rm, Int.toNat_natCast, bd_t, true_and, and_true, not_false_eq_true, ↓reduceIte, ilt_t, ilt_f, ile_t, x_c1i, x_c1r, x_c1n, and_self, Option.toList_some, Option.toList_none, List.cons_append, List.nil_append, xr_01, xr_00, ieq_f, ieq_t]
    exact hQ
  rw [if_neg c2] at hQ
  by_cases c3 : 271 < a
  · rw [if_pos c3] at hQ
    simp (disch := first | exact hR _ _ | exact x01a | exact x01b | (unfold x_r; omega) | assumption | omega) only [wK_placeOf_0, wK_placeOf_1, wK_placeOf_4n, wK_placeOf_4, wK_placeOf_7, wK_placeOf_8, wK_placeOf_11, wK_placeOf_12, wK_placeOf_15, wK_placeOf_18, wK_placeOf_19, ht, u3, x_gi_int, x_ga_ref, x_ga_null, List.getElem?_cons_zero, List.getElem?_cons_succ, List.length_cons, List.length_nil, List.set_cons_zero, List.set_cons_succ, Nat.reduceAdd, Nat.reduceLT, xr_lt, xr_eq, xr_toInt, xr_0, xi_add, xi_sub, xi_mul, xr_div, xr_rm, Int.toNat_natCast, bd_t, true_and, and_true, not_false_eq_true, ↓reduceIte, ilt_t, ilt_f, ile_t, x_c1i, x_c1r, x_c1n, and_self, Option.toList_some, Option.toList_none, List.cons_append, List.nil_append, xr_01, xr_00, ieq_f, ieq_t]
    exact hQ
  rw [if_neg c3] at hQ
  by_cases c4 : a < 16
  · rw [if_pos c4] at hQ
    simp (disch := first | exact hR _ _ | exact x01a | exact x01b | (unfold x_r; omega) | assumption | omega) only [wK_placeOf_0, wK_placeOf_1, wK_placeOf_4n, wK_placeOf_4, wK_placeOf_7, wK_placeOf_8, wK_placeOf_11, wK_placeOf_12, wK_placeOf_15, wK_placeOf_20, wK_placeOf_21, wK_placeOf_23, wK_placeOf_26, wK_placeOf_27, wK_placeOf_30, wK_placeOf_33, wK_placeOf_34, wK_placeOf_35, ht, hv, u3, v2, x_gi_int, x_ga_ref, x_ga_null, List.getElem?_cons_zero, List.getElem?_cons_succ, List.length_cons, List.length_nil, List.set_cons_zero, List.set_cons_succ, Nat.reduceAdd, Nat.reduceLT, xr_lt, xr_eq, xr_toInt, xr_0, xi_add, xi_sub, xi_mul, xr_div, xr_rm, Int.toNat_natCast, bd_t, true_and, and_true, not_false_eq_true, ↓reduceIte, ilt_t, ilt_f, ile_t, x_c1i, x_c1r, x_c1n, and_self, Option.toList_some, Option.toList_none, List.cons_append, List.nil_append, xr_01, xr_00, ieq_f, ieq_t]
    exact hQ
  rw [if_neg c4] at hQ
  have i1 : 0 ≤ S 11 t.toNat + a / 16 - 1 := by omega
  have i2 : S 11 t.toNat + a / 16 - 1 < 128 := by omega
  have sl := h.sl (p := (S 11 t.toNat + a / 16 - 1).toNat) (by omega)
  have ec := x_cle (e := S 11 t.toNat + a / 16 - 1) (by omega) (by omega)
  have nn := x_nn (e := S 11 t.toNat + a / 16 - 1) (by omega) (by omega)
  have nc := x_clt (e := S 11 t.toNat + a / 16 - 1) (n := 128) (by omega) (by omega) (by omega)
  rw [show (((S 11 t.toNat + a / 16 - 1).toNat : Nat) : Int) = S 11 t.toNat + a / 16 - 1 by omega] at sl
  by_cases c5 : S 0 (S 11 t.toNat + a / 16 - 1).toNat < 0
  · rw [if_neg (by omega)] at hQ
    rw [pv_n c5] at sl
    simp (disch := first | exact hR _ _ | exact x01a | exact x01b | (unfold x_r; omega) | assumption | omega) only [wK_placeOf_0, wK_placeOf_1, wK_placeOf_4n, wK_placeOf_4, wK_placeOf_7, wK_placeOf_8, wK_placeOf_11, wK_placeOf_12, wK_placeOf_15, wK_placeOf_20, wK_placeOf_21, wK_placeOf_23, wK_placeOf_36, wK_placeOf_37, wK_placeOf_40, wK_placeOf_41, wK_placeOf_44, wK_placeOf_47, wK_placeOf_48, wK_placeOf_50, wK_placeOf_51, wK_placeOf_52, wK_placeOf_53, wK_placeOf_54 t1 (by omega) nn nc, wK_placeOf_55, wK_placeOf_55n, wK_placeOf_56, wK_placeOf_57n, wK_placeOf_57, wK_placeOf_71, wK_placeOf_72, hk, ht, hv, f0, u3, v2, ec, sl, x_gi_int, x_ga_ref, x_ga_null, List.getElem?_cons_zero, List.getElem?_cons_succ, List.length_cons, List.length_nil, List.set_cons_zero, List.set_cons_succ, Nat.reduceAdd, Nat.reduceLT, xr_lt, xr_eq, xr_toInt, xr_0, xi_add, xi_sub, xi_mul, xr_div, xr_rm, Int.toNat_natCast, bd_t, true_and, and_true, not_false_eq_true, ↓reduceIte, ilt_t, ilt_f, ile_t, x_c1i, x_c1r, x_c1n, and_self, Option.toList_some, Option.toList_none, List.cons_append, List.nil_append, xr_01, xr_00, ieq_f, ieq_t]
    exact hQ
  rw [pv_r c5] at sl
  obtain ⟨ct, cf0, -⟩ := h.cap i1 i2 (by omega)
  obtain ⟨n, g0, g1, g2, g3⟩ := h.thg hA i1 i2 (by omega)
  have hc : x_has w (A 8 (S 11 t.toNat + a / 16 - 1)) [1] := ⟨_, _, ct, by decide⟩
  have hg : x_has w (thA A S (S 11 t.toNat + a / 16 - 1)) [2, 4, 5, 6, 7, 8, 9, 10] := ⟨_, _, g0, g1⟩
  have k7 := (hA (S 11 t.toNat + a / 16 - 1).toNat (by omega)).1
  generalize hi : S 11 t.toNat + a / 16 - 1 = i at *
  by_cases c6 : S 0 i.toNat = 1
  · rw [if_pos c6] at hQ
    simp (disch := first | exact hR _ _ | exact x01a | exact x01b | (unfold x_r; omega) | assumption | omega) only [wK_placeOf_0, wK_placeOf_1, wK_placeOf_4n, wK_placeOf_4, wK_placeOf_7, wK_placeOf_8, wK_placeOf_11, wK_placeOf_12, wK_placeOf_15, wK_placeOf_20, wK_placeOf_21, wK_placeOf_23, wK_placeOf_36, wK_placeOf_37, wK_placeOf_40, wK_placeOf_41, wK_placeOf_44, wK_placeOf_47, wK_placeOf_48, wK_placeOf_50, wK_placeOf_51, wK_placeOf_52, wK_placeOf_53, wK_placeOf_54 t1 (by omega) nn nc, wK_placeOf_55, wK_placeOf_55n, wK_placeOf_56, wK_placeOf_57n, wK_placeOf_57, wK_placeOf_60, wK_placeOf_61, wK_placeOf_64, wK_placeOf_67, wK_placeOf_68, wK_placeOf_73, wK_placeOf_74, wK_placeOf_77, wK_placeOf_80, wK_placeOf_81, wK_placeOf_83, wK_placeOf_84, wK_placeOf_85, hk, ht, hv, hc, hg, hi, f0, u3, v2, ec, sl, cf0, g2, g3, x_gi_int, x_ga_ref, x_ga_null, List.getElem?_cons_zero, List.getElem?_cons_succ, List.length_cons, List.length_nil, List.set_cons_zero, List.set_cons_succ, Nat.reduceAdd, Nat.reduceLT, xr_lt, xr_eq, xr_toInt, xr_0, xi_add, xi_sub, xi_mul, xr_div, xr_rm, Int.toNat_natCast, bd_t, true_and, and_true, not_false_eq_true, ↓reduceIte, ilt_t, ilt_f, ile_t, x_c1i, x_c1r, x_c1n, and_self, Option.toList_some, Option.toList_none, List.cons_append, List.nil_append, xr_01, xr_00, ieq_f, ieq_t]
    exact hQ
  · rw [if_neg c6] at hQ
    simp (disch := first | exact hR _ _ | exact x01a | exact x01b | (unfold x_r; omega) | assumption | omega) only [wK_placeOf_0, wK_placeOf_1, wK_placeOf_4n, wK_placeOf_4, wK_placeOf_7, wK_placeOf_8, wK_placeOf_11, wK_placeOf_12, wK_placeOf_15, wK_placeOf_20, wK_placeOf_21, wK_placeOf_23, wK_placeOf_36, wK_placeOf_37, wK_placeOf_40, wK_placeOf_41, wK_placeOf_44, wK_placeOf_47, wK_placeOf_48, wK_placeOf_50, wK_placeOf_51, wK_placeOf_52, wK_placeOf_53, wK_placeOf_54 t1 (by omega) nn nc, wK_placeOf_55, wK_placeOf_55n, wK_placeOf_56, wK_placeOf_57n, wK_placeOf_57, wK_placeOf_60, wK_placeOf_61, wK_placeOf_64, wK_placeOf_67, wK_placeOf_68, wK_placeOf_71, wK_placeOf_72, hk, ht, hv, hc, hg, hi, f0, u3, v2, ec, sl, cf0, g2, g3, x_gi_int, x_ga_ref, x_ga_null, List.getElem?_cons_zero, List.getElem?_cons_succ, List.length_cons, List.length_nil, List.set_cons_zero, List.set_cons_succ, Nat.reduceAdd, Nat.reduceLT, xr_lt, xr_eq, xr_toInt, xr_0, xi_add, xi_sub, xi_mul, xr_div, xr_rm, Int.toNat_natCast, bd_t, true_and, and_true, not_false_eq_true, ↓reduceIte, ilt_t, ilt_f, ile_t, x_c1i, x_c1r, x_c1n, and_self, Option.toList_some, Option.toList_none, List.cons_append, List.nil_append, xr_01, xr_00, ieq_f, ieq_t]
    exact hQ
end KB
