theorem leafOf_is {S : xS} {u e : Int} (h : 0 ≤ s_leafOf S u e) : ∃ i : Nat, i < 32 ∧ s_leafOf S u e = 4 * (i : Int) ∧ hd S 6 (4 * (i : Int)) ∧ S 25 i = u ∧ S 26 i = e := by
  obtain ⟨i, i1, i2, i3, i4, i5, i6⟩ := lfL_yes 32 0 h
  exact ⟨i, by omega, i3, ((s_there_hd (by omega)).1 i4).2.2, i5, i6⟩
theorem leafOf_hd {S : xS} {u e : Int} (h : 0 ≤ s_leafOf S u e) : hd S 6 (s_leafOf S u e) := by
  obtain ⟨i, i1, i2, i3, -⟩ := leafOf_is h
  rw [i2]; exact i3
theorem leafOf_no {S : xS} {u e : Int} (h : ∀ i : Nat, i < 32 → hd S 6 (4 * (i : Int)) → S 25 i = u → S 26 i ≠ e) : s_leafOf S u e = -1 := by
  have k := s_leafOf_in S u e
  by_cases c : 0 ≤ s_leafOf S u e
  · obtain ⟨i, i1, i2, i3, i4, i5⟩ := leafOf_is c
    exact absurd i5 (h i i1 i3 i4)
  · omega
theorem leafOf_eq2 {S : xS} (hM : ∀ l l' : Nat, l < 32 → l' < 32 → l ≠ l' → hd S 6 (4 * (l : Int)) → hd S 6 (4 * (l' : Int)) → S 25 l ≠ -1 → S 25 l = S 25 l' → S 26 l ≠ S 26 l') {u e : Int} {i : Nat} (hi : i < 32) (h1 : hd S 6 (4 * (i : Int))) (h2 : S 25 i = u) (h3 : S 26 i = e) (hu : u ≠ -1) : s_leafOf S u e = 4 * (i : Int) := by
  by_cases c : 0 ≤ s_leafOf S u e
  · obtain ⟨j, j1, j2, j3, j4, j5⟩ := leafOf_is c
    by_cases d : j = i
    · rw [j2, d]
    · exact absurd (j5.trans h3.symm) (hM j i j1 hi d j3 h1 (by rw [j4]; exact hu) (j4.trans h2.symm))
  · exact absurd ⟨(s_there_hd (by omega)).2 ⟨by omega, by omega, h1⟩, h2, h3⟩ (lfL_no 32 0 (show lfL S u e 32 0 < 0 by unfold s_leafOf at c; omega) i (by omega) (by omega))
theorem leafOf_eq {S : xS} (hM : MpA S) {u e : Int} {i : Nat} (hi : i < 32) (h1 : hd S 6 (4 * (i : Int))) (h2 : S 25 i = u) (h3 : S 26 i = e) (hu : u ≠ -1) : s_leafOf S u e = 4 * (i : Int) := leafOf_eq2 hM.2 hi h1 h2 h3 hu
theorem frameOf_is {S : xS} {l e : Int} (h : 0 ≤ s_frameOf S l e) : s_frameOf S l e < 128 ∧ S 0 (s_frameOf S l e).toNat = 7 ∧ S 7 (s_frameOf S l e).toNat = l ∧ S 8 (s_frameOf S l e).toNat = e := by
  obtain ⟨i, i1, i2, i3, i4, i5, i6⟩ := frL_yes 128 0 h
  have e1 : s_frameOf S l e = (i : Int) := i3
  rw [e1, Int.toNat_natCast]
  exact ⟨by omega, i4, i5, i6⟩
theorem frameOf_no {S : xS} {l e : Int} (h : ∀ i : Nat, i < 128 → S 0 i = 7 → S 7 i = l → S 8 i ≠ e) : s_frameOf S l e = -1 := by
  have k := s_frameOf_in S l e
  by_cases c : 0 ≤ s_frameOf S l e
  · have g := frameOf_is c
    exact absurd g.2.2.2 (h _ (by omega) g.2.1 g.2.2.1)
  · omega
theorem frameOf_eq2 {S : xS} (hM : ∀ p p' : Nat, p < 128 → p' < 128 → p ≠ p' → 0 ≤ S 0 p → 0 ≤ S 0 p' → S 7 p ≠ -1 → S 7 p = S 7 p' → S 8 p ≠ S 8 p') {l e : Int} {i : Nat} (hi : i < 128) (h1 : S 0 i = 7) (h2 : S 7 i = l) (h3 : S 8 i = e) (hl : l ≠ -1) : s_frameOf S l e = (i : Int) := by
  by_cases c : 0 ≤ s_frameOf S l e
  · have g := frameOf_is c
    by_cases d : (s_frameOf S l e).toNat = i
    · omega
    · exact absurd (g.2.2.2.trans h3.symm) (hM _ i (by omega) hi d (by omega) (by omega) (by rw [g.2.2.1]; exact hl) (g.2.2.1.trans h2.symm))
  · exact absurd ⟨h1, h2, h3⟩ (frL_no 128 0 (show frL S l e 128 0 < 0 by unfold s_frameOf at c; omega) i (by omega) (by omega))
theorem frameOf_eq {S : xS} (hM : MpB S) {l e : Int} {i : Nat} (hi : i < 128) (h1 : S 0 i = 7) (h2 : S 7 i = l) (h3 : S 8 i = e) (hl : l ≠ -1) : s_frameOf S l e = (i : Int) := frameOf_eq2 hM.2 hi h1 h2 h3 hl
section KI
variable {P : xP} {w : xH} {Q : Option Value → xH → Prop} {A : xA} {S : xS} {ln : Nat → Int}
set_option maxHeartbeats 4000000 in
theorem k_page (h : Rel w A S ln) (hI : Inv S) {u e : Int} (hu : x_r u) (he : x_r e) {l3 l4 l5 : Option Value} (hQ : Q (some (.int (xi (s_page S u e)))) w) : WP P 75 0 [some (.ref (A 12 0)), some (.int (xi u)), some (.int (xi e)), l3, l4, l5] [] w Q := by
  obtain ⟨⟨t0, t1, t2, t3, t4⟩, f0, f1, f2, f3⟩ := h.ker
  have hR := hI.1.1
  have hA := hI.1.2.1
  simp (disch := first | exact hR _ _ | exact x01a | exact x01b | (unfold x_r; omega) | assumption | omega) only [wK_page_0, wK_page_1, x_gi_int, x_ga_ref, x_ga_null, List.getElem?_cons_zero, List.getElem?_cons_succ, List.length_cons, List.length_nil, List.set_cons_zero, List.set_cons_succ, Nat.reduceAdd, Nat.reduceLT, xr_lt, xr_eq, xr_toInt, xr_0, xi_add, xi_sub, xi_mul, xr_div, xr_rm, Int.toNat_natCast, bd_t, true_and, and_true, not_false_eq_true, ↓reduceIte, ilt_t, ilt_f, ile_t, x_c1i, x_c1r, x_c1n, and_self, Option.toList_some, Option.toList_none, List.cons_append, List.nil_append, xr_01, xr_00, ieq_f, ieq_t]
  refine wK_page_2 t0 (by simp) rfl rfl (k_threadOfUnit h hI hu ?_)
  unfold x_r at hu he
  unfold s_page at hQ
  by_cases c : ¬ s_there S 2 u
  · rw [if_pos c] at hQ
    have et : s_tou S u = -1 := if_neg c
    rw [et, pv_n (by omega)]
    simp (disch := first | exact hR _ _ | exact x01a | exact x01b | (unfold x_r; omega) | assumption | omega) only [wK_page_5, wK_page_5n, wK_page_6, wK_page_7n, wK_page_7, wK_page_27, wK_page_28, x_gi_int, x_ga_ref, x_ga_null, List.getElem?_cons_zero, List.getElem?_cons_succ, List.length_cons, List.length_nil, List.set_cons_zero, List.set_cons_succ, Nat.reduceAdd, Nat.reduceLT, xr_lt, xr_eq, xr_toInt, xr_0, xi_add, xi_sub, xi_mul, xr_div, xr_rm, Int.toNat_natCast, bd_t, true_and, and_true, not_false_eq_true, ↓reduceIte, ilt_t, ilt_f, ile_t, x_c1i, x_c1r, x_c1n, and_self, Option.toList_some, Option.toList_none, List.cons_append, List.nil_append, xr_01, xr_00, ieq_f, ieq_t]
    exact hQ
  rw [if_neg c] at hQ
  have c := Decidable.not_not.1 c
  have ht := (s_there_hd (by omega)).1 c
  have al : u % 8 = 0 := (hd_al hA (by omega) ht.2.2).1
  have et : s_tou S u = u / 8 := if_pos c
  rw [et, pv_r (by omega)]
  have e8 : 8 * (u / 8) = u := by omega
  have hus : us S 2 (8 * (u / 8)) := by rw [e8]; exact us_thi (by omega) (by omega) ht.2.2
  obtain ⟨u0, u1, u2, u3, u4, -⟩ := h.thr hus
  have hh : x_has w (A 2 (8 * (u / 8))) [2] := ⟨_, _, u0, by decide⟩
  have hg := (hI.1.2.2.2.2.2.1 (u / 8).toNat (by omega)).2.1
  rw [show 8 * (((u / 8).toNat : Nat) : Int) = u by omega] at hg
  have tb := (hI.1.2.2.2.2.2.2.1 (u / 8).toNat (by omega) (hg.2 ht.2.2)).2.2.1
  by_cases c1 : S 12 (u / 8).toNat = -1
  · have hQ : Q (some (.int (xi (-1)))) w := by
      rw [if_pos c1] at hQ
      split at hQ
      · exact hQ
      · split at hQ
        · exact hQ
        · exact hQ
    rw [pv_n (by omega)] at u4
    simp (disch := first | exact hR _ _ | exact x01a | exact x01b | (unfold x_r; omega) | assumption | omega) only [wK_page_5, wK_page_5n, wK_page_6, wK_page_7n, wK_page_7, wK_page_10, wK_page_11, wK_page_14n, wK_page_14, wK_page_27, wK_page_28, hh, u4, x_gi_int, x_ga_ref, x_ga_null, List.getElem?_cons_zero, List.getElem?_cons_succ, List.length_cons, List.length_nil, List.set_cons_zero, List.set_cons_succ, Nat.reduceAdd, Nat.reduceLT, xr_lt, xr_eq, xr_toInt, xr_0, xi_add, xi_sub, xi_mul, xr_div, xr_rm, Int.toNat_natCast, bd_t, true_and, and_true, not_false_eq_true, ↓reduceIte, ilt_t, ilt_f, ile_t, x_c1i, x_c1r, x_c1n, and_self, Option.toList_some, Option.toList_none, List.cons_append, List.nil_append, xr_01, xr_00, ieq_f, ieq_t]
    exact hQ
  have hs := tb.resolve_left c1
  have hsu := hA.hd hs
  rw [pv_r (by omega)] at u4
  by_cases c2 : e < 0
  · rw [if_pos c2] at hQ
    simp (disch := first | exact hR _ _ | exact x01a | exact x01b | (unfold x_r; omega) | assumption | omega) only [wK_page_5, wK_page_5n, wK_page_6, wK_page_7n, wK_page_7, wK_page_10, wK_page_11, wK_page_14n, wK_page_14, wK_page_17, wK_page_18, wK_page_27, wK_page_28, hh, u4, x_gi_int, x_ga_ref, x_ga_null, List.getElem?_cons_zero, List.getElem?_cons_succ, List.length_cons, List.length_nil, List.set_cons_zero, List.set_cons_succ, Nat.reduceAdd, Nat.reduceLT, xr_lt, xr_eq, xr_toInt, xr_0, xi_add, xi_sub, xi_mul, xr_div, xr_rm, Int.toNat_natCast, bd_t, true_and, and_true, not_false_eq_true, ↓reduceIte, ilt_t, ilt_f, ile_t, x_c1i, x_c1r, x_c1n, and_self, Option.toList_some, Option.toList_none, List.cons_append, List.nil_append, xr_01, xr_00, ieq_f, ieq_t]
    exact hQ
  rw [if_neg c2] at hQ
  by_cases c3 : 15 < e
  · rw [if_pos c3] at hQ
    simp (disch := first | exact hR _ _ | exact x01a | exact x01b | (unfold x_r; omega) | assumption | omega) only [wK_page_5, wK_page_5n, wK_page_6, wK_page_7n, wK_page_7, wK_page_10, wK_page_11, wK_page_14n, wK_page_14, wK_page_17, wK_page_18, wK_page_21, wK_page_22, wK_page_24, wK_page_27, wK_page_28, hh, u4, x_gi_int, x_ga_ref, x_ga_null, List.getElem?_cons_zero, List.getElem?_cons_succ, List.length_cons, List.length_nil, List.set_cons_zero, List.set_cons_succ, Nat.reduceAdd, Nat.reduceLT, xr_lt, xr_eq, xr_toInt, xr_0, xi_add, xi_sub, xi_mul, xr_div, xr_rm, Int.toNat_natCast, bd_t, true_and, and_true, not_false_eq_true, ↓reduceIte, ilt_t, ilt_f, ile_t, x_c1i, x_c1r, x_c1n, and_self, Option.toList_some, Option.toList_none, List.cons_append, List.nil_append, xr_01, xr_00, ieq_f, ieq_t]
    exact hQ
  rw [if_neg c3, if_neg c1] at hQ
  obtain ⟨s0, s1, s2, s3⟩ := h.spa (us_thi (by omega) (by omega) hs)
  have hsp : x_has w (A 5 (S 12 (u / 8).toNat)) [8] := ⟨_, _, s0, by decide⟩
  obtain ⟨v0, v1⟩ := h.lvs hs
  have v2 := v1 (e / 4).toNat (by omega)
  rw [show (((e / 4).toNat : Nat) : Int) = e / 4 by omega] at v2
  have ec := x_cle (e := e / 4) (by omega) (by omega)
  have nn := x_nn (e := e / 4) (by omega) (by omega)
  have nc := x_clt (e := e / 4) (n := 4) (by omega) (by omega) (by omega)
  by_cases c4 : s_leafOf S (S 12 (u / 8).toNat) (e / 4) < 0
  · rw [if_pos c4] at hQ
    rw [pv_n c4] at v2
    simp (disch := first | exact hR _ _ | exact x01a | exact x01b | (unfold x_r; omega) | assumption | omega) only [wK_page_5, wK_page_5n, wK_page_6, wK_page_7n, wK_page_7, wK_page_10, wK_page_11, wK_page_14n, wK_page_14, wK_page_17, wK_page_18, wK_page_21, wK_page_22, wK_page_24, wK_page_29, wK_page_30, wK_page_33, wK_page_36, wK_page_37, wK_page_38, wK_page_39 v0 (by omega) nn nc, wK_page_40, wK_page_40n, wK_page_42, wK_page_44n, wK_page_44, wK_page_47, wK_page_48, hh, hsp, u4, s3, ec, v2, x_gi_int, x_ga_ref, x_ga_null, List.getElem?_cons_zero, List.getElem?_cons_succ, List.length_cons, List.length_nil, List.set_cons_zero, List.set_cons_succ, Nat.reduceAdd, Nat.reduceLT, xr_lt, xr_eq, xr_toInt, xr_0, xi_add, xi_sub, xi_mul, xr_div, xr_rm, Int.toNat_natCast, bd_t, true_and, and_true, not_false_eq_true, ↓reduceIte, ilt_t, ilt_f, ile_t, x_c1i, x_c1r, x_c1n, and_self, Option.toList_some, Option.toList_none, List.cons_append, List.nil_append, xr_01, xr_00, ieq_f, ieq_t]
    exact hQ
  rw [if_neg c4] at hQ
  rw [pv_r c4] at v2
  have hlf : hd S 6 (s_leafOf S (S 12 (u / 8).toNat) (e / 4)) := leafOf_hd (by omega)
  obtain ⟨b0, b1, b2, b3, b4, b5⟩ := h.lea (us_thi (by omega) (by omega) hlf)
  have hb : x_has w (A 6 (s_leafOf S (S 12 (u / 8).toNat) (e / 4))) [9] := ⟨_, _, b0, by decide⟩
  obtain ⟨r0, r1⟩ := h.frs hlf
  have r2 := r1 (e % 4).toNat (by omega)
  rw [show (((e % 4).toNat : Nat) : Int) = e % 4 by omega] at r2
  have ec' := x_cle (e := e % 4) (by omega) (by omega)
  have nn' := x_nn (e := e % 4) (by omega) (by omega)
  have nc' := x_clt (e := e % 4) (n := 4) (by omega) (by omega) (by omega)
  generalize s_leafOf S (S 12 (u / 8).toNat) (e / 4) = lf at *
  by_cases c5 : s_frameOf S lf (e % 4) < 0
  · rw [if_pos c5] at hQ
    rw [pv_n c5] at r2
    simp (disch := first | exact hR _ _ | exact x01a | exact x01b | (unfold x_r; omega) | assumption | omega) only [wK_page_5, wK_page_5n, wK_page_6, wK_page_7n, wK_page_7, wK_page_10, wK_page_11, wK_page_14n, wK_page_14, wK_page_17, wK_page_18, wK_page_21, wK_page_22, wK_page_24, wK_page_29, wK_page_30, wK_page_33, wK_page_36, wK_page_37, wK_page_38, wK_page_39 v0 (by omega) nn nc, wK_page_40, wK_page_40n, wK_page_42, wK_page_44n, wK_page_44, wK_page_49, wK_page_51, wK_page_54, wK_page_55, wK_page_56, wK_page_57 r0 (by omega) nn' nc', wK_page_58, wK_page_58n, wK_page_60, wK_page_62n, wK_page_62, wK_page_65, wK_page_66, hh, hsp, hb, u4, s3, ec, v2, b5, ec', r2, x_gi_int, x_ga_ref, x_ga_null, List.getElem?_cons_zero, List.getElem?_cons_succ, List.length_cons, List.length_nil, List.set_cons_zero, List.set_cons_succ, Nat.reduceAdd, Nat.reduceLT, xr_lt, xr_eq, xr_toInt, xr_0, xi_add, xi_sub, xi_mul, xr_div, xr_rm, Int.toNat_natCast, bd_t, true_and, and_true, not_false_eq_true, ↓reduceIte, ilt_t, ilt_f, ile_t, x_c1i, x_c1r, x_c1n, and_self, Option.toList_some, Option.toList_none, List.cons_append, List.nil_append, xr_01, xr_00, ieq_f, ieq_t]
    exact hQ
  rw [if_neg c5] at hQ
  rw [pv_r c5] at r2
  have hfr := frameOf_is (S := S) (l := lf) (e := e % 4) (by omega)
  generalize s_frameOf S lf (e % 4) = p at *
  obtain ⟨ct, e0, e1, -⟩ := h.cap (p := p) (by omega) hfr.1 (by omega)
  obtain ⟨n, g0, g1, g2, g3⟩ := h.thg hA (p := p) (by omega) hfr.1 (by omega)
  have hc : x_has w (A 8 p) [1] := ⟨_, _, ct, by decide⟩
  have hth : x_has w (thA A S p) [2, 4, 5, 6, 7, 8, 9, 10] := ⟨_, _, g0, g1⟩
  have k7 := hA p.toNat (by omega)
  have k8 := (k7.2 (by omega)).2.2.1
  simp (disch := first | exact hR _ _ | exact x01a | exact x01b | (unfold x_r; omega) | assumption | omega) only [wK_page_5, wK_page_5n, wK_page_6, wK_page_7n, wK_page_7, wK_page_10, wK_page_11, wK_page_14n, wK_page_14, wK_page_17, wK_page_18, wK_page_21, wK_page_22, wK_page_24, wK_page_29, wK_page_30, wK_page_33, wK_page_36, wK_page_37, wK_page_38, wK_page_39 v0 (by omega) nn nc, wK_page_40, wK_page_40n, wK_page_42, wK_page_44n, wK_page_44, wK_page_49, wK_page_51, wK_page_54, wK_page_55, wK_page_56, wK_page_57 r0 (by omega) nn' nc', wK_page_58, wK_page_58n, wK_page_60, wK_page_62n, wK_page_62, wK_page_67, wK_page_69, wK_page_72, wK_page_75, wK_page_78, wK_page_80, wK_page_83, wK_page_84, wK_page_85, hh, hsp, hb, hc, hth, u4, s3, ec, v2, b5, ec', r2, e0, e1, g3, x_gi_int, x_ga_ref, x_ga_null, List.getElem?_cons_zero, List.getElem?_cons_succ, List.length_cons, List.length_nil, List.set_cons_zero, List.set_cons_succ, Nat.reduceAdd, Nat.reduceLT, xr_lt, xr_eq, xr_toInt, xr_0, xi_add, xi_sub, xi_mul, xr_div, xr_rm, Int.toNat_natCast, bd_t, true_and, and_true, not_false_eq_true, ↓reduceIte, ilt_t, ilt_f, ile_t, x_c1i, x_c1r, x_c1n, and_self, Option.toList_some, Option.toList_none, List.cons_append, List.nil_append, xr_01, xr_00, ieq_f, ieq_t]
  exact hQ
end KI
