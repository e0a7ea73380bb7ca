section KV
variable {P : xP} {w : xH} {Q : Option Value → xH → Prop} {A : xA} {S : xS} {ln : Nat → Int}
theorem vacant_find {S : xS} {a : Int} : s_vacant S a = if s_find S (s_now S).toNat a < 0 then -1 else if S 0 (s_find S (s_now S).toNat a).toNat < 0 then s_find S (s_now S).toNat a else -1 := rfl
set_option maxHeartbeats 8000000 in
theorem k_copy (h : Rel w A S (lid S)) (hI : Inv S) {src dest rg mine : Int} (hs : x_r src) (hde : x_r dest) (hrg : x_r rg) (hmi : x_r mine) {l5 l6 l7 l8 l9 l10 : Option Value} (hQ : ∀ w' A', A' 12 0 = A 12 0 → Rel w' A' (s_copy S src dest rg mine).2 (lid (s_copy S src dest rg mine).2) → Fr w w' 4 → Q (some (.int (xi (s_copy S src dest rg mine).1))) w') : WP P 25 0 [some (.ref (A 12 0)), some (.int (xi src)), some (.int (xi dest)), some (.int (xi rg)), some (.int (xi mine)), l5, l6, l7, l8, l9, l10] [] w Q := by
  obtain ⟨⟨t0, t1, t2, t3, t4⟩, f0, f1, f2, f3⟩ := h.ker
  have hR := hI.1.1
  have hA := hI.1.2.1
  have hn := s_now_in S
  have fr0 : Fr w w 4 := (Fr.refl w).le (by omega)
  unfold s_copy at hQ
  simp (disch := first | exact hR _ _ | exact x01a | exact x01b | (unfold x_r; omega) | assumption | omega) only [wK_copy_0, x_gi_int, x_ga_ref, x_ga_null, List.getElem?_cons_zero, List.getElem?_cons_succ, List.length_cons, List.length_nil, List.set_cons_zero, List.set_cons_succ, Nat.reduceAdd, Nat.reduceLT, xr_lt, xr_eq, xr_toInt, xr_0, xi_add, xi_sub, xi_mul, xr_div, xr_rm, Int.toNat_natCast, bd_t, true_and, and_true, not_false_eq_true, ↓reduceIte, ilt_t, ilt_f, ile_t, x_c1i, x_c1r, x_c1n, and_self, Option.toList_some, Option.toList_none, List.cons_append, List.nil_append, xr_01, xr_00, ieq_f, ieq_t]
  refine wK_copy_1 t0 (by simp) rfl rfl (k_currentThread h hI ?_)
  by_cases c1 : s_now S < 0
  · rw [if_pos c1] at hQ
    rw [pv_n c1]
    simp (disch := first | exact hR _ _ | exact x01a | exact x01b | (unfold x_r; omega) | assumption | omega) only [wK_copy_4, wK_copy_4n, wK_copy_6, wK_copy_8n, wK_copy_8, wK_copy_11, wK_copy_13, x_gi_int, x_ga_ref, x_ga_null, List.getElem?_cons_zero, List.getElem?_cons_succ, List.length_cons, List.length_nil, List.set_cons_zero, List.set_cons_succ, Nat.reduceAdd, Nat.reduceLT, xr_lt, xr_eq, xr_toInt, xr_0, xi_add, xi_sub, xi_mul, xr_div, xr_rm, Int.toNat_natCast, bd_t, true_and, and_true, not_false_eq_true, ↓reduceIte, ilt_t, ilt_f, ile_t, x_c1i, x_c1r, x_c1n, and_self, Option.toList_some, Option.toList_none, List.cons_append, List.nil_append, xr_01, xr_00, ieq_f, ieq_t]
    exact hQ w A rfl h fr0
  rw [if_neg c1] at hQ
  rw [pv_r c1]
  obtain ⟨n1, n2⟩ := now_is c1
  simp (disch := first | exact hR _ _ | exact x01a | exact x01b | (unfold x_r; omega) | assumption | omega) only [wK_copy_4, wK_copy_4n, wK_copy_6, wK_copy_8n, wK_copy_8, wK_copy_14, wK_copy_15, wK_copy_17, x_gi_int, x_ga_ref, x_ga_null, List.getElem?_cons_zero, List.getElem?_cons_succ, List.length_cons, List.length_nil, List.set_cons_zero, List.set_cons_succ, Nat.reduceAdd, Nat.reduceLT, xr_lt, xr_eq, xr_toInt, xr_0, xi_add, xi_sub, xi_mul, xr_div, xr_rm, Int.toNat_natCast, bd_t, true_and, and_true, not_false_eq_true, ↓reduceIte, ilt_t, ilt_f, ile_t, x_c1i, x_c1r, x_c1n, and_self, Option.toList_some, Option.toList_none, List.cons_append, List.nil_append, xr_01, xr_00, ieq_f, ieq_t]
  refine wK_copy_18 t0 (by simp) rfl rfl (k_capabilityAt h hI (by omega) (by omega) (by omega) hs ?_)
  rw [← having_hv]
  by_cases c2 : s_having S src (-1) < 0
  · rw [if_pos c2] at hQ
    rw [pv_n c2]
    simp (disch := first | exact hR _ _ | exact x01a | exact x01b | (unfold x_r; omega) | assumption | omega) only [wK_copy_21, wK_copy_21n, wK_copy_23, wK_copy_25n, wK_copy_25, wK_copy_28, wK_copy_29, x_gi_int, x_ga_ref, x_ga_null, List.getElem?_cons_zero, List.getElem?_cons_succ, List.length_cons, List.length_nil, List.set_cons_zero, List.set_cons_succ, Nat.reduceAdd, Nat.reduceLT, xr_lt, xr_eq, xr_toInt, xr_0, xi_add, xi_sub, xi_mul, xr_div, xr_rm, Int.toNat_natCast, bd_t, true_and, and_true, not_false_eq_true, ↓reduceIte, ilt_t, ilt_f, ile_t, x_c1i, x_c1r, x_c1n, and_self, Option.toList_some, Option.toList_none, List.cons_append, List.nil_append, xr_01, xr_00, ieq_f, ieq_t]
    exact hQ w A rfl h fr0
  rw [if_neg c2] at hQ
  rw [pv_r c2]
  have hh := s_having_in hI.gs.1 (by omega) src (-1)
  have hl := (hh.2.2 (by omega)).1
  generalize s_having S src (-1) = p at *
  obtain ⟨ct, e0, e1, e2, -⟩ := h.cap (p := p) (by omega) (by omega) hl
  obtain ⟨n, g0, g1, g2, g3⟩ := h.thg hA (p := p) (by omega) (by omega) hl
  have hc : x_has w (A 8 p) [1] := ⟨_, _, ct, by decide⟩
  have hg : x_has w (thA A S p) [2, 4, 5, 6, 7, 8, 9, 10] := ⟨_, _, g0, g1⟩
  have k7 := hA p.toNat (by omega)
  have k8 := (k7.2 hl).2.2.1
  unfold x_r at hrg hmi
  by_cases c3 : S 0 p.toNat = 0
  · rw [if_pos c3] at hQ
    simp (disch := first | exact hR _ _ | exact x01a | exact x01b | (unfold x_r; omega) | assumption | omega) only [wK_copy_21, wK_copy_21n, wK_copy_23, wK_copy_25n, wK_copy_25, wK_copy_30, wK_copy_32, wK_copy_35, wK_copy_38, wK_copy_41, wK_copy_42, hc, hg, e0, g2, c3, x_gi_int, x_ga_ref, x_ga_null, List.getElem?_cons_zero, List.getElem?_cons_succ, List.length_cons, List.length_nil, List.set_cons_zero, List.set_cons_succ, Nat.reduceAdd, Nat.reduceLT, xr_lt, xr_eq, xr_toInt, xr_0, xi_add, xi_sub, xi_mul, xr_div, xr_rm, Int.toNat_natCast, bd_t, true_and, and_true, not_false_eq_true, ↓reduceIte, ilt_t, ilt_f, ile_t, x_c1i, x_c1r, x_c1n, and_self, Option.toList_some, Option.toList_none, List.cons_append, List.nil_append, xr_01, xr_00, ieq_f, ieq_t]
    exact hQ w A rfl h fr0
  rw [if_neg c3] at hQ
  by_cases c4 : rg < 0
  · rw [if_pos c4] at hQ
    simp (disch := first | exact hR _ _ | exact x01a | exact x01b | (unfold x_r; omega) | assumption | omega) only [wK_copy_21, wK_copy_21n, wK_copy_23, wK_copy_25n, wK_copy_25, wK_copy_30, wK_copy_32, wK_copy_35, wK_copy_38, wK_copy_43, wK_copy_44, wK_copy_66, wK_copy_67, hc, hg, e0, g2, c3, x_gi_int, x_ga_ref, x_ga_null, List.getElem?_cons_zero, List.getElem?_cons_succ, List.length_cons, List.length_nil, List.set_cons_zero, List.set_cons_succ, Nat.reduceAdd, Nat.reduceLT, xr_lt, xr_eq, xr_toInt, xr_0, xi_add, xi_sub, xi_mul, xr_div, xr_rm, Int.toNat_natCast, bd_t, true_and, and_true, not_false_eq_true, ↓reduceIte, ilt_t, ilt_f, ile_t, x_c1i, x_c1r, x_c1n, and_self, Option.toList_some, Option.toList_none, List.cons_append, List.nil_append, xr_01, xr_00, ieq_f, ieq_t]
    exact hQ w A rfl h fr0
  rw [if_neg c4] at hQ
  by_cases c5 : 7 < rg
  · rw [if_pos c5] at hQ
    simp (disch := first | exact hR _ _ | exact x01a | exact x01b | (unfold x_r; omega) | assumption | omega) only [wK_copy_21, wK_copy_21n, wK_copy_23, wK_copy_25n, wK_copy_25, wK_copy_30, wK_copy_32, wK_copy_35, wK_copy_38, wK_copy_43, wK_copy_44, wK_copy_47, wK_copy_48, wK_copy_50, wK_copy_66, wK_copy_67, hc, hg, e0, g2, c3, x_gi_int, x_ga_ref, x_ga_null, List.getElem?_cons_zero, List.getElem?_cons_succ, List.length_cons, List.length_nil, List.set_cons_zero, List.set_cons_succ, Nat.reduceAdd, Nat.reduceLT, xr_lt, xr_eq, xr_toInt, xr_0, xi_add, xi_sub, xi_mul, xr_div, xr_rm, Int.toNat_natCast, bd_t, true_and, and_true, not_false_eq_true, ↓reduceIte, ilt_t, ilt_f, ile_t, x_c1i, x_c1r, x_c1n, and_self, Option.toList_some, Option.toList_none, List.cons_append, List.nil_append, xr_01, xr_00, ieq_f, ieq_t]
    exact hQ w A rfl h fr0
  rw [if_neg c5] at hQ
  by_cases c6 : mine < 0
  · rw [if_pos c6] at hQ
    simp (disch := first | exact hR _ _ | exact x01a | exact x01b | (unfold x_r; omega) | assumption | omega) only [wK_copy_21, wK_copy_21n, wK_copy_23, wK_copy_25n, wK_copy_25, wK_copy_30, wK_copy_32, wK_copy_35, wK_copy_38, wK_copy_43, wK_copy_44, wK_copy_47, wK_copy_48, wK_copy_50, wK_copy_53, wK_copy_55, wK_copy_66, wK_copy_67, hc, hg, e0, g2, c3, x_gi_int, x_ga_ref, x_ga_null, List.getElem?_cons_zero, List.getElem?_cons_succ, List.length_cons, List.length_nil, List.set_cons_zero, List.set_cons_succ, Nat.reduceAdd, Nat.reduceLT, xr_lt, xr_eq, xr_toInt, xr_0, xi_add, xi_sub, xi_mul, xr_div, xr_rm, Int.toNat_natCast, bd_t, true_and, and_true, not_false_eq_true, ↓reduceIte, ilt_t, ilt_f, ile_t, x_c1i, x_c1r, x_c1n, and_self, Option.toList_some, Option.toList_none, List.cons_append, List.nil_append, xr_01, xr_00, ieq_f, ieq_t]
    exact hQ w A rfl h fr0
  rw [if_neg c6] at hQ
  by_cases c7 : 255 < mine
  · rw [if_pos c7] at hQ
    simp (disch := first | exact hR _ _ | exact x01a | exact x01b | (unfold x_r; omega) | assumption | omega) only [wK_copy_21, wK_copy_21n, wK_copy_23, wK_copy_25n, wK_copy_25, wK_copy_30, wK_copy_32, wK_copy_35, wK_copy_38, wK_copy_43, wK_copy_44, wK_copy_47, wK_copy_48, wK_copy_50, wK_copy_53, wK_copy_55, wK_copy_58, wK_copy_60, wK_copy_63, wK_copy_66, wK_copy_67, hc, hg, e0, g2, c3, x_gi_int, x_ga_ref, x_ga_null, List.getElem?_cons_zero, List.getElem?_cons_succ, List.length_cons, List.length_nil, List.set_cons_zero, List.set_cons_succ, Nat.reduceAdd, Nat.reduceLT, xr_lt, xr_eq, xr_toInt, xr_0, xi_add, xi_sub, xi_mul, xr_div, xr_rm, Int.toNat_natCast, bd_t, true_and, and_true, not_false_eq_true, ↓reduceIte, ilt_t, ilt_f, ile_t, x_c1i, x_c1r, x_c1n, and_self, Option.toList_some, Option.toList_none, List.cons_append, List.nil_append, xr_01, xr_00, ieq_f, ieq_t]
    exact hQ w A rfl h fr0
  rw [if_neg c7] at hQ
  simp (disch := first | exact hR _ _ | exact x01a | exact x01b | (unfold x_r; omega) | assumption | omega) only [wK_copy_21, wK_copy_21n, wK_copy_23, wK_copy_25n, wK_copy_25, wK_copy_30, wK_copy_32, wK_copy_35, wK_copy_38, wK_copy_43, wK_copy_44, wK_copy_47, wK_copy_48, wK_copy_50, wK_copy_53, wK_copy_55, wK_copy_58, wK_copy_60, wK_copy_63, wK_copy_68, wK_copy_69, wK_copy_71, hc, hg, e0, g2, c3, x_gi_int, x_ga_ref, x_ga_null, List.getElem?_cons_zero, List.getElem?_cons_succ, List.length_cons, List.length_nil, List.set_cons_zero, List.set_cons_succ, Nat.reduceAdd, Nat.reduceLT, xr_lt, xr_eq, xr_toInt, xr_0, xi_add, xi_sub, xi_mul, xr_div, xr_rm, Int.toNat_natCast, bd_t, true_and, and_true, not_false_eq_true, ↓reduceIte, ilt_t, ilt_f, ile_t, x_c1i, x_c1r, x_c1n, and_self, Option.toList_some, Option.toList_none, List.cons_append, List.nil_append, xr_01, xr_00, ieq_f, ieq_t]
  refine wK_copy_72 t0 (by simp) rfl rfl (k_placeOf h hI (by omega) (by omega) (by omega) hde ?_)
  have hfi := s_find_in hI.gs.1 (t := (s_now S).toNat) n1 dest
  simp (disch := first | exact hR _ _ | exact x01a | exact x01b | (unfold x_r; omega) | assumption | omega) only [wK_copy_75, wK_copy_77, wK_copy_78, x_gi_int, x_ga_ref, x_ga_null, List.getElem?_cons_zero, List.getElem?_cons_succ, List.length_cons, List.length_nil, List.set_cons_zero, List.set_cons_succ, Nat.reduceAdd, Nat.reduceLT, xr_lt, xr_eq, xr_toInt, xr_0, xi_add, xi_sub, xi_mul, xr_div, xr_rm, Int.toNat_natCast, bd_t, true_and, and_true, not_false_eq_true, ↓reduceIte, ilt_t, ilt_f, ile_t, x_c1i, x_c1r, x_c1n, and_self, Option.toList_some, Option.toList_none, List.cons_append, List.nil_append, xr_01, xr_00, ieq_f, ieq_t]
  refine wK_copy_80 t0 (by simp) rfl rfl (k_isEmptySlot h hfi.1 hfi.2 ?_)
  have ve := vacant_find (S := S) (a := dest)
  by_cases c8 : s_vacant S dest < 0
  · rw [if_pos c8] at hQ
    have b0 : (if s_find S (s_now S).toNat dest = -1 then (0 : Int) else if S 0 (s_find S (s_now S).toNat dest).toNat < 0 then 1 else 0) = 0 := by
      by_cases d1 : s_find S (s_now S).toNat dest = -1
      · rw [if_pos d1]
      · rw [if_neg d1]
        by_cases d2 : S 0 (s_find S (s_now S).toNat dest).toNat < 0
        · rw [if_neg (by omega), if_pos d2] at ve; omega
        · rw [if_neg d2]
    rw [b0]
    simp (disch := first | exact hR _ _ | exact x01a | exact x01b | (unfold x_r; omega) | assumption | omega) only [wK_copy_83, wK_copy_86, wK_copy_87, x_gi_int, x_ga_ref, x_ga_null, List.getElem?_cons_zero, List.getElem?_cons_succ, List.length_cons, List.length_nil, List.set_cons_zero, List.set_cons_succ, Nat.reduceAdd, Nat.reduceLT, xr_lt, xr_eq, xr_toInt, xr_0, xi_add, xi_sub, xi_mul, xr_div, xr_rm, Int.toNat_natCast, bd_t, true_and, and_true, not_false_eq_true, ↓reduceIte, ilt_t, ilt_f, ile_t, x_c1i, x_c1r, x_c1n, and_self, Option.toList_some, Option.toList_none, List.cons_append, List.nil_append, xr_01, xr_00, ieq_f, ieq_t]
    exact hQ w A rfl h fr0
  rw [if_neg c8] at hQ
  obtain ⟨v1, v2, v3⟩ := vacant_is hI c1 c8
  have fv : s_find S (s_now S).toNat dest = s_vacant S dest := by
    by_cases d1 : s_find S (s_now S).toNat dest < 0
    · rw [if_pos d1] at ve; omega
    · rw [if_neg d1] at ve
      by_cases d2 : S 0 (s_find S (s_now S).toNat dest).toNat < 0
      · rw [if_pos d2] at ve; exact ve.symm
      · rw [if_neg d2] at ve; omega
  rw [fv, if_neg (by omega), if_pos v2]
  obtain ⟨d, ed⟩ : ∃ d : Nat, s_vacant S dest = (d : Int) := ⟨(s_vacant S dest).toNat, by omega⟩
  rw [ed] at v1 v2 v3 hQ ⊢
  rw [Int.toNat_natCast] at v2
  obtain ⟨fp, efp⟩ : ∃ fp : Nat, p = (fp : Int) := ⟨p.toNat, by omega⟩
  subst efp
  simp only [Int.toNat_natCast] at hl e1 e2 g0 g1 g2 g3 k7 k8 c3 hQ
  have xa := xr_and (a := S 2 fp) (b := rg) k8.1 (by omega)
  have bd : ∃ nb, nb = (if S 3 fp = 0 ∧ (S 0 fp = 3 ∨ S 0 fp = 4) then mine else S 3 fp) := ⟨_, rfl⟩
  obtain ⟨nb, enb⟩ := bd
  rw [← enb] at hQ
  -- the badge
  have run : WP P 25 142 [some (.ref (A 12 0)), some (.int (xi src)), some (.int (xi dest)), some (.int (xi rg)), some (.int (xi mine)), some (.ref (A 2 (8 * s_now S))), some (.ref (A 8 (fp : Int))), some (.int (xi (d : Int))), some (.int (xi (S 0 fp))), some (.int (xi (if S 3 fp = 0 ∧ (S 0 fp = 3 ∨ S 0 fp = 4) then 1 else 0))), some (.int (xi nb))] [] w Q := by
    have t0n : x_tg (x_new w 1 8 (x_df 1)) (A 12 0) = some (0, 4) := by
      rw [x_tg_new, if_neg (by have := h.lt (us_ker (i := 0) (by omega)); omega)]; exact t0
    have t1n : x_tg (x_new w 1 8 (x_df 1)) (A 12 1) = some (31, 128) := by
      rw [x_tg_new, if_neg (by have := h.lt (us_ker (i := 1) (by omega)); omega)]; exact t1
    have f0n : x_fd (x_new w 1 8 (x_df 1)) (A 12 0) 0 = .ref (A 12 1) := by
      rw [x_fd_new, if_neg (by have := h.lt (us_ker (i := 0) (by omega)); omega)]; exact f0
    have lc := h.lt (us_cap (p := (fp : Int)) (by omega) (by omega) (by rw [Int.toNat_natCast]; exact hl))
    have hcn : x_has (x_new w 1 8 (x_df 1)) (A 8 (fp : Int)) [1] := ⟨_, _, by rw [x_tg_new, if_neg (by omega)]; exact ct, by decide⟩
    have e0n : x_fd (x_new w 1 8 (x_df 1)) (A 8 (fp : Int)) 0 = .ref (thA A S (fp : Int)) := by rw [x_fd_new, if_neg (by omega)]; exact e0
    have e1n : x_fd (x_new w 1 8 (x_df 1)) (A 8 (fp : Int)) 1 = .int (xi (S 2 fp)) := by rw [x_fd_new, if_neg (by omega)]; exact e1
    have tn : x_tg (x_new w 1 8 (x_df 1)) (x_sz w) = some (1, 8) := by rw [x_tg_new, if_pos rfl]
    simp (disch := first | exact hR _ _ | exact x01a | exact x01b | (unfold x_r; omega) | assumption | omega) only [wK_copy_142, wK_copy_143, wK_copy_146, wK_copy_147, wK_copy_149, wK_copy_152, wK_copy_154, wK_copy_157, wK_copy_158, wK_copy_159, wK_copy_161, hcn, e0n, e1n, xa, x_gi_int, x_ga_ref, x_ga_null, List.getElem?_cons_zero, List.getElem?_cons_succ, List.length_cons, List.length_nil, List.set_cons_zero, List.set_cons_succ, Nat.reduceAdd, Nat.reduceLT, xr_lt, xr_eq, xr_toInt, xr_0, xi_add, xi_sub, xi_mul, xr_div, xr_rm, Int.toNat_natCast, bd_t, true_and, and_true, not_false_eq_true, ↓reduceIte, ilt_t, ilt_f, ile_t, x_c1i, x_c1r, x_c1n, and_self, Option.toList_some, Option.toList_none, List.cons_append, List.nil_append, xr_01, xr_00, ieq_f, ieq_t]
    have ci := k_capInit (P := P) (w := x_new w 1 8 (x_df 1)) (a := x_sz w) (th := thA A S (fp : Int)) (r := s_and (S 2 fp) rg) (b := nb) (p := (fp : Int)) (pa := A 8 (fp : Int)) ⟨_, _, tn, by decide⟩ (Q := fun v w1 => WP P 25 166 [some (.ref (A 12 0)), some (.int (xi src)), some (.int (xi dest)), some (.int (xi rg)), some (.int (xi mine)), some (.ref (A 2 (8 * s_now S))), some (.ref (A 8 (fp : Int))), some (.int (xi (d : Int))), some (.int (xi (S 0 fp))), some (.int (xi (if S 3 fp = 0 ∧ (S 0 fp = 3 ∨ S 0 fp = 4) then 1 else 0))), some (.int (xi nb))] (v.toList ++ [.ref (x_sz w), .ref (A 12 0)]) w1 Q) ?_
    · rw [pv_r (by omega)] at ci
      exact wK_copy_163 (by simp) rfl rfl ci
    · simp (disch := first | exact hR _ _ | exact x01a | exact x01b | (unfold x_r; omega) | assumption | omega) only [wK_copy_166, x_gi_int, x_ga_ref, x_ga_null, List.getElem?_cons_zero, List.getElem?_cons_succ, List.length_cons, List.length_nil, List.set_cons_zero, List.set_cons_succ, Nat.reduceAdd, Nat.reduceLT, xr_lt, xr_eq, xr_toInt, xr_0, xi_add, xi_sub, xi_mul, xr_div, xr_rm, Int.toNat_natCast, bd_t, true_and, and_true, not_false_eq_true, ↓reduceIte, ilt_t, ilt_f, ile_t, x_c1i, x_c1r, x_c1n, and_self, Option.toList_some, Option.toList_none, List.cons_append, List.nil_append, xr_01, xr_00, ieq_f, ieq_t]
      refine wK_copy_168 t0n (by simp) rfl rfl (k_put (m := 8) ⟨_, _, t0n, by decide⟩ ?_ t1n tn (by omega) ?_)
      · rw [x_fd_put, if_neg (by omega), x_fd_put, if_neg (by omega), x_fd_put, if_neg (by omega), x_fd_put, if_neg (fun x => by have := h.lt (us_ker (i := 0) (by omega)); omega)]
        exact f0n
      · simp (disch := first | exact hR _ _ | exact x01a | exact x01b | (unfold x_r; omega) | assumption | omega) only [wK_copy_171, wK_copy_172, x_gi_int, x_ga_ref, x_ga_null, List.getElem?_cons_zero, List.getElem?_cons_succ, List.length_cons, List.length_nil, List.set_cons_zero, List.set_cons_succ, Nat.reduceAdd, Nat.reduceLT, xr_lt, xr_eq, xr_toInt, xr_0, xi_add, xi_sub, xi_mul, xr_div, xr_rm, Int.toNat_natCast, bd_t, true_and, and_true, not_false_eq_true, ↓reduceIte, ilt_t, ilt_f, ile_t, x_c1i, x_c1r, x_c1n, and_self, Option.toList_some, Option.toList_none, List.cons_append, List.nil_append, xr_01, xr_00, ieq_f, ieq_t]
        have fd := fill_d (S := S) (s := (d : Int)) (k := S 0 fp) (u := S 1 fp) (size := 0) (from_ := (fp : Int))
        rw [Int.toNat_natCast (n := d)] at fd
        have T0 : ∀ T : xS, T = (sset (sset (s_fill S (d : Int) (S 0 fp) (S 1 fp) 0 (fp : Int)) 2 (d : Int).toNat (s_and (S 2 fp) rg)) 3 (d : Int).toNat nb) → Rel (capW w (A 12 1) d (thA A S (fp : Int)) (s_and (S 2 fp) rg) nb (fp : Int) (A 8 (fp : Int))) (aup A 8 (d : Int) (x_sz w)) T (lid T) := by
          intro T eT
          rw [Int.toNat_natCast (n := d)] at eT
          have o : ∀ j, 9 ≤ j → T j = S j := by
            intro j hj
            rw [eT, sset_o (by omega), sset_o (by omega), fill_o hj]
          have lT : lid T = lid S := lid_o (o 10 (by omega)) (o 13 (by omega)) (o 19 (by omega))
          rw [lT]
          have T2 : T 2 d = s_and (S 2 fp) rg := by rw [eT, sset_o (by omega), sset_at, if_pos ⟨rfl, rfl⟩]
          have T3 : T 3 d = nb := by rw [eT, sset_at, if_pos ⟨rfl, rfl⟩]
          have := h.copyc (T := T) hI (d := d) (f := fp) (by omega) v2 (by omega) (by omega) o (fun j i hj hi => by rw [eT, sset_at, if_neg (fun x => hi x.2), sset_at, if_neg (fun x => hi x.2), fill_i (by rw [Int.toNat_natCast]; exact hi)]) (by rw [eT, sset_o (by omega), sset_o (by omega), fd.1]) (by rw [eT, sset_o (by omega), sset_o (by omega), fd.2.1]) (by rw [eT, sset_o (by omega), sset_o (by omega), fd.2.2.1]) (by rw [eT, sset_o (by omega), sset_o (by omega), fd.2.2.2.2.2])
          rw [T2, T3] at this
          exact this
        refine hQ _ _ (aup_n (by omega)) (T0 _ rfl) ?_
        exact (h.newfr (Fr.refl w) (us_ker (by omega)) d _ _ _ _ _).le (by omega)
  by_cases c9 : S 3 fp = 0
  · by_cases c10 : S 0 fp = 3
    · have cc : S 3 fp = 0 ∧ (S 0 fp = 3 ∨ S 0 fp = 4) := ⟨c9, Or.inl c10⟩
      rw [if_pos cc] at enb run
      rw [enb] at run
      rw [c10] at g2 run
      simp (disch := first | exact hR _ _ | exact x01a | exact x01b | (unfold x_r; omega) | assumption | omega) only [wK_copy_83, wK_copy_88, wK_copy_90, wK_copy_93, wK_copy_96, wK_copy_98, wK_copy_100, wK_copy_103, wK_copy_106, wK_copy_108, wK_copy_109, wK_copy_118, wK_copy_119, wK_copy_123, wK_copy_125, wK_copy_127, wK_copy_130, wK_copy_132, wK_copy_140, hc, hg, e0, e2, g2, c9, c10, x_gi_int, x_ga_ref, x_ga_null, List.getElem?_cons_zero, List.getElem?_cons_succ, List.length_cons, List.length_nil, List.set_cons_zero, List.set_cons_succ, Nat.reduceAdd, Nat.reduceLT, xr_lt, xr_eq, xr_toInt, xr_0, xi_add, xi_sub, xi_mul, xr_div, xr_rm, Int.toNat_natCast, bd_t, true_and, and_true, not_false_eq_true, ↓reduceIte, ilt_t, ilt_f, ile_t, x_c1i, x_c1r, x_c1n, and_self, Option.toList_some, Option.toList_none, List.cons_append, List.nil_append, xr_01, xr_00, ieq_f, ieq_t]
      exact run
    · by_cases c11 : S 0 fp = 4
      · have cc : S 3 fp = 0 ∧ (S 0 fp = 3 ∨ S 0 fp = 4) := ⟨c9, Or.inr c11⟩
        rw [if_pos cc] at enb run
        rw [enb] at run
        rw [c11] at g2 run
        have n43 : ¬ (4 : Int) = 3 := by omega
        simp (disch := first | exact hR _ _ | exact x01a | exact x01b | (unfold x_r; omega) | assumption | omega) only [wK_copy_83, wK_copy_88, wK_copy_90, wK_copy_93, wK_copy_96, wK_copy_98, wK_copy_100, wK_copy_103, wK_copy_106, wK_copy_108, wK_copy_109, wK_copy_112, wK_copy_114, wK_copy_115, wK_copy_118, wK_copy_119, wK_copy_123, wK_copy_125, wK_copy_127, wK_copy_130, wK_copy_132, wK_copy_140, hc, hg, e0, e2, g2, c9, c11, n43, x_gi_int, x_ga_ref, x_ga_null, List.getElem?_cons_zero, List.getElem?_cons_succ, List.length_cons, List.length_nil, List.set_cons_zero, List.set_cons_succ, Nat.reduceAdd, Nat.reduceLT, xr_lt, xr_eq, xr_toInt, xr_0, xi_add, xi_sub, xi_mul, xr_div, xr_rm, Int.toNat_natCast, bd_t, true_and, and_true, not_false_eq_true, ↓reduceIte, ilt_t, ilt_f, ile_t, x_c1i, x_c1r, x_c1n, and_self, Option.toList_some, Option.toList_none, List.cons_append, List.nil_append, xr_01, xr_00, ieq_f, ieq_t]
        exact run
      · have cc : ¬ (S 3 fp = 0 ∧ (S 0 fp = 3 ∨ S 0 fp = 4)) := by omega
        rw [if_neg cc] at enb run
        rw [enb] at run
        simp (disch := first | exact hR _ _ | exact x01a | exact x01b | (unfold x_r; omega) | assumption | omega) only [wK_copy_83, wK_copy_88, wK_copy_90, wK_copy_93, wK_copy_96, wK_copy_98, wK_copy_100, wK_copy_103, wK_copy_106, wK_copy_108, wK_copy_109, wK_copy_112, wK_copy_114, wK_copy_115, wK_copy_122, wK_copy_123, wK_copy_125, wK_copy_127, wK_copy_135, wK_copy_137, wK_copy_140, hc, hg, e0, e2, g2, c10, c11, c9, x_gi_int, x_ga_ref, x_ga_null, List.getElem?_cons_zero, List.getElem?_cons_succ, List.length_cons, List.length_nil, List.set_cons_zero, List.set_cons_succ, Nat.reduceAdd, Nat.reduceLT, xr_lt, xr_eq, xr_toInt, xr_0, xi_add, xi_sub, xi_mul, xr_div, xr_rm, Int.toNat_natCast, bd_t, true_and, and_true, not_false_eq_true, ↓reduceIte, ilt_t, ilt_f, ile_t, x_c1i, x_c1r, x_c1n, and_self, Option.toList_some, Option.toList_none, List.cons_append, List.nil_append, xr_01, xr_00, ieq_f, ieq_t]
        rw [c9] at run
        exact run
  · have cc : ¬ (S 3 fp = 0 ∧ (S 0 fp = 3 ∨ S 0 fp = 4)) := by omega
    rw [if_neg cc] at enb run
    rw [enb] at run
    simp (disch := first | exact hR _ _ | exact x01a | exact x01b | (unfold x_r; omega) | assumption | omega) only [wK_copy_83, wK_copy_88, wK_copy_90, wK_copy_93, wK_copy_96, wK_copy_98, wK_copy_100, wK_copy_103, wK_copy_122, wK_copy_123, wK_copy_125, wK_copy_127, wK_copy_135, wK_copy_137, wK_copy_140, hc, hg, e0, e2, g2, c9, x_gi_int, x_ga_ref, x_ga_null, List.getElem?_cons_zero, List.getElem?_cons_succ, List.length_cons, List.length_nil, List.set_cons_zero, List.set_cons_succ, Nat.reduceAdd, Nat.reduceLT, xr_lt, xr_eq, xr_toInt, xr_0, xi_add, xi_sub, xi_mul, xr_div, xr_rm, Int.toNat_natCast, bd_t, true_and, and_true, not_false_eq_true, ↓reduceIte, ilt_t, ilt_f, ile_t, x_c1i, x_c1r, x_c1n, and_self, Option.toList_some, Option.toList_none, List.cons_append, List.nil_append, xr_01, xr_00, ieq_f, ieq_t]
    exact run
end KV
