section KH
variable {P : xP} {w : xH} {Q : Option Value → xH → Prop} {A : xA} {S : xS} {ln : Nat → Int}
theorem k_current (h : Rel w A S (lid S)) (hI : Inv S) (hQ : Q (some (.int (xi (s_current S)))) w) : WP P 69 0 [some (.ref (A 12 0))] [] w Q := by
  obtain ⟨⟨t0, t1, t2, t3, t4⟩, f0, f1, f2, f3⟩ := h.ker
  have hR := hI.1.1
  have hn := s_now_in S
  simp (disch := first | exact hR _ _ | exact x01a | exact x01b | (unfold x_r; omega) | assumption | omega) only [wK_current_0, x_gi_int, x_ga_ref, x_ga_null, List.getElem?_cons_zero, List.getElem?_cons_succ, List.length_cons, List.length_nil, List.set_cons_zero, List.set_cons_succ, Nat.reduceAdd, Nat.reduceLT, xr_lt, xr_eq, xr_toInt, xr_0, xi_add, xi_sub, xi_mul, xr_div, xr_rm, Int.toNat_natCast, bd_t, true_and, and_true, not_false_eq_true, ↓reduceIte, ilt_t, ilt_f, ile_t, x_c1i, x_c1r, x_c1n, and_self, Option.toList_some, Option.toList_none, List.cons_append, List.nil_append, xr_01, xr_00, ieq_f, ieq_t]
  refine wK_current_1 t0 (by simp) rfl rfl (k_currentThread h hI ?_)
  simp (disch := first | exact hR _ _ | exact x01a | exact x01b | (unfold x_r; omega) | assumption | omega) only [x_gi_int, x_ga_ref, x_ga_null, List.getElem?_cons_zero, List.getElem?_cons_succ, List.length_cons, List.length_nil, List.set_cons_zero, List.set_cons_succ, Nat.reduceAdd, Nat.reduceLT, xr_lt, xr_eq, xr_toInt, xr_0, xi_add, xi_sub, xi_mul, xr_div, xr_rm, Int.toNat_natCast, bd_t, true_and, and_true, not_false_eq_true, ↓reduceIte, ilt_t, ilt_f, ile_t, x_c1i, x_c1r, x_c1n, and_self, Option.toList_some, Option.toList_none, List.cons_append, List.nil_append, xr_01, xr_00, ieq_f, ieq_t]
  refine wK_current_4 (by simp) (by unfold pv; split <;> rfl) rfl (k_unitOf (u := 8 * s_now S) (fun c => ?_) ?_)
  · obtain ⟨k1, k2⟩ := now_is c
    obtain ⟨u0, u1, u2, -⟩ := h.thr (t := s_now S) (us_thr hI (by omega) (by omega) (by omega))
    exact ⟨⟨_, _, u0, by decide⟩, u2⟩
  · simp (disch := first | exact hR _ _ | exact x01a | exact x01b | (unfold x_r; omega) | assumption | omega) only [wK_current_7, x_gi_int, x_ga_ref, x_ga_null, List.getElem?_cons_zero, List.getElem?_cons_succ, List.length_cons, List.length_nil, List.set_cons_zero, List.set_cons_succ, Nat.reduceAdd, Nat.reduceLT, xr_lt, xr_eq, xr_toInt, xr_0, xi_add, xi_sub, xi_mul, xr_div, xr_rm, Int.toNat_natCast, bd_t, true_and, and_true, not_false_eq_true, ↓reduceIte, ilt_t, ilt_f, ile_t, x_c1i, x_c1r, x_c1n, and_self, Option.toList_some, Option.toList_none, List.cons_append, List.nil_append, xr_01, xr_00, ieq_f, ieq_t]
    exact hQ
set_option maxHeartbeats 4000000 in
theorem k_slot (h : Rel w A S ln) (hI : Inv S) {u i what : Int} (hu : x_r u) (hi : x_r i) (hw : x_r what) {l4 : Option Value} (hQ : Q (some (.int (xi (s_slot S u i what)))) w) : WP P 70 0 [some (.ref (A 12 0)), some (.int (xi u)), some (.int (xi i)), some (.int (xi what)), l4] [] w Q := by
  obtain ⟨⟨t0, t1, t2, t3, t4⟩, f0, f1, f2, f3⟩ := h.ker
  have hk : x_has w (A 12 0) [0] := ⟨_, _, t0, by decide⟩
  have hR := hI.1.1
  have hA := hI.1.2.1
  have ew : (xi what).toInt = what := xr_toInt hw
  unfold x_r at hu hi hw
  unfold s_slot at hQ
  have nt : ¬ (0 ≤ u ∧ u < 128 ∧ u % 16 = 0) → ¬ s_there S 1 u := by
    intro c g
    have g := (s_there_hd (by omega)).1 g
    exact c ⟨g.1, g.2.1, (hd_al hA (by omega) g.2.2).1⟩
  by_cases c1 : u < 0
  · rw [if_neg (nt (by omega))] at hQ
    simp (disch := first | exact hR _ _ | exact x01a | exact x01b | (unfold x_r; omega) | assumption | omega) only [wK_slot_0, wK_slot_1, wK_slot_28, wK_slot_29, x_gi_int, x_ga_ref, x_ga_null, List.getElem?_cons_zero, List.getElem?_cons_succ, List.length_cons, List.length_nil, List.set_cons_zero, List.set_cons_succ, Nat.reduceAdd, Nat.reduceLT, xr_lt, xr_eq, xr_toInt, xr_0, xi_add, xi_sub, xi_mul, xr_div, xr_rm, Int.toNat_natCast, bd_t, true_and, and_true, not_false_eq_true, ↓reduceIte, ilt_t, ilt_f, ile_t, x_c1i, x_c1r, x_c1n, and_self, Option.toList_some, Option.toList_none, List.cons_append, List.nil_append, xr_01, xr_00, ieq_f, ieq_t]
    exact hQ
  by_cases c2 : ¬ u < 128
  · rw [if_neg (nt (by omega))] at hQ
    simp (disch := first | exact hR _ _ | exact x01a | exact x01b | (unfold x_r; omega) | assumption | omega) only [wK_slot_0, wK_slot_1, wK_slot_4, wK_slot_5, wK_slot_8, wK_slot_28, wK_slot_29, x_gi_int, x_ga_ref, x_ga_null, List.getElem?_cons_zero, List.getElem?_cons_succ, List.length_cons, List.length_nil, List.set_cons_zero, List.set_cons_succ, Nat.reduceAdd, Nat.reduceLT, xr_lt, xr_eq, xr_toInt, xr_0, xi_add, xi_sub, xi_mul, xr_div, xr_rm, Int.toNat_natCast, bd_t, true_and, and_true, not_false_eq_true, ↓reduceIte, ilt_t, ilt_f, ile_t, x_c1i, x_c1r, x_c1n, and_self, Option.toList_some, Option.toList_none, List.cons_append, List.nil_append, xr_01, xr_00, ieq_f, ieq_t]
    exact hQ
  by_cases c3 : ¬ u % 16 = 0
  · rw [if_neg (nt (by omega))] at hQ
    simp (disch := first | exact hR _ _ | exact x01a | exact x01b | (unfold x_r; omega) | assumption | omega) only [wK_slot_0, wK_slot_1, wK_slot_4, wK_slot_5, wK_slot_8, wK_slot_11, wK_slot_12, wK_slot_14, wK_slot_15, wK_slot_28, wK_slot_29, c3, x_gi_int, x_ga_ref, x_ga_null, List.getElem?_cons_zero, List.getElem?_cons_succ, List.length_cons, List.length_nil, List.set_cons_zero, List.set_cons_succ, Nat.reduceAdd, Nat.reduceLT, xr_lt, xr_eq, xr_toInt, xr_0, xi_add, xi_sub, xi_mul, xr_div, xr_rm, Int.toNat_natCast, bd_t, true_and, and_true, not_false_eq_true, ↓reduceIte, ilt_t, ilt_f, ile_t, x_c1i, x_c1r, x_c1n, and_self, Option.toList_some, Option.toList_none, List.cons_append, List.nil_append, xr_01, xr_00, ieq_f, ieq_t]
    exact hQ
  have c3 : u % 16 = 0 := by omega
  by_cases c4 : i < 0
  · have hQ : Q (some (.int (xi (-1)))) w := by
      by_cases d : s_there S 1 u
      · rw [if_pos d, if_pos c4] at hQ; exact hQ
      · rw [if_neg d] at hQ; exact hQ
    simp (disch := first | exact hR _ _ | exact x01a | exact x01b | (unfold x_r; omega) | assumption | omega) only [wK_slot_0, wK_slot_1, wK_slot_4, wK_slot_5, wK_slot_8, wK_slot_11, wK_slot_12, wK_slot_14, wK_slot_15, wK_slot_18, wK_slot_19, wK_slot_28, wK_slot_29, c3, x_gi_int, x_ga_ref, x_ga_null, List.getElem?_cons_zero, List.getElem?_cons_succ, List.length_cons, List.length_nil, List.set_cons_zero, List.set_cons_succ, Nat.reduceAdd, Nat.reduceLT, xr_lt, xr_eq, xr_toInt, xr_0, xi_add, xi_sub, xi_mul, xr_div, xr_rm, Int.toNat_natCast, bd_t, true_and, and_true, not_false_eq_true, ↓reduceIte, ilt_t, ilt_f, ile_t, x_c1i, x_c1r, x_c1n, and_self, Option.toList_some, Option.toList_none, List.cons_append, List.nil_append, xr_01, xr_00, ieq_f, ieq_t]
    exact hQ
  by_cases c5 : 15 < i
  · have hQ : Q (some (.int (xi (-1)))) w := by
      by_cases d : s_there S 1 u
      · rw [if_pos d, if_neg c4, if_pos c5] at hQ; exact hQ
      · rw [if_neg d] at hQ; exact hQ
    simp (disch := first | exact hR _ _ | exact x01a | exact x01b | (unfold x_r; omega) | assumption | omega) only [wK_slot_0, wK_slot_1, wK_slot_4, wK_slot_5, wK_slot_8, wK_slot_11, wK_slot_12, wK_slot_14, wK_slot_15, wK_slot_18, wK_slot_19, wK_slot_22, wK_slot_23, wK_slot_25, wK_slot_28, wK_slot_29, c3, x_gi_int, x_ga_ref, x_ga_null, List.getElem?_cons_zero, List.getElem?_cons_succ, List.length_cons, List.length_nil, List.set_cons_zero, List.set_cons_succ, Nat.reduceAdd, Nat.reduceLT, xr_lt, xr_eq, xr_toInt, xr_0, xi_add, xi_sub, xi_mul, xr_div, xr_rm, Int.toNat_natCast, bd_t, true_and, and_true, not_false_eq_true, ↓reduceIte, ilt_t, ilt_f, ile_t, x_c1i, x_c1r, x_c1n, and_self, Option.toList_some, Option.toList_none, List.cons_append, List.nil_append, xr_01, xr_00, ieq_f, ieq_t]
    exact hQ
  have sl := h.sl (p := (u + i).toNat) (by omega)
  have ec := x_cle (e := u + i) (by omega) (by omega)
  have nn := x_nn (e := u + i) (by omega) (by omega)
  have nc := x_clt (e := u + i) (n := 128) (by omega) (by omega) (by omega)
  rw [show (((u + i).toNat : Nat) : Int) = u + i by omega] at sl
  by_cases c6 : S 0 (u + i).toNat < 0
  · have hQ : Q (some (.int (xi (-1)))) w := by
      by_cases d : s_there S 1 u
      · rw [if_pos d, if_neg c4, if_neg c5, if_pos c6] at hQ; exact hQ
      · rw [if_neg d] at hQ; exact hQ
    rw [pv_n c6] at sl
    simp (disch := first | exact hR _ _ | exact x01a | exact x01b | (unfold x_r; omega) | assumption | omega) only [wK_slot_0, wK_slot_1, wK_slot_4, wK_slot_5, wK_slot_8, wK_slot_11, wK_slot_12, wK_slot_14, wK_slot_15, wK_slot_18, wK_slot_19, wK_slot_22, wK_slot_23, wK_slot_25, wK_slot_30, wK_slot_31, wK_slot_34, wK_slot_35, wK_slot_36, wK_slot_37 t1 (by omega) nn nc, wK_slot_38, wK_slot_38n, wK_slot_40, wK_slot_42n, wK_slot_42, wK_slot_45, wK_slot_46, hk, f0, ec, sl, c3, x_gi_int, x_ga_ref, x_ga_null, List.getElem?_cons_zero, List.getElem?_cons_succ, List.length_cons, List.length_nil, List.set_cons_zero, List.set_cons_succ, Nat.reduceAdd, Nat.reduceLT, xr_lt, xr_eq, xr_toInt, xr_0, xi_add, xi_sub, xi_mul, xr_div, xr_rm, Int.toNat_natCast, bd_t, true_and, and_true, not_false_eq_true, ↓reduceIte, ilt_t, ilt_f, ile_t, x_c1i, x_c1r, x_c1n, and_self, Option.toList_some, Option.toList_none, List.cons_append, List.nil_append, xr_01, xr_00, ieq_f, ieq_t]
    exact hQ
  have d : s_there S 1 u := by
    refine (s_there_hd (by omega)).2 ⟨by omega, by omega, ?_⟩
    have g := hI.1.2.2.2.1 (u + i).toNat (by omega) (by omega) (hI.2 _ (by omega))
    rw [show 16 * ((((u + i).toNat : Nat) : Int) / 16) = u by omega] at g
    exact g
  rw [if_pos d, if_neg c4, if_neg c5, if_neg c6] at hQ
  rw [pv_r c6] at sl
  have p0 : 0 ≤ u + i := by omega
  have p1 : u + i < 128 := by omega
  simp (disch := first | exact hR _ _ | exact x01a | exact x01b | (unfold x_r; omega) | assumption | omega) only [wK_slot_0, wK_slot_1, wK_slot_4, wK_slot_5, wK_slot_8, wK_slot_11, wK_slot_12, wK_slot_14, wK_slot_15, wK_slot_18, wK_slot_19, wK_slot_22, wK_slot_23, wK_slot_25, wK_slot_30, wK_slot_31, wK_slot_34, wK_slot_35, wK_slot_36, wK_slot_37 t1 (by omega) nn nc, wK_slot_38, wK_slot_38n, wK_slot_40, wK_slot_42n, wK_slot_42, wK_slot_47, hk, f0, ec, sl, c3, x_gi_int, x_ga_ref, x_ga_null, List.getElem?_cons_zero, List.getElem?_cons_succ, List.length_cons, List.length_nil, List.set_cons_zero, List.set_cons_succ, Nat.reduceAdd, Nat.reduceLT, xr_lt, xr_eq, xr_toInt, xr_0, xi_add, xi_sub, xi_mul, xr_div, xr_rm, Int.toNat_natCast, bd_t, true_and, and_true, not_false_eq_true, ↓reduceIte, ilt_t, ilt_f, ile_t, x_c1i, x_c1r, x_c1n, and_self, Option.toList_some, Option.toList_none, List.cons_append, List.nil_append, xr_01, xr_00, ieq_f, ieq_t]
  clear ec nn nc sl
  generalize u + i = p at *
  have p2 : 0 ≤ S 0 p.toNat := by omega
  obtain ⟨ct, e0, e1, e2, e3, e4, e5, e6, e7⟩ := h.cap p0 p1 p2
  obtain ⟨n, g0, g1, g2, g3⟩ := h.thg hA p0 p1 p2
  have hc : x_has w (A 8 p) [1] := ⟨_, _, ct, by decide⟩
  have hg : x_has w (thA A S p) [2, 4, 5, 6, 7, 8, 9, 10] := ⟨_, _, g0, g1⟩
  by_cases c7 : what < 0 ∨ 7 < what
  · have hq : Q (some (.int (xi (-1)))) w := by
      rcases c7 with d | d
      · rw [if_pos d] at hQ; exact hQ
      · rw [if_neg (by omega), if_pos d] at hQ; exact hQ
    rw [W_tsd (tgt := 159) rfl (by rw [ew]; exact c7) rfl]
    simp (disch := first | exact hR _ _ | exact x01a | exact x01b | (unfold x_r; omega) | assumption | omega) only [wK_slot_159, wK_slot_160, x_gi_int, x_ga_ref, x_ga_null, List.getElem?_cons_zero, List.getElem?_cons_succ, List.length_cons, List.length_nil, List.set_cons_zero, List.set_cons_succ, Nat.reduceAdd, Nat.reduceLT, xr_lt, xr_eq, xr_toInt, xr_0, xi_add, xi_sub, xi_mul, xr_div, xr_rm, Int.toNat_natCast, bd_t, true_and, and_true, not_false_eq_true, ↓reduceIte, ilt_t, ilt_f, ile_t, x_c1i, x_c1r, x_c1n, and_self, Option.toList_some, Option.toList_none, List.cons_append, List.nil_append, xr_01, xr_00, ieq_f, ieq_t]
    exact hq
  · rcases (by omega : what = 0 ∨ what = 1 ∨ what = 2 ∨ what = 3 ∨ what = 4 ∨ what = 5 ∨ what = 6 ∨ what = 7) with rfl | rfl | rfl | rfl | rfl | rfl | rfl | rfl
    · rw [W_tsw (o := 48) (tgt := 96) rfl (by decide) (by decide) rfl]
      simp (disch := first | exact hR _ _ | exact x01a | exact x01b | (unfold x_r; omega) | assumption | omega) only [wK_slot_96, wK_slot_98, wK_slot_101, wK_slot_104, hc, hg, e0, g2, x_gi_int, x_ga_ref, x_ga_null, List.getElem?_cons_zero, List.getElem?_cons_succ, List.length_cons, List.length_nil, List.set_cons_zero, List.set_cons_succ, Nat.reduceAdd, Nat.reduceLT, xr_lt, xr_eq, xr_toInt, xr_0, xi_add, xi_sub, xi_mul, xr_div, xr_rm, Int.toNat_natCast, bd_t, true_and, and_true, not_false_eq_true, ↓reduceIte, ilt_t, ilt_f, ile_t, x_c1i, x_c1r, x_c1n, and_self, Option.toList_some, Option.toList_none, List.cons_append, List.nil_append, xr_01, xr_00, ieq_f, ieq_t]
      exact hQ
    · rw [W_tsw (o := 57) (tgt := 105) rfl (by decide) (by decide) rfl]
      simp (disch := first | exact hR _ _ | exact x01a | exact x01b | (unfold x_r; omega) | assumption | omega) only [wK_slot_105, wK_slot_107, wK_slot_110, wK_slot_113, hc, hg, e0, g3, x_gi_int, x_ga_ref, x_ga_null, List.getElem?_cons_zero, List.getElem?_cons_succ, List.length_cons, List.length_nil, List.set_cons_zero, List.set_cons_succ, Nat.reduceAdd, Nat.reduceLT, xr_lt, xr_eq, xr_toInt, xr_0, xi_add, xi_sub, xi_mul, xr_div, xr_rm, Int.toNat_natCast, bd_t, true_and, and_true, not_false_eq_true, ↓reduceIte, ilt_t, ilt_f, ile_t, x_c1i, x_c1r, x_c1n, and_self, Option.toList_some, Option.toList_none, List.cons_append, List.nil_append, xr_01, xr_00, ieq_f, ieq_t]
      exact hQ
    · rw [W_tsw (o := 66) (tgt := 114) rfl (by decide) (by decide) rfl]
      simp (disch := first | exact hR _ _ | exact x01a | exact x01b | (unfold x_r; omega) | assumption | omega) only [wK_slot_114, wK_slot_116, wK_slot_119, hc, e1, x_gi_int, x_ga_ref, x_ga_null, List.getElem?_cons_zero, List.getElem?_cons_succ, List.length_cons, List.length_nil, List.set_cons_zero, List.set_cons_succ, Nat.reduceAdd, Nat.reduceLT, xr_lt, xr_eq, xr_toInt, xr_0, xi_add, xi_sub, xi_mul, xr_div, xr_rm, Int.toNat_natCast, bd_t, true_and, and_true, not_false_eq_true, ↓reduceIte, ilt_t, ilt_f, ile_t, x_c1i, x_c1r, x_c1n, and_self, Option.toList_some, Option.toList_none, List.cons_append, List.nil_append, xr_01, xr_00, ieq_f, ieq_t]
      exact hQ
    · rw [W_tsw (o := 72) (tgt := 120) rfl (by decide) (by decide) rfl]
      simp (disch := first | exact hR _ _ | exact x01a | exact x01b | (unfold x_r; omega) | assumption | omega) only [wK_slot_120, wK_slot_122, wK_slot_125, hc, e2, x_gi_int, x_ga_ref, x_ga_null, List.getElem?_cons_zero, List.getElem?_cons_succ, List.length_cons, List.length_nil, List.set_cons_zero, List.set_cons_succ, Nat.reduceAdd, Nat.reduceLT, xr_lt, xr_eq, xr_toInt, xr_0, xi_add, xi_sub, xi_mul, xr_div, xr_rm, Int.toNat_natCast, bd_t, true_and, and_true, not_false_eq_true, ↓reduceIte, ilt_t, ilt_f, ile_t, x_c1i, x_c1r, x_c1n, and_self, Option.toList_some, Option.toList_none, List.cons_append, List.nil_append, xr_01, xr_00, ieq_f, ieq_t]
      exact hQ
    · rw [W_tsw (o := 78) (tgt := 126) rfl (by decide) (by decide) rfl]
      simp (disch := first | exact hR _ _ | exact x01a | exact x01b | (unfold x_r; omega) | assumption | omega) only [wK_slot_126, wK_slot_127, x_gi_int, x_ga_ref, x_ga_null, List.getElem?_cons_zero, List.getElem?_cons_succ, List.length_cons, List.length_nil, List.set_cons_zero, List.set_cons_succ, Nat.reduceAdd, Nat.reduceLT, xr_lt, xr_eq, xr_toInt, xr_0, xi_add, xi_sub, xi_mul, xr_div, xr_rm, Int.toNat_natCast, bd_t, true_and, and_true, not_false_eq_true, ↓reduceIte, ilt_t, ilt_f, ile_t, x_c1i, x_c1r, x_c1n, and_self, Option.toList_some, Option.toList_none, List.cons_append, List.nil_append, xr_01, xr_00, ieq_f, ieq_t]
      refine wK_slot_129 t0 (by simp) rfl rfl (k_children h hI p0 p1 p2 ?_)
      simp (disch := first | exact hR _ _ | exact x01a | exact x01b | (unfold x_r; omega) | assumption | omega) only [wK_slot_132, x_gi_int, x_ga_ref, x_ga_null, List.getElem?_cons_zero, List.getElem?_cons_succ, List.length_cons, List.length_nil, List.set_cons_zero, List.set_cons_succ, Nat.reduceAdd, Nat.reduceLT, xr_lt, xr_eq, xr_toInt, xr_0, xi_add, xi_sub, xi_mul, xr_div, xr_rm, Int.toNat_natCast, bd_t, true_and, and_true, not_false_eq_true, ↓reduceIte, ilt_t, ilt_f, ile_t, x_c1i, x_c1r, x_c1n, and_self, Option.toList_some, Option.toList_none, List.cons_append, List.nil_append, xr_01, xr_00, ieq_f, ieq_t]
      exact hQ
    · rw [W_tsw (o := 85) (tgt := 133) rfl (by decide) (by decide) rfl]
      simp (disch := first | exact hR _ _ | exact x01a | exact x01b | (unfold x_r; omega) | assumption | omega) only [wK_slot_133, wK_slot_135, hc, e3, x_gi_int, x_ga_ref, x_ga_null, List.getElem?_cons_zero, List.getElem?_cons_succ, List.length_cons, List.length_nil, List.set_cons_zero, List.set_cons_succ, Nat.reduceAdd, Nat.reduceLT, xr_lt, xr_eq, xr_toInt, xr_0, xi_add, xi_sub, xi_mul, xr_div, xr_rm, Int.toNat_natCast, bd_t, true_and, and_true, not_false_eq_true, ↓reduceIte, ilt_t, ilt_f, ile_t, x_c1i, x_c1r, x_c1n, and_self, Option.toList_some, Option.toList_none, List.cons_append, List.nil_append, xr_01, xr_00, ieq_f, ieq_t]
      have gp := hI.1.2.2.1.1.par (q := p.toNat) (by omega)
      refine wK_slot_138 (by simp) (by unfold pv; split <;> rfl) rfl (k_whereIs h (by omega) (by omega) (fun c => (par_lv hI.1.2.2.1.1 (by omega) c).2.2) ?_)
      simp (disch := first | exact hR _ _ | exact x01a | exact x01b | (unfold x_r; omega) | assumption | omega) only [wK_slot_141, x_gi_int, x_ga_ref, x_ga_null, List.getElem?_cons_zero, List.getElem?_cons_succ, List.length_cons, List.length_nil, List.set_cons_zero, List.set_cons_succ, Nat.reduceAdd, Nat.reduceLT, xr_lt, xr_eq, xr_toInt, xr_0, xi_add, xi_sub, xi_mul, xr_div, xr_rm, Int.toNat_natCast, bd_t, true_and, and_true, not_false_eq_true, ↓reduceIte, ilt_t, ilt_f, ile_t, x_c1i, x_c1r, x_c1n, and_self, Option.toList_some, Option.toList_none, List.cons_append, List.nil_append, xr_01, xr_00, ieq_f, ieq_t]
      exact hQ
    · rw [W_tsw (o := 94) (tgt := 142) rfl (by decide) (by decide) rfl]
      simp (disch := first | exact hR _ _ | exact x01a | exact x01b | (unfold x_r; omega) | assumption | omega) only [wK_slot_142, wK_slot_143, x_gi_int, x_ga_ref, x_ga_null, List.getElem?_cons_zero, List.getElem?_cons_succ, List.length_cons, List.length_nil, List.set_cons_zero, List.set_cons_succ, Nat.reduceAdd, Nat.reduceLT, xr_lt, xr_eq, xr_toInt, xr_0, xi_add, xi_sub, xi_mul, xr_div, xr_rm, Int.toNat_natCast, bd_t, true_and, and_true, not_false_eq_true, ↓reduceIte, ilt_t, ilt_f, ile_t, x_c1i, x_c1r, x_c1n, and_self, Option.toList_some, Option.toList_none, List.cons_append, List.nil_append, xr_01, xr_00, ieq_f, ieq_t]
      refine wK_slot_145 t0 (by simp) rfl rfl (k_useOf h hI p0 p1 p2 ?_)
      simp (disch := first | exact hR _ _ | exact x01a | exact x01b | (unfold x_r; omega) | assumption | omega) only [wK_slot_148, x_gi_int, x_ga_ref, x_ga_null, List.getElem?_cons_zero, List.getElem?_cons_succ, List.length_cons, List.length_nil, List.set_cons_zero, List.set_cons_succ, Nat.reduceAdd, Nat.reduceLT, xr_lt, xr_eq, xr_toInt, xr_0, xi_add, xi_sub, xi_mul, xr_div, xr_rm, Int.toNat_natCast, bd_t, true_and, and_true, not_false_eq_true, ↓reduceIte, ilt_t, ilt_f, ile_t, x_c1i, x_c1r, x_c1n, and_self, Option.toList_some, Option.toList_none, List.cons_append, List.nil_append, xr_01, xr_00, ieq_f, ieq_t]
      exact hQ
    · rw [W_tsw (o := 101) (tgt := 149) rfl (by decide) (by decide) rfl]
      simp (disch := first | exact hR _ _ | exact x01a | exact x01b | (unfold x_r; omega) | assumption | omega) only [wK_slot_149, wK_slot_150, wK_slot_152, hc, e0, x_gi_int, x_ga_ref, x_ga_null, List.getElem?_cons_zero, List.getElem?_cons_succ, List.length_cons, List.length_nil, List.set_cons_zero, List.set_cons_succ, Nat.reduceAdd, Nat.reduceLT, xr_lt, xr_eq, xr_toInt, xr_0, xi_add, xi_sub, xi_mul, xr_div, xr_rm, Int.toNat_natCast, bd_t, true_and, and_true, not_false_eq_true, ↓reduceIte, ilt_t, ilt_f, ile_t, x_c1i, x_c1r, x_c1n, and_self, Option.toList_some, Option.toList_none, List.cons_append, List.nil_append, xr_01, xr_00, ieq_f, ieq_t]
      refine wK_slot_155 t0 (by simp) rfl rfl (k_holders h hA p0 p1 p2 ?_)
      simp (disch := first | exact hR _ _ | exact x01a | exact x01b | (unfold x_r; omega) | assumption | omega) only [wK_slot_158, x_gi_int, x_ga_ref, x_ga_null, List.getElem?_cons_zero, List.getElem?_cons_succ, List.length_cons, List.length_nil, List.set_cons_zero, List.set_cons_succ, Nat.reduceAdd, Nat.reduceLT, xr_lt, xr_eq, xr_toInt, xr_0, xi_add, xi_sub, xi_mul, xr_div, xr_rm, Int.toNat_natCast, bd_t, true_and, and_true, not_false_eq_true, ↓reduceIte, ilt_t, ilt_f, ile_t, x_c1i, x_c1r, x_c1n, and_self, Option.toList_some, Option.toList_none, List.cons_append, List.nil_append, xr_01, xr_00, ieq_f, ieq_t]
      exact hQ
set_option maxHeartbeats 4000000 in
theorem k_thread (h : Rel w A S ln) (hI : Inv S) {u what : Int} (hu : x_r u) (hw : x_r what) {l3 : Option Value} (hQ : Q (some (.int (xi (s_thread S u what)))) w) : WP P 73 0 [some (.ref (A 12 0)), some (.int (xi u)), some (.int (xi what)), l3] [] w Q := by
  obtain ⟨⟨t0, t1, t2, t3, t4⟩, f0, f1, f2, f3⟩ := h.ker
  have hR := hI.1.1
  have hA := hI.1.2.1
  have ew : (xi what).toInt = what := xr_toInt hw
  simp (disch := first | exact hR _ _ | exact x01a | exact x01b | (unfold x_r; omega) | assumption | omega) only [wK_thread_0, wK_thread_1, x_gi_int, x_ga_ref, x_ga_null, List.getElem?_cons_zero, List.getElem?_cons_succ, List.length_cons, List.length_nil, List.set_cons_zero, List.set_cons_succ, Nat.reduceAdd, Nat.reduceLT, xr_lt, xr_eq, xr_toInt, xr_0, xi_add, xi_sub, xi_mul, xr_div, xr_rm, Int.toNat_natCast, bd_t, true_and, and_true, not_false_eq_true, ↓reduceIte, ilt_t, ilt_f, ile_t, x_c1i, x_c1r, x_c1n, and_self, Option.toList_some, Option.toList_none, List.cons_append, List.nil_append, xr_01, xr_00, ieq_f, ieq_t]
  refine wK_thread_2 t0 (by simp) rfl rfl (k_threadOfUnit h hI hu ?_)
  unfold x_r at hu hw
  unfold s_thread at hQ
  by_cases c : s_there S 2 u
  · rw [if_pos c] at hQ
    have ht := (s_there_hd (by omega)).1 c
    have al := (hd_al hA (by omega) ht.2.2).1
    have al : u % 8 = 0 := al
    have et : s_tou S u = u / 8 := if_pos c
    rw [et, pv_r (by omega)]
    have e8 : 8 * (u / 8) = u := by omega
    have hus : us S 2 (8 * (u / 8)) := by rw [e8]; exact us_thi (by omega) (by omega) ht.2.2
    obtain ⟨u0, u1, u2, u3, u4, u5, u6, u7, u8, u9, u10, -⟩ := h.thr hus
    have hh : x_has w (A 2 (8 * (u / 8))) [2] := ⟨_, _, u0, by decide⟩
    have hg := (hI.1.2.2.2.2.2.1 (u / 8).toNat (by omega)).2.1
    rw [show 8 * (((u / 8).toNat : Nat) : Int) = u by omega] at hg
    have tb := hI.1.2.2.2.2.2.2.1 (u / 8).toNat (by omega) (hg.2 ht.2.2)
    simp (disch := first | exact hR _ _ | exact x01a | exact x01b | (unfold x_r; omega) | assumption | omega) only [wK_thread_5, wK_thread_5n, wK_thread_6, wK_thread_7n, wK_thread_7, wK_thread_12, x_gi_int, x_ga_ref, x_ga_null, List.getElem?_cons_zero, List.getElem?_cons_succ, List.length_cons, List.length_nil, List.set_cons_zero, List.set_cons_succ, Nat.reduceAdd, Nat.reduceLT, xr_lt, xr_eq, xr_toInt, xr_0, xi_add, xi_sub, xi_mul, xr_div, xr_rm, Int.toNat_natCast, bd_t, true_and, and_true, not_false_eq_true, ↓reduceIte, ilt_t, ilt_f, ile_t, x_c1i, x_c1r, x_c1n, and_self, Option.toList_some, Option.toList_none, List.cons_append, List.nil_append, xr_01, xr_00, ieq_f, ieq_t]
    by_cases c7 : what < 0 ∨ 7 < what
    · have hq : Q (some (.int (xi (-1)))) w := by
        rcases c7 with d | d
        · rw [if_pos d] at hQ; exact hQ
        · rw [if_neg (by omega), if_pos d] at hQ; exact hQ
      rw [W_tsd (tgt := 106) rfl (by rw [ew]; exact c7) rfl]
      simp (disch := first | exact hR _ _ | exact x01a | exact x01b | (unfold x_r; omega) | assumption | omega) only [wK_thread_106, wK_thread_107, x_gi_int, x_ga_ref, x_ga_null, List.getElem?_cons_zero, List.getElem?_cons_succ, List.length_cons, List.length_nil, List.set_cons_zero, List.set_cons_succ, Nat.reduceAdd, Nat.reduceLT, xr_lt, xr_eq, xr_toInt, xr_0, xi_add, xi_sub, xi_mul, xr_div, xr_rm, Int.toNat_natCast, bd_t, true_and, and_true, not_false_eq_true, ↓reduceIte, ilt_t, ilt_f, ile_t, x_c1i, x_c1r, x_c1n, and_self, Option.toList_some, Option.toList_none, List.cons_append, List.nil_append, xr_01, xr_00, ieq_f, ieq_t]
      exact hq
    · rcases (by omega : what = 0 ∨ what = 1 ∨ what = 2 ∨ what = 3 ∨ what = 4 ∨ what = 5 ∨ what = 6 ∨ what = 7) with rfl | rfl | rfl | rfl | rfl | rfl | rfl | rfl
      · rw [W_tsw (o := 47) (tgt := 60) rfl (by decide) (by decide) rfl]
        simp (disch := first | exact hR _ _ | exact x01a | exact x01b | (unfold x_r; omega) | assumption | omega) only [wK_thread_60, wK_thread_61, wK_thread_64, hh, u6, x_gi_int, x_ga_ref, x_ga_null, List.getElem?_cons_zero, List.getElem?_cons_succ, List.length_cons, List.length_nil, List.set_cons_zero, List.set_cons_succ, Nat.reduceAdd, Nat.reduceLT, xr_lt, xr_eq, xr_toInt, xr_0, xi_add, xi_sub, xi_mul, xr_div, xr_rm, Int.toNat_natCast, bd_t, true_and, and_true, not_false_eq_true, ↓reduceIte, ilt_t, ilt_f, ile_t, x_c1i, x_c1r, x_c1n, and_self, Option.toList_some, Option.toList_none, List.cons_append, List.nil_append, xr_01, xr_00, ieq_f, ieq_t]
        exact hQ
      · rw [W_tsw (o := 52) (tgt := 65) rfl (by decide) (by decide) rfl]
        simp (disch := first | exact hR _ _ | exact x01a | exact x01b | (unfold x_r; omega) | assumption | omega) only [wK_thread_65, wK_thread_66, wK_thread_69, hh, u5, x_gi_int, x_ga_ref, x_ga_null, List.getElem?_cons_zero, List.getElem?_cons_succ, List.length_cons, List.length_nil, List.set_cons_zero, List.set_cons_succ, Nat.reduceAdd, Nat.reduceLT, xr_lt, xr_eq, xr_toInt, xr_0, xi_add, xi_sub, xi_mul, xr_div, xr_rm, Int.toNat_natCast, bd_t, true_and, and_true, not_false_eq_true, ↓reduceIte, ilt_t, ilt_f, ile_t, x_c1i, x_c1r, x_c1n, and_self, Option.toList_some, Option.toList_none, List.cons_append, List.nil_append, xr_01, xr_00, ieq_f, ieq_t]
        exact hQ
      · rw [W_tsw (o := 57) (tgt := 70) rfl (by decide) (by decide) rfl]
        simp (disch := first | exact hR _ _ | exact x01a | exact x01b | (unfold x_r; omega) | assumption | omega) only [wK_thread_70, wK_thread_71, wK_thread_74, hh, u8, x_gi_int, x_ga_ref, x_ga_null, List.getElem?_cons_zero, List.getElem?_cons_succ, List.length_cons, List.length_nil, List.set_cons_zero, List.set_cons_succ, Nat.reduceAdd, Nat.reduceLT, xr_lt, xr_eq, xr_toInt, xr_0, xi_add, xi_sub, xi_mul, xr_div, xr_rm, Int.toNat_natCast, bd_t, true_and, and_true, not_false_eq_true, ↓reduceIte, ilt_t, ilt_f, ile_t, x_c1i, x_c1r, x_c1n, and_self, Option.toList_some, Option.toList_none, List.cons_append, List.nil_append, xr_01, xr_00, ieq_f, ieq_t]
        exact hQ
      · rw [W_tsw (o := 62) (tgt := 75) rfl (by decide) (by decide) rfl]
        simp (disch := first | exact hR _ _ | exact x01a | exact x01b | (unfold x_r; omega) | assumption | omega) only [wK_thread_75, wK_thread_76, wK_thread_79, hh, u9, x_gi_int, x_ga_ref, x_ga_null, List.getElem?_cons_zero, List.getElem?_cons_succ, List.length_cons, List.length_nil, List.set_cons_zero, List.set_cons_succ, Nat.reduceAdd, Nat.reduceLT, xr_lt, xr_eq, xr_toInt, xr_0, xi_add, xi_sub, xi_mul, xr_div, xr_rm, Int.toNat_natCast, bd_t, true_and, and_true, not_false_eq_true, ↓reduceIte, ilt_t, ilt_f, ile_t, x_c1i, x_c1r, x_c1n, and_self, Option.toList_some, Option.toList_none, List.cons_append, List.nil_append, xr_01, xr_00, ieq_f, ieq_t]
        exact hQ
      · rw [W_tsw (o := 67) (tgt := 80) rfl (by decide) (by decide) rfl]
        simp (disch := first | exact hR _ _ | exact x01a | exact x01b | (unfold x_r; omega) | assumption | omega) only [wK_thread_80, wK_thread_81, wK_thread_84, hh, u10, x_gi_int, x_ga_ref, x_ga_null, List.getElem?_cons_zero, List.getElem?_cons_succ, List.length_cons, List.length_nil, List.set_cons_zero, List.set_cons_succ, Nat.reduceAdd, Nat.reduceLT, xr_lt, xr_eq, xr_toInt, xr_0, xi_add, xi_sub, xi_mul, xr_div, xr_rm, Int.toNat_natCast, bd_t, true_and, and_true, not_false_eq_true, ↓reduceIte, ilt_t, ilt_f, ile_t, x_c1i, x_c1r, x_c1n, and_self, Option.toList_some, Option.toList_none, List.cons_append, List.nil_append, xr_01, xr_00, ieq_f, ieq_t]
        exact hQ
      · rw [W_tsw (o := 72) (tgt := 85) rfl (by decide) (by decide) rfl]
        simp (disch := first | exact hR _ _ | exact x01a | exact x01b | (unfold x_r; omega) | assumption | omega) only [wK_thread_85, wK_thread_86, wK_thread_89, hh, u7, x_gi_int, x_ga_ref, x_ga_null, List.getElem?_cons_zero, List.getElem?_cons_succ, List.length_cons, List.length_nil, List.set_cons_zero, List.set_cons_succ, Nat.reduceAdd, Nat.reduceLT, xr_lt, xr_eq, xr_toInt, xr_0, xi_add, xi_sub, xi_mul, xr_div, xr_rm, Int.toNat_natCast, bd_t, true_and, and_true, not_false_eq_true, ↓reduceIte, ilt_t, ilt_f, ile_t, x_c1i, x_c1r, x_c1n, and_self, Option.toList_some, Option.toList_none, List.cons_append, List.nil_append, xr_01, xr_00, ieq_f, ieq_t]
        exact hQ
      · rw [W_tsw (o := 77) (tgt := 90) rfl (by decide) (by decide) rfl]
        simp (disch := first | exact hR _ _ | exact x01a | exact x01b | (unfold x_r; omega) | assumption | omega) only [wK_thread_90, wK_thread_91, hh, u3, x_gi_int, x_ga_ref, x_ga_null, List.getElem?_cons_zero, List.getElem?_cons_succ, List.length_cons, List.length_nil, List.set_cons_zero, List.set_cons_succ, Nat.reduceAdd, Nat.reduceLT, xr_lt, xr_eq, xr_toInt, xr_0, xi_add, xi_sub, xi_mul, xr_div, xr_rm, Int.toNat_natCast, bd_t, true_and, and_true, not_false_eq_true, ↓reduceIte, ilt_t, ilt_f, ile_t, x_c1i, x_c1r, x_c1n, and_self, Option.toList_some, Option.toList_none, List.cons_append, List.nil_append, xr_01, xr_00, ieq_f, ieq_t]
        have g2 : S 11 (u / 8).toNat = -1 ∨ hd S 1 (S 11 (u / 8).toNat) := tb.2.1
        refine wK_thread_94 (by simp) (by unfold pv; split <;> rfl) rfl (k_unitOf (u := S 11 (u / 8).toNat) (fun c => ?_) ?_)
        · have g3 := g2.resolve_left (fun x => by omega)
          have g4 := h.thi (k := 1) (by omega) (by omega) (us_thi (by omega) (by omega) g3)
          exact ⟨⟨_, _, g4.1, by first | exact List.mem_cons_of_mem _ (List.mem_cons_of_mem _ (List.mem_cons_self)) | (show (8 : Nat) ∈ _; decide)⟩, g4.2.2⟩
        · have g5 : (if S 11 (u / 8).toNat < 0 then -1 else S 11 (u / 8).toNat) = S 11 (u / 8).toNat := by
            split
            · rcases g2 with x | x
              · exact x.symm
              · have := hA.hd x; omega
            · rfl
          rw [g5]
          simp (disch := first | exact hR _ _ | exact x01a | exact x01b | (unfold x_r; omega) | assumption | omega) only [wK_thread_97, x_gi_int, x_ga_ref, x_ga_null, List.getElem?_cons_zero, List.getElem?_cons_succ, List.length_cons, List.length_nil, List.set_cons_zero, List.set_cons_succ, Nat.reduceAdd, Nat.reduceLT, xr_lt, xr_eq, xr_toInt, xr_0, xi_add, xi_sub, xi_mul, xr_div, xr_rm, Int.toNat_natCast, bd_t, true_and, and_true, not_false_eq_true, ↓reduceIte, ilt_t, ilt_f, ile_t, x_c1i, x_c1r, x_c1n, and_self, Option.toList_some, Option.toList_none, List.cons_append, List.nil_append, xr_01, xr_00, ieq_f, ieq_t]
          exact hQ
      · rw [W_tsw (o := 85) (tgt := 98) rfl (by decide) (by decide) rfl]
        simp (disch := first | exact hR _ _ | exact x01a | exact x01b | (unfold x_r; omega) | assumption | omega) only [wK_thread_98, wK_thread_99, hh, u4, x_gi_int, x_ga_ref, x_ga_null, List.getElem?_cons_zero, List.getElem?_cons_succ, List.length_cons, List.length_nil, List.set_cons_zero, List.set_cons_succ, Nat.reduceAdd, Nat.reduceLT, xr_lt, xr_eq, xr_toInt, xr_0, xi_add, xi_sub, xi_mul, xr_div, xr_rm, Int.toNat_natCast, bd_t, true_and, and_true, not_false_eq_true, ↓reduceIte, ilt_t, ilt_f, ile_t, x_c1i, x_c1r, x_c1n, and_self, Option.toList_some, Option.toList_none, List.cons_append, List.nil_append, xr_01, xr_00, ieq_f, ieq_t]
        have g2 : S 12 (u / 8).toNat = -1 ∨ hd S 5 (S 12 (u / 8).toNat) := tb.2.2.1
        refine wK_thread_102 (by simp) (by unfold pv; split <;> rfl) rfl (k_unitOf (u := S 12 (u / 8).toNat) (fun c => ?_) ?_)
        · have g3 := g2.resolve_left (fun x => by omega)
          have g4 := h.thi (k := 5) (by omega) (by omega) (us_thi (by omega) (by omega) g3)
          exact ⟨⟨_, _, g4.1, by first | exact List.mem_cons_of_mem _ (List.mem_cons_of_mem _ (List.mem_cons_self)) | (show (8 : Nat) ∈ _; decide)⟩, g4.2.2⟩
        · have g5 : (if S 12 (u / 8).toNat < 0 then -1 else S 12 (u / 8).toNat) = S 12 (u / 8).toNat := by
            split
            · rcases g2 with x | x
              · exact x.symm
              · have := hA.hd x; omega
            · rfl
          rw [g5]
          simp (disch := first | exact hR _ _ | exact x01a | exact x01b | (unfold x_r; omega) | assumption | omega) only [wK_thread_105, x_gi_int, x_ga_ref, x_ga_null, List.getElem?_cons_zero, List.getElem?_cons_succ, List.length_cons, List.length_nil, List.set_cons_zero, List.set_cons_succ, Nat.reduceAdd, Nat.reduceLT, xr_lt, xr_eq, xr_toInt, xr_0, xi_add, xi_sub, xi_mul, xr_div, xr_rm, Int.toNat_natCast, bd_t, true_and, and_true, not_false_eq_true, ↓reduceIte, ilt_t, ilt_f, ile_t, x_c1i, x_c1r, x_c1n, and_self, Option.toList_some, Option.toList_none, List.cons_append, List.nil_append, xr_01, xr_00, ieq_f, ieq_t]
          exact hQ
  · rw [if_neg c] at hQ
    have et : s_tou S u = -1 := if_neg c
    rw [et, pv_n (by omega)]
    simp (disch := first | exact hR _ _ | exact x01a | exact x01b | (unfold x_r; omega) | assumption | omega) only [wK_thread_5, wK_thread_5n, wK_thread_6, wK_thread_7n, wK_thread_7, wK_thread_10, wK_thread_11, x_gi_int, x_ga_ref, x_ga_null, List.getElem?_cons_zero, List.getElem?_cons_succ, List.length_cons, List.length_nil, List.set_cons_zero, List.set_cons_succ, Nat.reduceAdd, Nat.reduceLT, xr_lt, xr_eq, xr_toInt, xr_0, xi_add, xi_sub, xi_mul, xr_div, xr_rm, Int.toNat_natCast, bd_t, true_and, and_true, not_false_eq_true, ↓reduceIte, ilt_t, ilt_f, ile_t, x_c1i, x_c1r, x_c1n, and_self, Option.toList_some, Option.toList_none, List.cons_append, List.nil_append, xr_01, xr_00, ieq_f, ieq_t]
    exact hQ
def s_mp (S : xS) (t : Nat) (a : Int) : Int := if s_hv S t a < 0 then -1 else if S 0 (s_hv S t a).toNat < 6 then -1 else s_hv S t a
set_option maxHeartbeats 4000000 in
theorem k_mappableAt (h : Rel w A S ln) (hI : Inv S) {t a : Int} (h0 : 0 ≤ t) (h1 : t < 16) (hl : S 10 t.toNat ≠ 0) (ha : x_r a) {l3 : Option Value} (hQ : Q (some (pv (s_mp S t.toNat a) (A 8 (s_mp S t.toNat a)))) w) : WP P 59 0 [some (.ref (A 12 0)), some (.ref (A 2 (8 * t))), some (.int (xi a)), l3] [] w Q := by
  obtain ⟨⟨t0, t1, t2, t3, t4⟩, -⟩ := h.ker
  have hb := s_hv_is hI (t := t.toNat) (by omega) a
  have hR := hI.1.1
  have hA := hI.1.2.1
  simp (disch := first | exact hR _ _ | exact x01a | exact x01b | (unfold x_r; omega) | assumption | omega) only [wK_mappableAt_0, wK_mappableAt_1, wK_mappableAt_2, x_gi_int, x_ga_ref, x_ga_null, List.getElem?_cons_zero, List.getElem?_cons_succ, List.length_cons, List.length_nil, List.set_cons_zero, List.set_cons_succ, Nat.reduceAdd, Nat.reduceLT, xr_lt, xr_eq, xr_toInt, xr_0, xi_add, xi_sub, xi_mul, xr_div, xr_rm, Int.toNat_natCast, bd_t, true_and, and_true, not_false_eq_true, ↓reduceIte, ilt_t, ilt_f, ile_t, x_c1i, x_c1r, x_c1n, and_self, Option.toList_some, Option.toList_none, List.cons_append, List.nil_append, xr_01, xr_00, ieq_f, ieq_t]
  refine wK_mappableAt_3 t0 (by simp) rfl rfl (k_capabilityAt h hI h0 h1 hl ha ?_)
  unfold s_mp at hQ
  generalize s_hv S t.toNat a = p at *
  by_cases c1 : p < 0
  · rw [if_pos c1, pv_n (by omega)] at hQ
    rw [pv_n c1]
    simp (disch := first | exact hR _ _ | exact x01a | exact x01b | (unfold x_r; omega) | assumption | omega) only [wK_mappableAt_6, wK_mappableAt_6n, wK_mappableAt_7, wK_mappableAt_8n, wK_mappableAt_8, wK_mappableAt_35, wK_mappableAt_36n, wK_mappableAt_36, x_gi_int, x_ga_ref, x_ga_null, List.getElem?_cons_zero, List.getElem?_cons_succ, List.length_cons, List.length_nil, List.set_cons_zero, List.set_cons_succ, Nat.reduceAdd, Nat.reduceLT, xr_lt, xr_eq, xr_toInt, xr_0, xi_add, xi_sub, xi_mul, xr_div, xr_rm, Int.toNat_natCast, bd_t, true_and, and_true, not_false_eq_true, ↓reduceIte, ilt_t, ilt_f, ile_t, x_c1i, x_c1r, x_c1n, and_self, Option.toList_some, Option.toList_none, List.cons_append, List.nil_append, xr_01, xr_00, ieq_f, ieq_t]
    exact hQ
  rw [if_neg c1] at hQ
  rw [pv_r c1]
  obtain ⟨ct, cf0, -⟩ := h.cap (p := p) (by omega) (by omega) (hb.2.2 c1)
  obtain ⟨n, g0, g1, g2, g3⟩ := h.thg hA (p := p) (by omega) (by omega) (hb.2.2 c1)
  have hc : x_has w (A 8 p) [1] := ⟨_, _, ct, by decide⟩
  have hg : x_has w (thA A S p) [2, 4, 5, 6, 7, 8, 9, 10] := ⟨_, _, g0, g1⟩
  have k7 := (hA p.toNat (by omega)).1
  by_cases c2 : S 0 p.toNat < 6
  · rw [if_pos c2, pv_n (by omega)] at hQ
    have n6 : ¬ S 0 p.toNat = 6 := by omega
    have n7 : ¬ S 0 p.toNat = 7 := by omega
    simp (disch := first | exact hR _ _ | exact x01a | exact x01b | (unfold x_r; omega) | assumption | omega) only [wK_mappableAt_6, wK_mappableAt_6n, wK_mappableAt_7, wK_mappableAt_8n, wK_mappableAt_8, wK_mappableAt_11, wK_mappableAt_12, wK_mappableAt_15, wK_mappableAt_18, wK_mappableAt_20, wK_mappableAt_23, wK_mappableAt_24, wK_mappableAt_27, wK_mappableAt_30, wK_mappableAt_32, wK_mappableAt_35, wK_mappableAt_36n, wK_mappableAt_36, hc, hg, cf0, g2, n6, n7, x_gi_int, x_ga_ref, x_ga_null, List.getElem?_cons_zero, List.getElem?_cons_succ, List.length_cons, List.length_nil, List.set_cons_zero, List.set_cons_succ, Nat.reduceAdd, Nat.reduceLT, xr_lt, xr_eq, xr_toInt, xr_0, xi_add, xi_sub, xi_mul, xr_div, xr_rm, Int.toNat_natCast, bd_t, true_and, and_true, not_false_eq_true, ↓reduceIte, ilt_t, ilt_f, ile_t, x_c1i, x_c1r, x_c1n, and_self, Option.toList_some, Option.toList_none, List.cons_append, List.nil_append, xr_01, xr_00, ieq_f, ieq_t]
    exact hQ
  · rw [if_neg c2, pv_r c1] at hQ
    by_cases c6 : S 0 p.toNat = 6
    · simp (disch := first | exact hR _ _ | exact x01a | exact x01b | (unfold x_r; omega) | assumption | omega) only [wK_mappableAt_6, wK_mappableAt_6n, wK_mappableAt_7, wK_mappableAt_8n, wK_mappableAt_8, wK_mappableAt_11, wK_mappableAt_12, wK_mappableAt_15, wK_mappableAt_18, wK_mappableAt_20, wK_mappableAt_37, wK_mappableAt_38n, wK_mappableAt_38, hc, hg, cf0, g2, c6, x_gi_int, x_ga_ref, x_ga_null, List.getElem?_cons_zero, List.getElem?_cons_succ, List.length_cons, List.length_nil, List.set_cons_zero, List.set_cons_succ, Nat.reduceAdd, Nat.reduceLT, xr_lt, xr_eq, xr_toInt, xr_0, xi_add, xi_sub, xi_mul, xr_div, xr_rm, Int.toNat_natCast, bd_t, true_and, and_true, not_false_eq_true, ↓reduceIte, ilt_t, ilt_f, ile_t, x_c1i, x_c1r, x_c1n, and_self, Option.toList_some, Option.toList_none, List.cons_append, List.nil_append, xr_01, xr_00, ieq_f, ieq_t]
      exact hQ
    · have c7 : S 0 p.toNat = 7 := by omega
      have n6 : ¬ (7 : Int) = 6 := by omega
      simp (disch := first | exact hR _ _ | exact x01a | exact x01b | (unfold x_r; omega) | assumption | omega) only [wK_mappableAt_6, wK_mappableAt_6n, wK_mappableAt_7, wK_mappableAt_8n, wK_mappableAt_8, wK_mappableAt_11, wK_mappableAt_12, wK_mappableAt_15, wK_mappableAt_18, wK_mappableAt_20, wK_mappableAt_23, wK_mappableAt_24, wK_mappableAt_27, wK_mappableAt_30, wK_mappableAt_32, wK_mappableAt_37, wK_mappableAt_38n, wK_mappableAt_38, hc, hg, cf0, g2, c7, n6, x_gi_int, x_ga_ref, x_ga_null, List.getElem?_cons_zero, List.getElem?_cons_succ, List.length_cons, List.length_nil, List.set_cons_zero, List.set_cons_succ, Nat.reduceAdd, Nat.reduceLT, xr_lt, xr_eq, xr_toInt, xr_0, xi_add, xi_sub, xi_mul, xr_div, xr_rm, Int.toNat_natCast, bd_t, true_and, and_true, not_false_eq_true, ↓reduceIte, ilt_t, ilt_f, ile_t, x_c1i, x_c1r, x_c1n, and_self, Option.toList_some, Option.toList_none, List.cons_append, List.nil_append, xr_01, xr_00, ieq_f, ieq_t]
      exact hQ
end KH
