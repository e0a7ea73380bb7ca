section KY
variable {P : xP} {w : xH} {Q : Option Value → xH → Prop} {A : xA} {S : xS} {ln : Nat → Int}
set_option maxHeartbeats 16000000 in
theorem k_receive (h : Rel w A S (lid S)) (hI : Inv S) (hC : S 28 0 < 2000000000) {g d bl : Int} (hg' : x_r g) (hdr : x_r d) (hbl : bl = 0 ∨ bl = 1) {l4 l5 l6 l7 : Option Value} (hQ : ∀ w' A', A' 12 0 = A 12 0 → Rel w' A' (s_receive S g d bl).2 (lid (s_receive S g d bl).2) → Fr w w' 4 → Q (some (.int (xi (s_receive S g d bl).1))) w') : WP P 53 0 [some (.ref (A 12 0)), some (.int (xi g)), some (.int (xi d)), some (.int (xi bl)), l4, l5, l6, l7] [] w Q := by
  have fr0 : Fr w w 4 := (Fr.refl w).le (by omega)
  have hg := hg'
  unfold s_receive at hQ
  obtain ⟨⟨t0, t1, t2, t3, t4⟩, f0, f1, f2, f3⟩ := h.ker
  have hR := hI.1.1
  have hA := hI.1.2.1
  have hn := s_now_in S
  simp (disch := first | exact hR _ _ | exact x01a | exact x01b | (unfold x_r; omega) | assumption | omega) only [wK_receive_0, x_gi_int, x_ga_ref, x_ga_null, List.getElem?_cons_zero, List.getElem?_cons_succ, List.length_cons, List.length_nil, List.set_cons_zero, List.set_cons_succ, Nat.reduceAdd, Nat.reduceLT, xr_lt, xr_eq, xr_toInt, xr_0, xi_add, xi_sub, xi_mul, xr_div, xr_rm, Int.toNat_natCast, bd_t, true_and, and_true, not_false_eq_true, ↓reduceIte, ilt_t, ilt_f, ile_t, x_c1i, x_c1r, x_c1n, and_self, Option.toList_some, Option.toList_none, List.cons_append, List.nil_append, xr_01, xr_00, ieq_f, ieq_t]
  refine wK_receive_1 t0 (by simp) rfl rfl (k_currentThread h hI ?_)
  by_cases c1 : s_now S < 0
  · rw [if_pos c1] at hQ
    rw [pv_n c1]
    simp (disch := first | exact hR _ _ | exact x01a | exact x01b | (unfold x_r; omega) | assumption | omega) only [wK_receive_4, wK_receive_4n, wK_receive_6, wK_receive_8n, wK_receive_8, wK_receive_11, wK_receive_13, x_gi_int, x_ga_ref, x_ga_null, List.getElem?_cons_zero, List.getElem?_cons_succ, List.length_cons, List.length_nil, List.set_cons_zero, List.set_cons_succ, Nat.reduceAdd, Nat.reduceLT, xr_lt, xr_eq, xr_toInt, xr_0, xi_add, xi_sub, xi_mul, xr_div, xr_rm, Int.toNat_natCast, bd_t, true_and, and_true, not_false_eq_true, ↓reduceIte, ilt_t, ilt_f, ile_t, x_c1i, x_c1r, x_c1n, and_self, Option.toList_some, Option.toList_none, List.cons_append, List.nil_append, xr_01, xr_00, ieq_f, ieq_t]
    exact hQ w A rfl h fr0
  rw [if_neg c1] at hQ
  rw [pv_r c1]
  obtain ⟨n1, n2⟩ := now_is c1
  simp (disch := first | exact hR _ _ | exact x01a | exact x01b | (unfold x_r; omega) | assumption | omega) only [wK_receive_4, wK_receive_4n, wK_receive_6, wK_receive_8n, wK_receive_8, wK_receive_14, wK_receive_15, wK_receive_17, x_gi_int, x_ga_ref, x_ga_null, List.getElem?_cons_zero, List.getElem?_cons_succ, List.length_cons, List.length_nil, List.set_cons_zero, List.set_cons_succ, Nat.reduceAdd, Nat.reduceLT, xr_lt, xr_eq, xr_toInt, xr_0, xi_add, xi_sub, xi_mul, xr_div, xr_rm, Int.toNat_natCast, bd_t, true_and, and_true, not_false_eq_true, ↓reduceIte, ilt_t, ilt_f, ile_t, x_c1i, x_c1r, x_c1n, and_self, Option.toList_some, Option.toList_none, List.cons_append, List.nil_append, xr_01, xr_00, ieq_f, ieq_t]
  refine wK_receive_18 t0 (by simp) rfl rfl (k_capabilityAt h hI (by omega) (by omega) (by omega) hg ?_)
  have hb := s_hv_is hI (t := (s_now S).toNat) n1 g
  have ehk : s_having S g 3 = s_hk S (s_now S).toNat g 3 := having_hk (by omega)
  unfold s_hk at ehk
  by_cases d1 : s_hv S (s_now S).toNat g < 0
  · rw [if_pos d1] at ehk
    rw [if_pos (by omega)] at hQ
    rw [pv_n d1]
    simp (disch := first | exact hR _ _ | exact x01a | exact x01b | (unfold x_r; omega) | assumption | omega) only [wK_receive_21, wK_receive_21n, wK_receive_23, wK_receive_25n, wK_receive_25, wK_receive_53, wK_receive_54, x_gi_int, x_ga_ref, x_ga_null, List.getElem?_cons_zero, List.getElem?_cons_succ, List.length_cons, List.length_nil, List.set_cons_zero, List.set_cons_succ, Nat.reduceAdd, Nat.reduceLT, xr_lt, xr_eq, xr_toInt, xr_0, xi_add, xi_sub, xi_mul, xr_div, xr_rm, Int.toNat_natCast, bd_t, true_and, and_true, not_false_eq_true, ↓reduceIte, ilt_t, ilt_f, ile_t, x_c1i, x_c1r, x_c1n, and_self, Option.toList_some, Option.toList_none, List.cons_append, List.nil_append, xr_01, xr_00, ieq_f, ieq_t]
    exact hQ w A rfl h fr0
  rw [if_neg d1] at ehk
  rw [pv_r d1]
  obtain ⟨ct, e0, e1, e2, -⟩ := h.cap (p := s_hv S (s_now S).toNat g) (by omega) (by omega) (hb.2.2 d1)
  obtain ⟨n, g0, g1, g2, g3⟩ := h.thg hA (p := s_hv S (s_now S).toNat g) (by omega) (by omega) (hb.2.2 d1)
  have hc : x_has w (A 8 (s_hv S (s_now S).toNat g)) [1] := ⟨_, _, ct, by decide⟩
  have k7 := (hA (s_hv S (s_now S).toNat g).toNat (by omega)).1
  have ti := (tgK_is (hb.2.2 d1) k7.2.1).2.2.2.2.2.1
  by_cases d2 : ¬ S 0 (s_hv S (s_now S).toNat g).toNat = 3
  · rw [if_neg d2] at ehk
    rw [if_pos (by omega)] at hQ
    have tt : ¬ (tgK (S 0 (s_hv S (s_now S).toNat g).toNat) 0).1 = 6 := fun x => d2 (ti.1 x)
    simp (disch := first | exact hR _ _ | exact x01a | exact x01b | (unfold x_r; omega) | assumption | omega) only [wK_receive_21, wK_receive_21n, wK_receive_23, wK_receive_25n, wK_receive_25, wK_receive_28, wK_receive_30, wK_receive_33, wK_receive_33n, wK_receive_35, wK_receive_37 g0 g1, wK_receive_40, wK_receive_53, wK_receive_54, hc, e0, tt, x_gi_int, x_ga_ref, x_ga_null, List.getElem?_cons_zero, List.getElem?_cons_succ, List.length_cons, List.length_nil, List.set_cons_zero, List.set_cons_succ, Nat.reduceAdd, Nat.reduceLT, xr_lt, xr_eq, xr_toInt, xr_0, xi_add, xi_sub, xi_mul, xr_div, xr_rm, Int.toNat_natCast, bd_t, true_and, and_true, not_false_eq_true, ↓reduceIte, ilt_t, ilt_f, ile_t, x_c1i, x_c1r, x_c1n, and_self, Option.toList_some, Option.toList_none, List.cons_append, List.nil_append, xr_01, xr_00, ieq_f, ieq_t]
    exact hQ w A rfl h fr0
  have d2 := Decidable.not_not.1 d2
  rw [if_pos d2] at ehk
  rw [if_neg (by omega)] at hQ
  rw [← ehk] at d1 d2 ct e0 e1 e2 g0 g1 g2 g3 hc hb k7 ti ⊢
  have tt := ti.2 d2
  rw [tt] at g0 g1
  rw [thA_k d2 (by omega)] at e0 g0
  have hr := ((hA (s_having S g 3).toNat (by omega)).2 (by omega)).2.2.1
  have xa := xr_and (a := S 2 (s_having S g 3).toNat) (b := 1) hr.1 (by omega)
  have an := s_and_7 (b := 1) ⟨hr.1, hr.2.1⟩
  have hgd : hd S 3 (S 1 (s_having S g 3).toNat) := ⟨_, by omega, d2, rfl⟩
  generalize s_having S g 3 = p at *
  by_cases c3 : s_and (S 2 p.toNat) 1 = 0
  · rw [if_pos c3] at hQ
    simp (disch := first | exact hR _ _ | exact x01a | exact x01b | (unfold x_r; omega) | assumption | omega) only [wK_receive_21, wK_receive_21n, wK_receive_23, wK_receive_25n, wK_receive_25, wK_receive_28, wK_receive_30, wK_receive_33, wK_receive_33n, wK_receive_35, wK_receive_37 g0 g1, wK_receive_40, wK_receive_43, wK_receive_45 g0, wK_receive_48, wK_receive_48n, wK_receive_50, wK_receive_55, wK_receive_57, wK_receive_60, wK_receive_61, wK_receive_62, wK_receive_65, wK_receive_66, hc, e0, e1, xa, c3, x_gi_int, x_ga_ref, x_ga_null, List.getElem?_cons_zero, List.getElem?_cons_succ, List.length_cons, List.length_nil, List.set_cons_zero, List.set_cons_succ, Nat.reduceAdd, Nat.reduceLT, xr_lt, xr_eq, xr_toInt, xr_0, xi_add, xi_sub, xi_mul, xr_div, xr_rm, Int.toNat_natCast, bd_t, true_and, and_true, not_false_eq_true, ↓reduceIte, ilt_t, ilt_f, ile_t, x_c1i, x_c1r, x_c1n, and_self, Option.toList_some, Option.toList_none, List.cons_append, List.nil_append, xr_01, xr_00, ieq_f, ieq_t]
    exact hQ w A rfl h fr0
  rw [if_neg c3] at hQ
  have hus : us S 3 (S 1 p.toNat) := us_thi (by omega) (by omega) hgd
  obtain ⟨b0, b1, b2, b3⟩ := h.gat hus
  have hbb : x_has w (A 3 (S 1 p.toNat)) [6] := ⟨_, _, b0, by decide⟩
  have hul : us S 9 (S 1 p.toNat + 4) := us_lin (Or.inr (Or.inl (by rw [show S 1 p.toNat + 4 - 4 = S 1 p.toNat by omega]; exact hgd)))
  obtain ⟨t, et⟩ : ∃ t : Nat, s_now S = (t : Int) := ⟨(s_now S).toNat, by omega⟩
  rw [et] at n1 n2 hQ ⊢
  rw [Int.toNat_natCast] at n1 n2 hQ
  have hut : us S 2 (8 * (t : Int)) := us_thi (by omega) (by omega) ((hI.1.2.2.2.2.2.1 t n1).2.1.1 (by omega))
  have hz : x_has w (A 2 (8 * (t : Int))) [2] := ⟨_, _, (h.thr hut).1, by decide⟩
  obtain ⟨fl1, fl2⟩ := first_lin hI (u := S 1 p.toNat) (how := 3) (Or.inl ⟨Or.inl rfl, hgd⟩)
  have si := s_first_in S 3 (S 1 p.toNat)
  simp (disch := first | exact hR _ _ | exact x01a | exact x01b | (unfold x_r; omega) | assumption | omega) only [wK_receive_21, wK_receive_21n, wK_receive_23, wK_receive_25n, wK_receive_25, wK_receive_28, wK_receive_30, wK_receive_33, wK_receive_33n, wK_receive_35, wK_receive_37 g0 g1, wK_receive_40, wK_receive_43, wK_receive_45 g0, wK_receive_48, wK_receive_48n, wK_receive_50, wK_receive_55, wK_receive_57, wK_receive_60, wK_receive_61, wK_receive_62, wK_receive_67, wK_receive_69, wK_receive_72, hc, hbb, e0, e1, b3, xa, c3, x_gi_int, x_ga_ref, x_ga_null, List.getElem?_cons_zero, List.getElem?_cons_succ, List.length_cons, List.length_nil, List.set_cons_zero, List.set_cons_succ, Nat.reduceAdd, Nat.reduceLT, xr_lt, xr_eq, xr_toInt, xr_0, xi_add, xi_sub, xi_mul, xr_div, xr_rm, Int.toNat_natCast, bd_t, true_and, and_true, not_false_eq_true, ↓reduceIte, ilt_t, ilt_f, ile_t, x_c1i, x_c1r, x_c1n, and_self, Option.toList_some, Option.toList_none, List.cons_append, List.nil_append, xr_01, xr_00, ieq_f, ieq_t]
  refine wK_receive_73 (by simp) rfl rfl (k_firstWaiting h hul (fun z => (fst_us hI.lnI (by omega) z).1) hR ⟨by omega, by omega⟩ ?_)
  rw [fl1]
  have f4 := h.frp (Fr.refl w) hut 15 (.int (xi d))
  have r15 : x_fd (x_put w (A 2 (8 * (t : Int))) 15 (.int (xi d))) (A 2 (8 * (t : Int))) 15 = .int (xi d) := by
    rw [x_fd_put, if_pos ⟨rfl, rfl⟩]
  by_cases c4 : s_first S 3 (S 1 p.toNat) < 0
  · rw [if_pos c4] at hQ
    rw [pv_n c4]
    rcases hbl with e | e
    · rw [if_pos e] at hQ
      simp (disch := first | exact hR _ _ | exact x01a | exact x01b | (unfold x_r; omega) | assumption | omega) only [wK_receive_76, wK_receive_76n, wK_receive_78, wK_receive_80n, wK_receive_80, wK_receive_83, wK_receive_84, wK_receive_87, wK_receive_89, e, x_gi_int, x_ga_ref, x_ga_null, List.getElem?_cons_zero, List.getElem?_cons_succ, List.length_cons, List.length_nil, List.set_cons_zero, List.set_cons_succ, Nat.reduceAdd, Nat.reduceLT, xr_lt, xr_eq, xr_toInt, xr_0, xi_add, xi_sub, xi_mul, xr_div, xr_rm, Int.toNat_natCast, bd_t, true_and, and_true, not_false_eq_true, ↓reduceIte, ilt_t, ilt_f, ile_t, x_c1i, x_c1r, x_c1n, and_self, Option.toList_some, Option.toList_none, List.cons_append, List.nil_append, xr_01, xr_00, ieq_f, ieq_t]
      exact hQ w A rfl h fr0
    · have e' : ¬ bl = 0 := by omega
      rw [if_neg e'] at hQ
      have h4 : Rel (x_put w (A 2 (8 * (t : Int))) 15 (.int (xi d))) A S (lid S) := by
        refine Hp.tout (S := S) (t := t) (h.put hut 15 _) hA (by omega) (fun j hj => rfl) (fun j i hi => rfl) (fun k i f c => ?_)
        rw [fup_n (by omega)]
      obtain ⟨q0, q1, q2, q3⟩ := h4.gat (u := S 1 p.toNat) hus
      have hq : x_has (x_put w (A 2 (8 * (t : Int))) 15 (.int (xi d))) (A 3 (S 1 p.toNat)) [6] := ⟨_, _, q0, by decide⟩
      have ne : ∀ x : Value, x_fd (x_put w (A 2 (8 * (t : Int))) 15 (.int (xi d))) (A 3 (S 1 p.toNat)) 2 = x ↔ x_fd w (A 3 (S 1 p.toNat)) 2 = x := by
        intro x
        rw [x_fd_put, if_neg (by omega)]
      have hbl2 : -2147483648 ≤ bl ∧ bl < 2147483648 := by omega
      simp (disch := first | exact hR _ _ | exact x01a | exact x01b | (unfold x_r; omega) | assumption | omega) only [wK_receive_76, wK_receive_76n, wK_receive_78, wK_receive_80n, wK_receive_80, wK_receive_83, wK_receive_84, wK_receive_90, wK_receive_92, wK_receive_93, wK_receive_96, wK_receive_98n, wK_receive_98, wK_receive_101, wK_receive_103, wK_receive_104, wK_receive_106, x_has_put, x_f0, hz, hbb, q3, e', x_gi_int, x_ga_ref, x_ga_null, List.getElem?_cons_zero, List.getElem?_cons_succ, List.length_cons, List.length_nil, List.set_cons_zero, List.set_cons_succ, Nat.reduceAdd, Nat.reduceLT, xr_lt, xr_eq, xr_toInt, xr_0, xi_add, xi_sub, xi_mul, xr_div, xr_rm, Int.toNat_natCast, bd_t, true_and, and_true, not_false_eq_true, ↓reduceIte, ilt_t, ilt_f, ile_t, x_c1i, x_c1r, x_c1n, and_self, Option.toList_some, Option.toList_none, List.cons_append, List.nil_append, xr_01, xr_00, ieq_f, ieq_t]
      refine wK_receive_109 (by simp) rfl rfl (k_becomeWaiting h4 hA hR hI.lnI (how := 4) (u := S 1 p.toNat) (a := d) n1 hut (by omega) ⟨by omega, by omega⟩ hul hI.tc (fun x => by omega) (fun _ => r15) (fun w5 h5 fr5 => ?_))
      simp (disch := first | exact hR _ _ | exact x01a | exact x01b | (unfold x_r; omega) | assumption | omega) only [wK_receive_112, wK_receive_114, x_gi_int, x_ga_ref, x_ga_null, List.getElem?_cons_zero, List.getElem?_cons_succ, List.length_cons, List.length_nil, List.set_cons_zero, List.set_cons_succ, Nat.reduceAdd, Nat.reduceLT, xr_lt, xr_eq, xr_toInt, xr_0, xi_add, xi_sub, xi_mul, xr_div, xr_rm, Int.toNat_natCast, bd_t, true_and, and_true, not_false_eq_true, ↓reduceIte, ilt_t, ilt_f, ile_t, x_c1i, x_c1r, x_c1n, and_self, Option.toList_some, Option.toList_none, List.cons_append, List.nil_append, xr_01, xr_00, ieq_f, ieq_t]
      rw [← lid_waits (a := d) S t (how := 4) (by omega)] at h5
      exact hQ w5 A rfl h5 ((f4.trans (k := 0) fr5 (by omega)).le (by omega))
  · rw [if_neg c4] at hQ
    rw [pv_r c4, ← fl2 (by omega)]
    obtain ⟨x1, x2, x3⟩ := firstL_is 16 (show 0 ≤ firstL S 3 (S 1 p.toNat) 16 from by unfold s_first at c4; omega)
    have fe : firstL S 3 (S 1 p.toNat) 16 = s_first S 3 (S 1 p.toNat) := rfl
    rw [fe] at x1 x2 x3
    obtain ⟨b, eb⟩ : ∃ b : Nat, s_first S 3 (S 1 p.toNat) = (b : Int) := ⟨(s_first S 3 (S 1 p.toNat)).toNat, by omega⟩
    rw [eb] at hQ x1 x2 x3 ⊢
    rw [Int.toNat_natCast] at x1 x2 x3
    have s0 : ∀ j, j ≠ 20 → sset S 20 t d j = S j := fun j hj => sset_o hj
    have st0 : sset S 20 t d 20 t = d := by rw [sset_at, if_pos ⟨rfl, rfl⟩]
    have hI0 : Inv (sset S 20 t d) := hI.scal (by omega) hdr
    have l0 : lid (sset S 20 t d) = lid S := lid_o (s0 10 (by omega)) (s0 13 (by omega)) (s0 19 (by omega))
    have h4 : Rel (x_put w (A 2 (8 * (t : Int))) 15 (.int (xi d))) A (sset S 20 t d) (lid (sset S 20 t d)) := by
      rw [l0]
      refine Hp.tout (S := S) (t := t) (h.put hut 15 _) hA (by omega) (fun j hj => s0 j (by omega)) (fun j i hi => by rw [sset_at, if_neg (fun x => hi x.2)]) (fun k i f c => ?_)
      rw [fup_n (by omega)]
    generalize sset S 20 t d = S0 at *
    have hub : us S0 2 (8 * (b : Int)) := us_thi (by omega) (by omega) ((hI0.1.2.2.2.2.2.1 b x1).2.1.1 (by rw [s0 10 (by omega)]; omega))
    have y := h4.thr2 (t := (b : Int)) hub
    rw [Int.toNat_natCast, s0 10 (by omega)] at y
    obtain ⟨y12, y13, y14⟩ := y.1 x2
    have y15 := y.2 (Or.inl x2)
    obtain ⟨⟨q0, -⟩, -⟩ := h4.ker
    simp (disch := first | exact hR _ _ | exact x01a | exact x01b | (unfold x_r; omega) | assumption | omega) only [wK_receive_76, wK_receive_76n, wK_receive_78, wK_receive_80n, wK_receive_80, wK_receive_90, wK_receive_92, wK_receive_93, wK_receive_96, wK_receive_98n, wK_receive_98, wK_receive_115, wK_receive_116, wK_receive_118, x_has_put, x_f0, hz, x_gi_int, x_ga_ref, x_ga_null, List.getElem?_cons_zero, List.getElem?_cons_succ, List.length_cons, List.length_nil, List.set_cons_zero, List.set_cons_succ, Nat.reduceAdd, Nat.reduceLT, xr_lt, xr_eq, xr_toInt, xr_0, xi_add, xi_sub, xi_mul, xr_div, xr_rm, Int.toNat_natCast, bd_t, true_and, and_true, not_false_eq_true, ↓reduceIte, ilt_t, ilt_f, ile_t, x_c1i, x_c1r, x_c1n, and_self, Option.toList_some, Option.toList_none, List.cons_append, List.nil_append, xr_01, xr_00, ieq_f, ieq_t]
    refine wK_receive_120 q0 (by simp) rfl rfl (k_transfer h4 hI0 x1 (by rw [s0 10 (by omega)]; omega) n1 (by rw [s0 10 (by omega)]; omega) y12 y13 y14 y15 (by rw [r15, st0]) (fun w5 A5 hA5 h5 fr5 => ?_))
    have hI5 : Inv (s_transfer S0 b t) := hI0.transfer (by omega) (by omega) (by rw [Int.toNat_natCast, s0 10 (by omega)]; omega) (by omega) (by omega) (by rw [Int.toNat_natCast, s0 10 (by omega)]; omega)
    have l5 : lid (s_transfer S0 b t) = lid S0 := lid_o (transfer_e (by omega)) (transfer_e (by omega)) (transfer_e (by omega))
    rw [← l5] at h5
    have A2 : A5 2 = A 2 := hA5 2 (by omega) (by omega)
    have A12 : A5 12 = A 12 := hA5 12 (by omega) (by omega)
    obtain ⟨⟨z0, -⟩, -⟩ := h5.ker
    have kr := k_ready (P := P) h5 hI5 x1 (by rw [transfer_e (by omega), s0 10 (by omega)]; omega) (Q := fun v w' => WP P 53 129 [some (.ref (A 12 0)), some (.int (xi g)), some (.int (xi d)), some (.int (xi bl)), some (.ref (A 2 (8 * (t : Int)))), some (.ref (A 8 p)), some (.ref (A 3 (S 1 p.toNat))), some (.ref (A 2 (8 * (b : Int))))] (v.toList ++ []) w' Q) (fun w6 h6 fr6 => by
      simp (disch := first | exact hR _ _ | exact x01a | exact x01b | (unfold x_r; omega) | assumption | omega) only [wK_receive_129, wK_receive_130, x_gi_int, x_ga_ref, x_ga_null, List.getElem?_cons_zero, List.getElem?_cons_succ, List.length_cons, List.length_nil, List.set_cons_zero, List.set_cons_succ, Nat.reduceAdd, Nat.reduceLT, xr_lt, xr_eq, xr_toInt, xr_0, xi_add, xi_sub, xi_mul, xr_div, xr_rm, Int.toNat_natCast, bd_t, true_and, and_true, not_false_eq_true, ↓reduceIte, ilt_t, ilt_f, ile_t, x_c1i, x_c1r, x_c1n, and_self, Option.toList_some, Option.toList_none, List.cons_append, List.nil_append, xr_01, xr_00, ieq_f, ieq_t]
      exact hQ w6 A5 (by rw [A12]) h6 ((f4.trans (k := 1) fr5 (by omega)).trans fr6 (by omega)))
    rw [A2, A12] at kr
    rw [A12] at z0
    simp (disch := first | exact hR _ _ | exact x01a | exact x01b | (unfold x_r; omega) | assumption | omega) only [wK_receive_123, wK_receive_124, x_gi_int, x_ga_ref, x_ga_null, List.getElem?_cons_zero, List.getElem?_cons_succ, List.length_cons, List.length_nil, List.set_cons_zero, List.set_cons_succ, Nat.reduceAdd, Nat.reduceLT, xr_lt, xr_eq, xr_toInt, xr_0, xi_add, xi_sub, xi_mul, xr_div, xr_rm, Int.toNat_natCast, bd_t, true_and, and_true, not_false_eq_true, ↓reduceIte, ilt_t, ilt_f, ile_t, x_c1i, x_c1r, x_c1n, and_self, Option.toList_some, Option.toList_none, List.cons_append, List.nil_append, xr_01, xr_00, ieq_f, ieq_t]
    exact wK_receive_126 z0 (by simp) rfl rfl kr
end KY
