theorem Hp.tout {w' : xH} {A : xA} {S S' : xS} {ln : Nat → Int} {F : Int → Int → Nat → Option Value} (h : Hp w' A (us S) F) (hA : CapA S) {t : Nat} (h10 : S 10 t ≠ 3 ∧ S 10 t ≠ 4) (e : ∀ j, ¬ (20 ≤ j ∧ j < 24) → S' j = S j) (o : ∀ j i, i ≠ t → S' j i = S j i)
    (hf1 : ∀ k i f, ¬ (k = 2 ∧ i = 8 * (t : Int) ∧ 12 ≤ f) → F k i f = xFv A S ln k i f) : Rel w' A S' ln := by
  refine Hp.tnum (S := S) (t := t) h hA (fun j hj => e j (by omega)) (fun j i j1 j2 hi => o j i hi) (fun k i f c => hf1 k i f (fun x => c ⟨x.1, x.2.1⟩)) ?_
  have nx : nxtL S' ln t = nxtL S ln t := by
    unfold nxtL
    rw [e 18 (by omega)]
  have e10 := e 10 (by omega)
  refine Fthr_all (p := fun f v => F 2 (8 * (t : Int)) f = some v) ?_ ?_ ?_ ?_ ?_ ?_ ?_ ?_ ?_ ?_ ?_ ?_ (fun c => ?_) (fun c => ?_) (fun c => ?_) (fun c => ?_)
  all_goals first
    | (rw [e10] at c; omega)
    | (rw [hf1 _ _ _ (by omega), Fv_thr]; rfl)
    | (rw [hf1 _ _ _ (by omega), Fv_thr, e _ (by omega)]; rfl)
    | (rw [hf1 _ _ _ (by omega), Fv_thr, nx]; rfl)
section KX
variable {P : xP} {w : xH} {Q : Option Value → xH → Prop} {A : xA} {S : xS} {ln : Nat → Int}
theorem x_f1 {x : Int} (h : x = 0 ∨ x = 1) : x_fit 1 (.int (xi x)) = true := by
  rcases h with rfl | rfl <;> rfl
set_option maxHeartbeats 16000000 in
theorem k_send (h : Rel w A S (lid S)) (hI : Inv S) (hC : S 28 0 < 2000000000) {g word c bl : Int} (hg' : x_r g) (hwd : x_r word) (hc' : x_r c) (hbl : bl = 0 ∨ bl = 1) {l5 l6 l7 l8 : Option Value} (hQ : ∀ w' A', A' 12 0 = A 12 0 → Rel w' A' (s_send S g word c bl).2 (lid (s_send S g word c bl).2) → Fr w w' 4 → Q (some (.int (xi (s_send S g word c bl).1))) w') : WP P 48 0 [some (.ref (A 12 0)), some (.int (xi g)), some (.int (xi word)), some (.int (xi c)), some (.int (xi bl)), l5, l6, l7, l8] [] w Q := by
  have fr0 : Fr w w 4 := (Fr.refl w).le (by omega)
  have hg := hg'
  unfold s_send at hQ
  obtain ⟨⟨t0, t1, t2, t3, t4⟩, f0, f1, f2, f3⟩ := h.ker
  have hR := hI.1.1
  have hA := hI.1.2.1
  have hn := s_now_in S
  simp (disch := first | exact hR _ _ | exact x01a | exact x01b | (unfold x_r; omega) | assumption | omega) only [wK_send_0, x_gi_int, x_ga_ref, x_ga_null, List.getElem?_cons_zero, List.getElem?_cons_succ, List.length_cons, List.length_nil, List.set_cons_zero, List.set_cons_succ, Nat.reduceAdd, Nat.reduceLT, xr_lt, xr_eq, xr_toInt, xr_0, xi_add, xi_sub, xi_mul, xr_div, xr_rm, Int.toNat_natCast, bd_t, true_and, and_true, not_false_eq_true, ↓reduceIte, ilt_t, ilt_f, ile_t, x_c1i, x_c1r, x_c1n, and_self, Option.toList_some, Option.toList_none, List.cons_append, List.nil_append, xr_01, xr_00, ieq_f, ieq_t]
  refine wK_send_1 t0 (by simp) rfl rfl (k_currentThread h hI ?_)
  by_cases c1 : s_now S < 0
  · rw [if_pos c1] at hQ
    rw [pv_n c1]
    simp (disch := first | exact hR _ _ | exact x01a | exact x01b | (unfold x_r; omega) | assumption | omega) only [wK_send_4, wK_send_4n, wK_send_6, wK_send_8n, wK_send_8, wK_send_11, wK_send_13, x_gi_int, x_ga_ref, x_ga_null, List.getElem?_cons_zero, List.getElem?_cons_succ, List.length_cons, List.length_nil, List.set_cons_zero, List.set_cons_succ, Nat.reduceAdd, Nat.reduceLT, xr_lt, xr_eq, xr_toInt, xr_0, xi_add, xi_sub, xi_mul, xr_div, xr_rm, Int.toNat_natCast, bd_t, true_and, and_true, not_false_eq_true, ↓reduceIte, ilt_t, ilt_f, ile_t, x_c1i, x_c1r, x_c1n, and_self, Option.toList_some, Option.toList_none, List.cons_append, List.nil_append, xr_01, xr_00, ieq_f, ieq_t]
    exact hQ w A rfl h fr0
  rw [if_neg c1] at hQ
  rw [pv_r c1]
  obtain ⟨n1, n2⟩ := now_is c1
  simp (disch := first | exact hR _ _ | exact x01a | exact x01b | (unfold x_r; omega) | assumption | omega) only [wK_send_4, wK_send_4n, wK_send_6, wK_send_8n, wK_send_8, wK_send_14, wK_send_15, wK_send_17, x_gi_int, x_ga_ref, x_ga_null, List.getElem?_cons_zero, List.getElem?_cons_succ, List.length_cons, List.length_nil, List.set_cons_zero, List.set_cons_succ, Nat.reduceAdd, Nat.reduceLT, xr_lt, xr_eq, xr_toInt, xr_0, xi_add, xi_sub, xi_mul, xr_div, xr_rm, Int.toNat_natCast, bd_t, true_and, and_true, not_false_eq_true, ↓reduceIte, ilt_t, ilt_f, ile_t, x_c1i, x_c1r, x_c1n, and_self, Option.toList_some, Option.toList_none, List.cons_append, List.nil_append, xr_01, xr_00, ieq_f, ieq_t]
  refine wK_send_18 t0 (by simp) rfl rfl (k_capabilityAt h hI (by omega) (by omega) (by omega) hg ?_)
  have hb := s_hv_is hI (t := (s_now S).toNat) n1 g
  have ehk : s_having S g 3 = s_hk S (s_now S).toNat g 3 := having_hk (by omega)
  unfold s_hk at ehk
  by_cases d1 : s_hv S (s_now S).toNat g < 0
  · rw [if_pos d1] at ehk
    rw [if_pos (by omega)] at hQ
    rw [pv_n d1]
    simp (disch := first | exact hR _ _ | exact x01a | exact x01b | (unfold x_r; omega) | assumption | omega) only [wK_send_21, wK_send_21n, wK_send_23, wK_send_25n, wK_send_25, wK_send_53, wK_send_54, x_gi_int, x_ga_ref, x_ga_null, List.getElem?_cons_zero, List.getElem?_cons_succ, List.length_cons, List.length_nil, List.set_cons_zero, List.set_cons_succ, Nat.reduceAdd, Nat.reduceLT, xr_lt, xr_eq, xr_toInt, xr_0, xi_add, xi_sub, xi_mul, xr_div, xr_rm, Int.toNat_natCast, bd_t, true_and, and_true, not_false_eq_true, ↓reduceIte, ilt_t, ilt_f, ile_t, x_c1i, x_c1r, x_c1n, and_self, Option.toList_some, Option.toList_none, List.cons_append, List.nil_append, xr_01, xr_00, ieq_f, ieq_t]
    exact hQ w A rfl h fr0
  rw [if_neg d1] at ehk
  rw [pv_r d1]
  obtain ⟨ct, e0, e1, e2, -⟩ := h.cap (p := s_hv S (s_now S).toNat g) (by omega) (by omega) (hb.2.2 d1)
  obtain ⟨n, g0, g1, g2, g3⟩ := h.thg hA (p := s_hv S (s_now S).toNat g) (by omega) (by omega) (hb.2.2 d1)
  have hc : x_has w (A 8 (s_hv S (s_now S).toNat g)) [1] := ⟨_, _, ct, by decide⟩
  have k7 := (hA (s_hv S (s_now S).toNat g).toNat (by omega)).1
  have ti := (tgK_is (hb.2.2 d1) k7.2.1).2.2.2.2.2.1
  by_cases d2 : ¬ S 0 (s_hv S (s_now S).toNat g).toNat = 3
  · rw [if_neg d2] at ehk
    rw [if_pos (by omega)] at hQ
    have tt : ¬ (tgK (S 0 (s_hv S (s_now S).toNat g).toNat) 0).1 = 6 := fun x => d2 (ti.1 x)
    simp (disch := first | exact hR _ _ | exact x01a | exact x01b | (unfold x_r; omega) | assumption | omega) only [wK_send_21, wK_send_21n, wK_send_23, wK_send_25n, wK_send_25, wK_send_28, wK_send_30, wK_send_33, wK_send_33n, wK_send_35, wK_send_37 g0 g1, wK_send_40, wK_send_53, wK_send_54, hc, e0, tt, x_gi_int, x_ga_ref, x_ga_null, List.getElem?_cons_zero, List.getElem?_cons_succ, List.length_cons, List.length_nil, List.set_cons_zero, List.set_cons_succ, Nat.reduceAdd, Nat.reduceLT, xr_lt, xr_eq, xr_toInt, xr_0, xi_add, xi_sub, xi_mul, xr_div, xr_rm, Int.toNat_natCast, bd_t, true_and, and_true, not_false_eq_true, ↓reduceIte, ilt_t, ilt_f, ile_t, x_c1i, x_c1r, x_c1n, and_self, Option.toList_some, Option.toList_none, List.cons_append, List.nil_append, xr_01, xr_00, ieq_f, ieq_t]
    exact hQ w A rfl h fr0
  have d2 := Decidable.not_not.1 d2
  rw [if_pos d2] at ehk
  rw [if_neg (by omega)] at hQ
  rw [← ehk] at d1 d2 ct e0 e1 e2 g0 g1 g2 g3 hc hb k7 ti ⊢
  have tt := ti.2 d2
  rw [tt] at g0 g1
  rw [thA_k d2 (by omega)] at e0 g0
  have hr := ((hA (s_having S g 3).toNat (by omega)).2 (by omega)).2.2.1
  have xa := xr_and (a := S 2 (s_having S g 3).toNat) (b := 2) hr.1 (by omega)
  have xa4 := xr_and (a := S 2 (s_having S g 3).toNat) (b := 4) hr.1 (by omega)
  have an := s_and_7 (b := 2) ⟨hr.1, hr.2.1⟩
  have an4 := s_and_7 (b := 4) ⟨hr.1, hr.2.1⟩
  have hgd : hd S 3 (S 1 (s_having S g 3).toNat) := ⟨_, by omega, d2, rfl⟩
  generalize s_having S g 3 = p at *
  by_cases c3 : s_and (S 2 p.toNat) 2 = 0
  · rw [if_pos c3] at hQ
    simp (disch := first | exact hR _ _ | exact x01a | exact x01b | (unfold x_r; omega) | assumption | omega) only [wK_send_21, wK_send_21n, wK_send_23, wK_send_25n, wK_send_25, wK_send_28, wK_send_30, wK_send_33, wK_send_33n, wK_send_35, wK_send_37 g0 g1, wK_send_40, wK_send_43, wK_send_45 g0, wK_send_48, wK_send_48n, wK_send_50, wK_send_55, wK_send_57, wK_send_60, wK_send_61, wK_send_62, wK_send_65, wK_send_66, hc, e0, e1, xa, c3, x_gi_int, x_ga_ref, x_ga_null, List.getElem?_cons_zero, List.getElem?_cons_succ, List.length_cons, List.length_nil, List.set_cons_zero, List.set_cons_succ, Nat.reduceAdd, Nat.reduceLT, xr_lt, xr_eq, xr_toInt, xr_0, xi_add, xi_sub, xi_mul, xr_div, xr_rm, Int.toNat_natCast, bd_t, true_and, and_true, not_false_eq_true, ↓reduceIte, ilt_t, ilt_f, ile_t, x_c1i, x_c1r, x_c1n, and_self, Option.toList_some, Option.toList_none, List.cons_append, List.nil_append, xr_01, xr_00, ieq_f, ieq_t]
    exact hQ w A rfl h fr0
  rw [if_neg c3] at hQ
  have hus : us S 3 (S 1 p.toNat) := us_thi (by omega) (by omega) hgd
  obtain ⟨b0, b1, b2, b3⟩ := h.gat hus
  have hbb : x_has w (A 3 (S 1 p.toNat)) [6] := ⟨_, _, b0, by decide⟩
  have hul : us S 9 (S 1 p.toNat + 4) := us_lin (Or.inr (Or.inl (by rw [show S 1 p.toNat + 4 - 4 = S 1 p.toNat by omega]; exact hgd)))
  obtain ⟨t, et⟩ : ∃ t : Nat, s_now S = (t : Int) := ⟨(s_now S).toNat, by omega⟩
  rw [et] at n1 n2 hQ ⊢
  rw [Int.toNat_natCast] at n1 n2
  have hut : us S 2 (8 * (t : Int)) := us_thi (by omega) (by omega) ((hI.1.2.2.2.2.2.1 t n1).2.1.1 (by omega))
  have hz : x_has w (A 2 (8 * (t : Int))) [2] := ⟨_, _, (h.thr hut).1, by decide⟩
  obtain ⟨fl1, fl2⟩ := first_lin hI (u := S 1 p.toNat) (how := 4) (Or.inl ⟨Or.inr rfl, hgd⟩)
  have si := s_first_in S 4 (S 1 p.toNat)
  simp (disch := first | exact hR _ _ | exact x01a | exact x01b | (unfold x_r; omega) | assumption | omega) only [wK_send_21, wK_send_21n, wK_send_23, wK_send_25n, wK_send_25, wK_send_28, wK_send_30, wK_send_33, wK_send_33n, wK_send_35, wK_send_37 g0 g1, wK_send_40, wK_send_43, wK_send_45 g0, wK_send_48, wK_send_48n, wK_send_50, wK_send_55, wK_send_57, wK_send_60, wK_send_61, wK_send_62, wK_send_67, wK_send_69, wK_send_72, hc, hbb, e0, e1, b3, xa, c3, x_gi_int, x_ga_ref, x_ga_null, List.getElem?_cons_zero, List.getElem?_cons_succ, List.length_cons, List.length_nil, List.set_cons_zero, List.set_cons_succ, Nat.reduceAdd, Nat.reduceLT, xr_lt, xr_eq, xr_toInt, xr_0, xi_add, xi_sub, xi_mul, xr_div, xr_rm, Int.toNat_natCast, bd_t, true_and, and_true, not_false_eq_true, ↓reduceIte, ilt_t, ilt_f, ile_t, x_c1i, x_c1r, x_c1n, and_self, Option.toList_some, Option.toList_none, List.cons_append, List.nil_append, xr_01, xr_00, ieq_f, ieq_t]
  refine wK_send_73 (by simp) rfl rfl (k_firstWaiting h hul (fun z => (fst_us hI.lnI (by omega) z).1) hR ⟨by omega, by omega⟩ ?_)
  rw [fl1]
  -- the four fields
  have s0 : ∀ j, ¬ (20 ≤ j ∧ j ≤ 23) → s_send0 S (t : Int) p word c j = S j := fun j hj => send0_e hj
  have si0 : ∀ j i, i ≠ t → s_send0 S (t : Int) p word c j i = S j i := by
    intro j i hi
    unfold s_send0
    simp [sset_at, hi]
  have st0 : s_send0 S (t : Int) p word c 20 t = c ∧ s_send0 S (t : Int) p word c 21 t = word ∧ s_send0 S (t : Int) p word c 22 t = S 3 p.toNat ∧ s_send0 S (t : Int) p word c 23 t = (if s_and (S 2 p.toNat) 4 = 0 then 0 else 1) := by
    unfold s_send0
    simp [sset_at]
  have hI0 : Inv (s_send0 S (t : Int) p word c) := hI.send0 hwd hc'
  have l0 : lid (s_send0 S (t : Int) p word c) = lid S := lid_o (s0 10 (by omega)) (s0 13 (by omega)) (s0 19 (by omega))
  generalize eS0 : s_send0 S (t : Int) p word c = S0 at *
  have h4 : ∀ v1 v2 v3 v4 : Value, Rel (x_put (x_put (x_put (x_put w (A 2 (8 * (t : Int))) 12 v1) (A 2 (8 * (t : Int))) 13 v2) (A 2 (8 * (t : Int))) 14 v3) (A 2 (8 * (t : Int))) 15 v4) A S0 (lid S0) := by
    intro v1 v2 v3 v4
    rw [l0]
    refine Hp.tout (S := S) (t := t) ((((h.put hut 12 v1).put hut 13 v2).put hut 14 v3).put hut 15 v4) hA (by omega) (fun j hj => s0 j (by omega)) (fun j i hi => si0 j i hi) (fun k i f c => ?_)
    rw [fup_n (by omega), fup_n (by omega), fup_n (by omega), fup_n (by omega)]
  have f4 : ∀ v1 v2 v3 v4 : Value, Fr w (x_put (x_put (x_put (x_put w (A 2 (8 * (t : Int))) 12 v1) (A 2 (8 * (t : Int))) 13 v2) (A 2 (8 * (t : Int))) 14 v3) (A 2 (8 * (t : Int))) 15 v4) 0 := fun v1 v2 v3 v4 => (((h.put hut 12 v1).put hut 13 v2).put hut 14 v3).frp (((h.put hut 12 v1).put hut 13 v2).frp ((h.put hut 12 v1).frp (h.frp (Fr.refl w) hut 12 v1) hut 13 v2) hut 14 v3) hut 15 v4
  have mg : (if s_and (S 2 p.toNat) 4 = 0 then (0 : Int) else 1) = 0 ∨ (if s_and (S 2 p.toNat) 4 = 0 then (0 : Int) else 1) = 1 := by split <;> omega
  have xf1 := x_f1 mg
  have hbl2 : -2147483648 ≤ bl ∧ bl < 2147483648 := by omega
  have mgc : ∀ (lo : List (Option Value)) (r : List Value) (w' : xH), WP P 48 124 lo (.int (xi (if s_and (S 2 p.toNat) 4 = 0 then (0 : Int) else 1)) :: r) w' Q → WP P 48 116 lo (.int (xi (s_and (S 2 p.toNat) 4)) :: r) w' Q := by
    intro lo r w' hw
    by_cases d : s_and (S 2 p.toNat) 4 = 0
    · rw [if_pos d] at hw
      simp (disch := first | exact hR _ _ | exact x01a | exact x01b | (unfold x_r; omega) | assumption | omega) only [wK_send_116, wK_send_123, d, x_gi_int, x_ga_ref, x_ga_null, List.getElem?_cons_zero, List.getElem?_cons_succ, List.length_cons, List.length_nil, List.set_cons_zero, List.set_cons_succ, Nat.reduceAdd, Nat.reduceLT, xr_lt, xr_eq, xr_toInt, xr_0, xi_add, xi_sub, xi_mul, xr_div, xr_rm, Int.toNat_natCast, bd_t, true_and, and_true, not_false_eq_true, ↓reduceIte, ilt_t, ilt_f, ile_t, x_c1i, x_c1r, x_c1n, and_self, Option.toList_some, Option.toList_none, List.cons_append, List.nil_append, xr_01, xr_00, ieq_f, ieq_t]
      exact hw
    · rw [if_neg d] at hw
      simp (disch := first | exact hR _ _ | exact x01a | exact x01b | (unfold x_r; omega) | assumption | omega) only [wK_send_116, wK_send_119, wK_send_120, d, x_gi_int, x_ga_ref, x_ga_null, List.getElem?_cons_zero, List.getElem?_cons_succ, List.length_cons, List.length_nil, List.set_cons_zero, List.set_cons_succ, Nat.reduceAdd, Nat.reduceLT, xr_lt, xr_eq, xr_toInt, xr_0, xi_add, xi_sub, xi_mul, xr_div, xr_rm, Int.toNat_natCast, bd_t, true_and, and_true, not_false_eq_true, ↓reduceIte, ilt_t, ilt_f, ile_t, x_c1i, x_c1r, x_c1n, and_self, Option.toList_some, Option.toList_none, List.cons_append, List.nil_append, xr_01, xr_00, ieq_f, ieq_t]
      exact hw
  have tail : ∀ (v8 : Value), (v8 = .null ∨ ∃ q, v8 = .ref q) → WP P 48 133 [some (.ref (A 12 0)), some (.int (xi g)), some (.int (xi word)), some (.int (xi c)), some (.int (xi bl)), some (.ref (A 2 (8 * (t : Int)))), some (.ref (A 8 p)), some (.ref (A 3 (S 1 p.toNat))), some v8] [] (x_put (x_put (x_put (x_put w (A 2 (8 * (t : Int))) 12 (.int (xi word))) (A 2 (8 * (t : Int))) 13 (.int (xi (S 3 p.toNat)))) (A 2 (8 * (t : Int))) 14 (.int (xi (if s_and (S 2 p.toNat) 4 = 0 then (0 : Int) else 1)))) (A 2 (8 * (t : Int))) 15 (.int (xi c))) Q →
      WP P 48 91 [some (.ref (A 12 0)), some (.int (xi g)), some (.int (xi word)), some (.int (xi c)), some (.int (xi bl)), some (.ref (A 2 (8 * (t : Int)))), some (.ref (A 8 p)), some (.ref (A 3 (S 1 p.toNat))), some v8] [] w Q := by
    intro v8 hv hw
    have ne : A 8 p ≠ A 2 (8 * (t : Int)) := fun x => by have := (h.inj (us_cap (by omega) (by omega) (hb.2.2 d1)) hut x).1; omega
    simp (disch := first | exact hR _ _ | exact x01a | exact x01b | (unfold x_r; omega) | assumption | omega) only [wK_send_91, wK_send_93, wK_send_94, wK_send_97, wK_send_99, wK_send_101, wK_send_104, wK_send_107, wK_send_109, wK_send_111, wK_send_114, wK_send_115, x_has_put, x_fd_put, x_f0, hc, hz, e1, e2, xa4, ne, sset_at, Nat.reduceEqDiff, false_and, and_false, eq_self, and_self, reduceCtorEq, x_gi_int, x_ga_ref, x_ga_null, List.getElem?_cons_zero, List.getElem?_cons_succ, List.length_cons, List.length_nil, List.set_cons_zero, List.set_cons_succ, Nat.reduceAdd, Nat.reduceLT, xr_lt, xr_eq, xr_toInt, xr_0, xi_add, xi_sub, xi_mul, xr_div, xr_rm, Int.toNat_natCast, bd_t, true_and, and_true, not_false_eq_true, ↓reduceIte, ilt_t, ilt_f, ile_t, x_c1i, x_c1r, x_c1n, and_self, Option.toList_some, Option.toList_none, List.cons_append, List.nil_append, xr_01, xr_00, ieq_f, ieq_t]
    refine mgc _ _ _ ?_
    simp (disch := first | exact hR _ _ | exact x01a | exact x01b | (unfold x_r; omega) | assumption | omega) only [wK_send_124, wK_send_127, wK_send_129, wK_send_130, x_has_put, x_f0, xf1, hz, x_gi_int, x_ga_ref, x_ga_null, List.getElem?_cons_zero, List.getElem?_cons_succ, List.length_cons, List.length_nil, List.set_cons_zero, List.set_cons_succ, Nat.reduceAdd, Nat.reduceLT, xr_lt, xr_eq, xr_toInt, xr_0, xi_add, xi_sub, xi_mul, xr_div, xr_rm, Int.toNat_natCast, bd_t, true_and, and_true, not_false_eq_true, ↓reduceIte, ilt_t, ilt_f, ile_t, x_c1i, x_c1r, x_c1n, and_self, Option.toList_some, Option.toList_none, List.cons_append, List.nil_append, xr_01, xr_00, ieq_f, ieq_t]
    exact hw
  have h4' := h4 (.int (xi word)) (.int (xi (S 3 p.toNat))) (.int (xi (if s_and (S 2 p.toNat) 4 = 0 then (0 : Int) else 1))) (.int (xi c))
  have f4' := f4 (.int (xi word)) (.int (xi (S 3 p.toNat))) (.int (xi (if s_and (S 2 p.toNat) 4 = 0 then (0 : Int) else 1))) (.int (xi c))
  have r12 : x_fd (x_put (x_put (x_put (x_put w (A 2 (8 * (t : Int))) 12 (.int (xi word))) (A 2 (8 * (t : Int))) 13 (.int (xi (S 3 p.toNat)))) (A 2 (8 * (t : Int))) 14 (.int (xi (if s_and (S 2 p.toNat) 4 = 0 then (0 : Int) else 1)))) (A 2 (8 * (t : Int))) 15 (.int (xi c))) (A 2 (8 * (t : Int))) 12 = .int (xi (S0 21 t)) := by
    rw [x_fd_put, if_neg (by omega), x_fd_put, if_neg (by omega), x_fd_put, if_neg (by omega), x_fd_put, if_pos ⟨rfl, rfl⟩, st0.2.1]
  have r13 : x_fd (x_put (x_put (x_put (x_put w (A 2 (8 * (t : Int))) 12 (.int (xi word))) (A 2 (8 * (t : Int))) 13 (.int (xi (S 3 p.toNat)))) (A 2 (8 * (t : Int))) 14 (.int (xi (if s_and (S 2 p.toNat) 4 = 0 then (0 : Int) else 1)))) (A 2 (8 * (t : Int))) 15 (.int (xi c))) (A 2 (8 * (t : Int))) 13 = .int (xi (S0 22 t)) := by
    rw [x_fd_put, if_neg (by omega), x_fd_put, if_neg (by omega), x_fd_put, if_pos ⟨rfl, rfl⟩, st0.2.2.1]
  have r14 : x_fd (x_put (x_put (x_put (x_put w (A 2 (8 * (t : Int))) 12 (.int (xi word))) (A 2 (8 * (t : Int))) 13 (.int (xi (S 3 p.toNat)))) (A 2 (8 * (t : Int))) 14 (.int (xi (if s_and (S 2 p.toNat) 4 = 0 then (0 : Int) else 1)))) (A 2 (8 * (t : Int))) 15 (.int (xi c))) (A 2 (8 * (t : Int))) 14 = .int (xi (S0 23 t)) := by
    rw [x_fd_put, if_neg (by omega), x_fd_put, if_pos ⟨rfl, rfl⟩, st0.2.2.2]
  have r15 : x_fd (x_put (x_put (x_put (x_put w (A 2 (8 * (t : Int))) 12 (.int (xi word))) (A 2 (8 * (t : Int))) 13 (.int (xi (S 3 p.toNat)))) (A 2 (8 * (t : Int))) 14 (.int (xi (if s_and (S 2 p.toNat) 4 = 0 then (0 : Int) else 1)))) (A 2 (8 * (t : Int))) 15 (.int (xi c))) (A 2 (8 * (t : Int))) 15 = .int (xi (S0 20 t)) := by
    rw [x_fd_put, if_pos ⟨rfl, rfl⟩, st0.1]
  have hu0 := us_cg (S := S) (S' := S0) (s0 0 (by omega)) (s0 1 (by omega))
  generalize x_put (x_put (x_put (x_put w (A 2 (8 * (t : Int))) 12 (.int (xi word))) (A 2 (8 * (t : Int))) 13 (.int (xi (S 3 p.toNat)))) (A 2 (8 * (t : Int))) 14 (.int (xi (if s_and (S 2 p.toNat) 4 = 0 then (0 : Int) else 1)))) (A 2 (8 * (t : Int))) 15 (.int (xi c)) = w4 at *
  by_cases c4 : s_first S 4 (S 1 p.toNat) < 0
  · rw [if_pos c4] at hQ
    rw [pv_n c4]
    rcases hbl with e | e
    · rw [if_pos e] at hQ
      simp (disch := first | exact hR _ _ | exact x01a | exact x01b | (unfold x_r; omega) | assumption | omega) only [wK_send_76, wK_send_76n, wK_send_78, wK_send_80n, wK_send_80, wK_send_83, wK_send_85, wK_send_88, wK_send_90, e, x_gi_int, x_ga_ref, x_ga_null, List.getElem?_cons_zero, List.getElem?_cons_succ, List.length_cons, List.length_nil, List.set_cons_zero, List.set_cons_succ, Nat.reduceAdd, Nat.reduceLT, xr_lt, xr_eq, xr_toInt, xr_0, xi_add, xi_sub, xi_mul, xr_div, xr_rm, Int.toNat_natCast, bd_t, true_and, and_true, not_false_eq_true, ↓reduceIte, ilt_t, ilt_f, ile_t, x_c1i, x_c1r, x_c1n, and_self, Option.toList_some, Option.toList_none, List.cons_append, List.nil_append, xr_01, xr_00, ieq_f, ieq_t]
      exact hQ w A rfl h fr0
    · have e' : ¬ bl = 0 := by omega
      rw [if_neg e'] at hQ
      simp (disch := first | exact hR _ _ | exact x01a | exact x01b | (unfold x_r; omega) | assumption | omega) only [wK_send_76, wK_send_76n, wK_send_78, wK_send_80n, wK_send_80, wK_send_83, wK_send_85, e', x_gi_int, x_ga_ref, x_ga_null, List.getElem?_cons_zero, List.getElem?_cons_succ, List.length_cons, List.length_nil, List.set_cons_zero, List.set_cons_succ, Nat.reduceAdd, Nat.reduceLT, xr_lt, xr_eq, xr_toInt, xr_0, xi_add, xi_sub, xi_mul, xr_div, xr_rm, Int.toNat_natCast, bd_t, true_and, and_true, not_false_eq_true, ↓reduceIte, ilt_t, ilt_f, ile_t, x_c1i, x_c1r, x_c1n, and_self, Option.toList_some, Option.toList_none, List.cons_append, List.nil_append, xr_01, xr_00, ieq_f, ieq_t]
      refine tail .null (Or.inl rfl) ?_
      obtain ⟨q0, q1, q2, q3⟩ := h4'.gat (u := S 1 p.toNat) (by rw [hu0]; exact hus)
      have hq : x_has w4 (A 3 (S 1 p.toNat)) [6] := ⟨_, _, q0, by decide⟩
      simp (disch := first | exact hR _ _ | exact x01a | exact x01b | (unfold x_r; omega) | assumption | omega) only [wK_send_133, wK_send_135n, wK_send_135, wK_send_138, wK_send_140, wK_send_141, wK_send_143, hq, q3, x_gi_int, x_ga_ref, x_ga_null, List.getElem?_cons_zero, List.getElem?_cons_succ, List.length_cons, List.length_nil, List.set_cons_zero, List.set_cons_succ, Nat.reduceAdd, Nat.reduceLT, xr_lt, xr_eq, xr_toInt, xr_0, xi_add, xi_sub, xi_mul, xr_div, xr_rm, Int.toNat_natCast, bd_t, true_and, and_true, not_false_eq_true, ↓reduceIte, ilt_t, ilt_f, ile_t, x_c1i, x_c1r, x_c1n, and_self, Option.toList_some, Option.toList_none, List.cons_append, List.nil_append, xr_01, xr_00, ieq_f, ieq_t]
      refine wK_send_146 (by simp) rfl rfl (k_becomeWaiting h4' hI0.1.2.1 hI0.1.1 hI0.lnI (how := 3) (u := S 1 p.toNat) (a := c) n1 (by rw [hu0]; exact hut) (by rw [s0 10 (by omega)]; omega) ⟨by omega, by omega⟩ (by rw [hu0]; exact hul) hI0.tc (fun _ => ⟨r12, r13, r14⟩) (fun _ => by rw [r15, st0.1]) (fun w5 h5 fr5 => ?_))
      simp (disch := first | exact hR _ _ | exact x01a | exact x01b | (unfold x_r; omega) | assumption | omega) only [wK_send_149, wK_send_151, x_gi_int, x_ga_ref, x_ga_null, List.getElem?_cons_zero, List.getElem?_cons_succ, List.length_cons, List.length_nil, List.set_cons_zero, List.set_cons_succ, Nat.reduceAdd, Nat.reduceLT, xr_lt, xr_eq, xr_toInt, xr_0, xi_add, xi_sub, xi_mul, xr_div, xr_rm, Int.toNat_natCast, bd_t, true_and, and_true, not_false_eq_true, ↓reduceIte, ilt_t, ilt_f, ile_t, x_c1i, x_c1r, x_c1n, and_self, Option.toList_some, Option.toList_none, List.cons_append, List.nil_append, xr_01, xr_00, ieq_f, ieq_t]
      rw [← lid_waits (a := c) S0 t (how := 3) (by omega)] at h5
      exact hQ w5 A rfl h5 ((f4'.trans (k := 0) fr5 (by omega)).le (by omega))
  · rw [if_neg c4] at hQ
    rw [pv_r c4, ← fl2 (by omega)]
    obtain ⟨x1, x2, x3⟩ := firstL_is 16 (show 0 ≤ firstL S 4 (S 1 p.toNat) 16 from by unfold s_first at c4; omega)
    have fe : firstL S 4 (S 1 p.toNat) 16 = s_first S 4 (S 1 p.toNat) := rfl
    rw [fe] at x1 x2 x3
    obtain ⟨b, eb⟩ : ∃ b : Nat, s_first S 4 (S 1 p.toNat) = (b : Int) := ⟨(s_first S 4 (S 1 p.toNat)).toNat, by omega⟩
    rw [eb] at hQ x1 x2 x3 ⊢
    rw [Int.toNat_natCast] at x1 x2 x3
    simp (disch := first | exact hR _ _ | exact x01a | exact x01b | (unfold x_r; omega) | assumption | omega) only [wK_send_76, wK_send_76n, wK_send_78, wK_send_80n, wK_send_80, x_gi_int, x_ga_ref, x_ga_null, List.getElem?_cons_zero, List.getElem?_cons_succ, List.length_cons, List.length_nil, List.set_cons_zero, List.set_cons_succ, Nat.reduceAdd, Nat.reduceLT, xr_lt, xr_eq, xr_toInt, xr_0, xi_add, xi_sub, xi_mul, xr_div, xr_rm, Int.toNat_natCast, bd_t, true_and, and_true, not_false_eq_true, ↓reduceIte, ilt_t, ilt_f, ile_t, x_c1i, x_c1r, x_c1n, and_self, Option.toList_some, Option.toList_none, List.cons_append, List.nil_append, xr_01, xr_00, ieq_f, ieq_t]
    refine tail (.ref (A 2 (8 * (b : Int)))) (Or.inr ⟨_, rfl⟩) ?_
    have hub : us S0 2 (8 * (b : Int)) := us_thi (by omega) (by omega) ((hI0.1.2.2.2.2.2.1 b x1).2.1.1 (by rw [s0 10 (by omega)]; omega))
    have y15 := (h4'.thr2 (t := (b : Int)) hub).2 (Or.inr (by rw [Int.toNat_natCast, s0 10 (by omega)]; exact x2))
    rw [Int.toNat_natCast] at y15
    obtain ⟨⟨q0, -⟩, -⟩ := h4'.ker
    simp (disch := first | exact hR _ _ | exact x01a | exact x01b | (unfold x_r; omega) | assumption | omega) only [wK_send_133, wK_send_135n, wK_send_135, wK_send_152, wK_send_153, wK_send_155, x_gi_int, x_ga_ref, x_ga_null, List.getElem?_cons_zero, List.getElem?_cons_succ, List.length_cons, List.length_nil, List.set_cons_zero, List.set_cons_succ, Nat.reduceAdd, Nat.reduceLT, xr_lt, xr_eq, xr_toInt, xr_0, xi_add, xi_sub, xi_mul, xr_div, xr_rm, Int.toNat_natCast, bd_t, true_and, and_true, not_false_eq_true, ↓reduceIte, ilt_t, ilt_f, ile_t, x_c1i, x_c1r, x_c1n, and_self, Option.toList_some, Option.toList_none, List.cons_append, List.nil_append, xr_01, xr_00, ieq_f, ieq_t]
    refine wK_send_157 q0 (by simp) rfl rfl (k_transfer h4' hI0 n1 (by rw [s0 10 (by omega)]; omega) x1 (by rw [s0 10 (by omega)]; omega) r12 r13 r14 r15 y15 (fun w5 A5 hA5 h5 fr5 => ?_))
    have hI5 : Inv (s_transfer S0 t b) := hI0.transfer (by omega) (by omega) (by rw [Int.toNat_natCast, s0 10 (by omega)]; omega) (by omega) (by omega) (by rw [Int.toNat_natCast, s0 10 (by omega)]; omega)
    have l5 : lid (s_transfer S0 t b) = lid S0 := lid_o (transfer_e (by omega)) (transfer_e (by omega)) (transfer_e (by omega))
    rw [← l5] at h5
    have A2 : A5 2 = A 2 := hA5 2 (by omega) (by omega)
    have A12 : A5 12 = A 12 := hA5 12 (by omega) (by omega)
    obtain ⟨⟨z0, -⟩, -⟩ := h5.ker
    have kr := k_ready (P := P) h5 hI5 x1 (by rw [transfer_e (by omega), s0 10 (by omega)]; omega) (Q := fun v w' => WP P 48 166 [some (.ref (A 12 0)), some (.int (xi g)), some (.int (xi word)), some (.int (xi c)), some (.int (xi bl)), some (.ref (A 2 (8 * (t : Int)))), some (.ref (A 8 p)), some (.ref (A 3 (S 1 p.toNat))), some (.ref (A 2 (8 * (b : Int))))] (v.toList ++ []) w' Q) (fun w6 h6 fr6 => by
      simp (disch := first | exact hR _ _ | exact x01a | exact x01b | (unfold x_r; omega) | assumption | omega) only [wK_send_166, wK_send_167, x_gi_int, x_ga_ref, x_ga_null, List.getElem?_cons_zero, List.getElem?_cons_succ, List.length_cons, List.length_nil, List.set_cons_zero, List.set_cons_succ, Nat.reduceAdd, Nat.reduceLT, xr_lt, xr_eq, xr_toInt, xr_0, xi_add, xi_sub, xi_mul, xr_div, xr_rm, Int.toNat_natCast, bd_t, true_and, and_true, not_false_eq_true, ↓reduceIte, ilt_t, ilt_f, ile_t, x_c1i, x_c1r, x_c1n, and_self, Option.toList_some, Option.toList_none, List.cons_append, List.nil_append, xr_01, xr_00, ieq_f, ieq_t]
      exact hQ w6 A5 (by rw [A12]) h6 ((f4'.trans (k := 1) fr5 (by omega)).trans fr6 (by omega)))
    rw [A2, A12] at kr
    rw [A12] at z0
    simp (disch := first | exact hR _ _ | exact x01a | exact x01b | (unfold x_r; omega) | assumption | omega) only [wK_send_160, wK_send_161, x_gi_int, x_ga_ref, x_ga_null, List.getElem?_cons_zero, List.getElem?_cons_succ, List.length_cons, List.length_nil, List.set_cons_zero, List.set_cons_succ, Nat.reduceAdd, Nat.reduceLT, xr_lt, xr_eq, xr_toInt, xr_0, xi_add, xi_sub, xi_mul, xr_div, xr_rm, Int.toNat_natCast, bd_t, true_and, and_true, not_false_eq_true, ↓reduceIte, ilt_t, ilt_f, ile_t, x_c1i, x_c1r, x_c1n, and_self, Option.toList_some, Option.toList_none, List.cons_append, List.nil_append, xr_01, xr_00, ieq_f, ieq_t]
    exact wK_send_163 z0 (by simp) rfl rfl kr
end KX
