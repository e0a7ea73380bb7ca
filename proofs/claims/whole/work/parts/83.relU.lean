theorem hears_o {S : xS} {t n : Int} {j : Nat} (h : j < 15 ∨ 17 < j) : s_hears S t n j = S j := by
  unfold s_hears
  rw [sset_o (by omega), sset_o (by omega), sset_o (by omega)]
theorem fst_us {S : xS} {ln : Nat → Int} (h : LnI S ln) {l : Int} (l0 : 0 ≤ l) (hl : 0 ≤ fstL S ln l) : us S 2 (8 * fstL S ln l) ∧ fstL S ln l < 16 ∧ ln (fstL S ln l).toNat = l := by
  rcases mnI (S 18) (fun k => ln k = l) 16 with g | g
  · exact absurd (show fstL S ln l = -1 from g.1) (by omega)
  · have e : mnL (S 18) (fun k => ln k = l) 16 = fstL S ln l := rfl
    rw [e] at g
    have k := (h.2.1 (fstL S ln l).toNat (by omega) (by omega)).1
    rw [show (((fstL S ln l).toNat : Nat) : Int) = fstL S ln l by omega] at k
    exact ⟨k, g.2.1, g.2.2.1⟩
section KP
variable {P : xP} {w : xH} {Q : Option Value → xH → Prop} {A : xA} {S : xS} {ln : Nat → Int}
set_option maxHeartbeats 4000000 in
theorem k_ring (h : Rel w A S (lid S)) (hI : Inv S) {u n : Int} (hu : hd S 4 u) (hn : 0 ≤ n ∧ n < 512) {l3 : Option Value} (hQ : ∀ w', Rel w' A (s_ring S u n) (lid (s_ring S u n)) → Fr w w' 0 → Q none w') : WP P 55 0 [some (.ref (A 12 0)), some (.ref (A 4 u)), some (.int (xi n)), l3] [] w Q := by
  obtain ⟨⟨t0, t1, t2, t3, t4⟩, f0, f1, f2, f3⟩ := h.ker
  have hR := hI.1.1
  have hA := hI.1.2.1
  have hus : us S 4 u := us_thi (by omega) (by omega) hu
  have hu0 := hA.hd hu
  obtain ⟨b0, b1, b2, b3, b4⟩ := h.bel hus
  have hb : x_has w (A 4 u) [7] := ⟨_, _, b0, by decide⟩
  have hul : us S 9 (u + 4) := us_lin (Or.inr (Or.inr (by rw [show u + 4 - 4 = u by omega]; exact hu)))
  obtain ⟨fl1, fl2⟩ := first_lin hI (u := u) (how := 5) (Or.inr ⟨rfl, hu⟩)
  have si := s_first_in S 5 u
  simp (disch := first | exact hR _ _ | exact x01a | exact x01b | (unfold x_r; omega) | assumption | omega) only [wK_ring_0, wK_ring_1, wK_ring_4, hb, b3, x_gi_int, x_ga_ref, x_ga_null, List.getElem?_cons_zero, List.getElem?_cons_succ, List.length_cons, List.length_nil, List.set_cons_zero, List.set_cons_succ, Nat.reduceAdd, Nat.reduceLT, xr_lt, xr_eq, xr_toInt, xr_0, xi_add, xi_sub, xi_mul, xr_div, xr_rm, Int.toNat_natCast, bd_t, true_and, and_true, not_false_eq_true, ↓reduceIte, ilt_t, ilt_f, ile_t, x_c1i, x_c1r, x_c1n, and_self, Option.toList_some, Option.toList_none, List.cons_append, List.nil_append, xr_01, xr_00, ieq_f, ieq_t]
  refine wK_ring_5 (by simp) rfl rfl (k_firstWaiting h hul (fun g => (fst_us hI.lnI (by omega) g).1) hR ⟨by omega, by omega⟩ ?_)
  rw [fl1]
  unfold s_ring at hQ
  by_cases c : s_first S 5 u < 0
  · rw [if_pos c] at hQ
    rw [pv_n c]
    have bb := hI.1.2.2.2.2.2.2.2.2.2.2.2.1 (u / 2).toNat (by omega)
    have xo := xr_or (a := S 24 (u / 2).toNat) (b := n) bb.1 hn.1
    simp (disch := first | exact hR _ _ | exact x01a | exact x01b | (unfold x_r; omega) | assumption | omega) only [wK_ring_8, wK_ring_8n, wK_ring_9, wK_ring_10n, wK_ring_10, wK_ring_13, wK_ring_14, wK_ring_15, wK_ring_18, wK_ring_19, wK_ring_20, wK_ring_23, hb, b4, xo, x_f0, x_gi_int, x_ga_ref, x_ga_null, List.getElem?_cons_zero, List.getElem?_cons_succ, List.length_cons, List.length_nil, List.set_cons_zero, List.set_cons_succ, Nat.reduceAdd, Nat.reduceLT, xr_lt, xr_eq, xr_toInt, xr_0, xi_add, xi_sub, xi_mul, xr_div, xr_rm, Int.toNat_natCast, bd_t, true_and, and_true, not_false_eq_true, ↓reduceIte, ilt_t, ilt_f, ile_t, x_c1i, x_c1r, x_c1n, and_self, Option.toList_some, Option.toList_none, List.cons_append, List.nil_append, xr_01, xr_00, ieq_f, ieq_t]
    have h1 := h.bellw hA (v := s_or (S 24 (u / 2).toNat) n) hu
    refine hQ _ ?_ (h.frp (Fr.refl w) hus 3 _)
    rw [lid_o (sset_o (by omega)) (sset_o (by omega)) (sset_o (by omega))]
    exact h1
  · rw [if_neg c] at hQ
    rw [pv_r c, ← fl2 (by omega)]
    obtain ⟨x1, x2, x3⟩ := firstL_is 16 (show 0 ≤ firstL S 5 u 16 from by unfold s_first at c; omega)
    have fe : firstL S 5 u 16 = s_first S 5 u := rfl
    rw [fe] at x1 x2 x3
    obtain ⟨t, et⟩ : ∃ t : Nat, s_first S 5 u = (t : Int) := ⟨(s_first S 5 u).toNat, by omega⟩
    rw [et] at hQ x1 x2 x3 ⊢
    rw [Int.toNat_natCast] at x1 x2 x3
    have hut : us S 2 (8 * (t : Int)) := us_thi (by omega) (by omega) ((hI.1.2.2.2.2.2.1 t x1).2.1.1 (by omega))
    obtain ⟨z0, -⟩ := h.thr hut
    simp (disch := first | exact hR _ _ | exact x01a | exact x01b | (unfold x_r; omega) | assumption | omega) only [wK_ring_8, wK_ring_8n, wK_ring_9, wK_ring_10n, wK_ring_10, wK_ring_24, wK_ring_25, x_gi_int, x_ga_ref, x_ga_null, List.getElem?_cons_zero, List.getElem?_cons_succ, List.length_cons, List.length_nil, List.set_cons_zero, List.set_cons_succ, Nat.reduceAdd, Nat.reduceLT, xr_lt, xr_eq, xr_toInt, xr_0, xi_add, xi_sub, xi_mul, xr_div, xr_rm, Int.toNat_natCast, bd_t, true_and, and_true, not_false_eq_true, ↓reduceIte, ilt_t, ilt_f, ile_t, x_c1i, x_c1r, x_c1n, and_self, Option.toList_some, Option.toList_none, List.cons_append, List.nil_append, xr_01, xr_00, ieq_f, ieq_t]
    refine wK_ring_26 z0 (by simp) rfl rfl (k_hear h hA hut (fun w1 h1 fr1 => ?_))
    have hI1 : Inv (s_hears S t n) := hI.hears ⟨by omega, by omega⟩
    have l1 : lid (s_hears S t n) = lid S := lid_o (hears_o (by omega)) (hears_o (by omega)) (hears_o (by omega))
    rw [← l1] at h1
    simp (disch := first | exact hR _ _ | exact x01a | exact x01b | (unfold x_r; omega) | assumption | omega) only [wK_ring_29, wK_ring_30, x_gi_int, x_ga_ref, x_ga_null, List.getElem?_cons_zero, List.getElem?_cons_succ, List.length_cons, List.length_nil, List.set_cons_zero, List.set_cons_succ, Nat.reduceAdd, Nat.reduceLT, xr_lt, xr_eq, xr_toInt, xr_0, xi_add, xi_sub, xi_mul, xr_div, xr_rm, Int.toNat_natCast, bd_t, true_and, and_true, not_false_eq_true, ↓reduceIte, ilt_t, ilt_f, ile_t, x_c1i, x_c1r, x_c1n, and_self, Option.toList_some, Option.toList_none, List.cons_append, List.nil_append, xr_01, xr_00, ieq_f, ieq_t]
    refine wK_ring_31 h1.ker.1.1 (by simp) rfl rfl (k_ready h1 hI1 x1 (by rw [hears_o (by omega), x2]; omega) (fun w2 h2 fr2 => ?_))
    simp (disch := first | exact hR _ _ | exact x01a | exact x01b | (unfold x_r; omega) | assumption | omega) only [wK_ring_34, x_gi_int, x_ga_ref, x_ga_null, List.getElem?_cons_zero, List.getElem?_cons_succ, List.length_cons, List.length_nil, List.set_cons_zero, List.set_cons_succ, Nat.reduceAdd, Nat.reduceLT, xr_lt, xr_eq, xr_toInt, xr_0, xi_add, xi_sub, xi_mul, xr_div, xr_rm, Int.toNat_natCast, bd_t, true_and, and_true, not_false_eq_true, ↓reduceIte, ilt_t, ilt_f, ile_t, x_c1i, x_c1r, x_c1n, and_self, Option.toList_some, Option.toList_none, List.cons_append, List.nil_append, xr_01, xr_00, ieq_f, ieq_t]
    exact hQ w2 h2 (fr1.trans fr2 (by omega))
set_option maxHeartbeats 4000000 in
theorem k_interrupt (h : Rel w A S (lid S)) (hI : Inv S) {n : Int} (hn : x_r n) {l2 : Option Value} (hQ : ∀ w', Rel w' A (s_interrupt S n).2 (lid (s_interrupt S n).2) → Fr w w' 0 → Q (some (.int (xi (s_interrupt S n).1))) w') : WP P 66 0 [some (.ref (A 12 0)), some (.int (xi n)), l2] [] w Q := by
  obtain ⟨⟨t0, t1, t2, t3, t4⟩, f0, f1, f2, f3⟩ := h.ker
  have hk : x_has w (A 12 0) [0] := ⟨_, _, t0, by decide⟩
  have hR := hI.1.1
  have hA := hI.1.2.1
  unfold s_interrupt at hQ
  unfold x_r at hn
  by_cases c1 : n < 0
  · rw [if_pos c1] at hQ
    simp (disch := first | exact hR _ _ | exact x01a | exact x01b | (unfold x_r; omega) | assumption | omega) only [wK_interrupt_0, wK_interrupt_1, wK_interrupt_9, wK_interrupt_10, x_gi_int, x_ga_ref, x_ga_null, List.getElem?_cons_zero, List.getElem?_cons_succ, List.length_cons, List.length_nil, List.set_cons_zero, List.set_cons_succ, Nat.reduceAdd, Nat.reduceLT, xr_lt, xr_eq, xr_toInt, xr_0, xi_add, xi_sub, xi_mul, xr_div, xr_rm, Int.toNat_natCast, bd_t, true_and, and_true, not_false_eq_true, ↓reduceIte, ilt_t, ilt_f, ile_t, x_c1i, x_c1r, x_c1n, and_self, Option.toList_some, Option.toList_none, List.cons_append, List.nil_append, xr_01, xr_00, ieq_f, ieq_t]
    exact hQ w h (Fr.refl w)
  rw [if_neg c1] at hQ
  by_cases c2 : 3 < n
  · rw [if_pos c2] at hQ
    simp (disch := first | exact hR _ _ | exact x01a | exact x01b | (unfold x_r; omega) | assumption | omega) only [wK_interrupt_0, wK_interrupt_1, wK_interrupt_4, wK_interrupt_5, wK_interrupt_6, wK_interrupt_9, wK_interrupt_10, x_gi_int, x_ga_ref, x_ga_null, List.getElem?_cons_zero, List.getElem?_cons_succ, List.length_cons, List.length_nil, List.set_cons_zero, List.set_cons_succ, Nat.reduceAdd, Nat.reduceLT, xr_lt, xr_eq, xr_toInt, xr_0, xi_add, xi_sub, xi_mul, xr_div, xr_rm, Int.toNat_natCast, bd_t, true_and, and_true, not_false_eq_true, ↓reduceIte, ilt_t, ilt_f, ile_t, x_c1i, x_c1r, x_c1n, and_self, Option.toList_some, Option.toList_none, List.cons_append, List.nil_append, xr_01, xr_00, ieq_f, ieq_t]
    exact hQ w h (Fr.refl w)
  rw [if_neg c2] at hQ
  have bb := h.bbs (q := n.toNat) (by omega)
  have ec := x_cle (e := n) (by omega) (by omega)
  have nn := x_nn (e := n) (by omega) (by omega)
  have nc := x_clt (e := n) (n := 4) (by omega) (by omega) (by omega)
  have hb := hI.1.2.2.2.2.2.2.2.2.2.2.2.2 n.toNat (by omega)
  by_cases c3 : S 27 n.toNat = -1
  · rw [if_pos c3] at hQ
    rw [pv_n (by omega)] at bb
    simp (disch := first | exact hR _ _ | exact x01a | exact x01b | (unfold x_r; omega) | assumption | omega) only [wK_interrupt_0, wK_interrupt_1, wK_interrupt_4, wK_interrupt_5, wK_interrupt_6, wK_interrupt_11, wK_interrupt_12, wK_interrupt_15, wK_interrupt_16 t4 (by omega) nn nc, wK_interrupt_17, wK_interrupt_17n, wK_interrupt_18, wK_interrupt_19n, wK_interrupt_19, wK_interrupt_22, wK_interrupt_23, hk, f3, ec, bb, x_gi_int, x_ga_ref, x_ga_null, List.getElem?_cons_zero, List.getElem?_cons_succ, List.length_cons, List.length_nil, List.set_cons_zero, List.set_cons_succ, Nat.reduceAdd, Nat.reduceLT, xr_lt, xr_eq, xr_toInt, xr_0, xi_add, xi_sub, xi_mul, xr_div, xr_rm, Int.toNat_natCast, bd_t, true_and, and_true, not_false_eq_true, ↓reduceIte, ilt_t, ilt_f, ile_t, x_c1i, x_c1r, x_c1n, and_self, Option.toList_some, Option.toList_none, List.cons_append, List.nil_append, xr_01, xr_00, ieq_f, ieq_t]
    exact hQ w h (Fr.refl w)
  rw [if_neg c3] at hQ
  have hb := hb.resolve_left c3
  have hb0 := hA.hd hb
  rw [pv_r (by omega)] at bb
  have sh := xr_shl (b := n) (by omega) (by omega)
  have p2 : 0 ≤ (2 : Int) ^ n.toNat ∧ (2 : Int) ^ n.toNat < 512 := by
    rcases (by omega : n = 0 ∨ n = 1 ∨ n = 2 ∨ n = 3) with rfl | rfl | rfl | rfl <;> decide
  simp (disch := first | exact hR _ _ | exact x01a | exact x01b | (unfold x_r; omega) | assumption | omega) only [wK_interrupt_0, wK_interrupt_1, wK_interrupt_4, wK_interrupt_5, wK_interrupt_6, wK_interrupt_11, wK_interrupt_12, wK_interrupt_15, wK_interrupt_16 t4 (by omega) nn nc, wK_interrupt_17, wK_interrupt_17n, wK_interrupt_18, wK_interrupt_19n, wK_interrupt_19, wK_interrupt_24, wK_interrupt_25, wK_interrupt_26, wK_interrupt_27, wK_interrupt_28, hk, f3, ec, bb, sh, x_gi_int, x_ga_ref, x_ga_null, List.getElem?_cons_zero, List.getElem?_cons_succ, List.length_cons, List.length_nil, List.set_cons_zero, List.set_cons_succ, Nat.reduceAdd, Nat.reduceLT, xr_lt, xr_eq, xr_toInt, xr_0, xi_add, xi_sub, xi_mul, xr_div, xr_rm, Int.toNat_natCast, bd_t, true_and, and_true, not_false_eq_true, ↓reduceIte, ilt_t, ilt_f, ile_t, x_c1i, x_c1r, x_c1n, and_self, Option.toList_some, Option.toList_none, List.cons_append, List.nil_append, xr_01, xr_00, ieq_f, ieq_t]
  refine wK_interrupt_29 t0 (by simp) rfl rfl (k_ring h hI hb p2 (fun w1 h1 fr1 => ?_))
  simp (disch := first | exact hR _ _ | exact x01a | exact x01b | (unfold x_r; omega) | assumption | omega) only [wK_interrupt_32, wK_interrupt_33, x_gi_int, x_ga_ref, x_ga_null, List.getElem?_cons_zero, List.getElem?_cons_succ, List.length_cons, List.length_nil, List.set_cons_zero, List.set_cons_succ, Nat.reduceAdd, Nat.reduceLT, xr_lt, xr_eq, xr_toInt, xr_0, xi_add, xi_sub, xi_mul, xr_div, xr_rm, Int.toNat_natCast, bd_t, true_and, and_true, not_false_eq_true, ↓reduceIte, ilt_t, ilt_f, ile_t, x_c1i, x_c1r, x_c1n, and_self, Option.toList_some, Option.toList_none, List.cons_append, List.nil_append, xr_01, xr_00, ieq_f, ieq_t]
  exact hQ w1 h1 fr1
set_option maxHeartbeats 4000000 in
theorem k_tick (h : Rel w A S (lid S)) (hI : Inv S) (hC : S 28 0 < 2000000000) {l1 : Option Value} (hQ : ∀ w', Rel w' A (s_tick S).2 (lid (s_tick S).2) → Fr w w' 0 → Q (some (.int (xi (s_tick S).1))) w') : WP P 67 0 [some (.ref (A 12 0)), l1] [] w Q := by
  obtain ⟨⟨t0, t1, t2, t3, t4⟩, f0, f1, f2, f3⟩ := h.ker
  have hR := hI.1.1
  have hA := hI.1.2.1
  have hn := s_now_in S
  have fin : ∀ (T : xS) (w' : xH) (lo : List (Option Value)), lo[0]? = some (some (.ref (A 12 0))) → Inv T → Rel w' A T (lid T) → Q (some (.int (xi (s_current T)))) w' → WP P 67 31 lo [] w' Q := by
    intro T w' lo hlo hT h' hq
    obtain ⟨⟨t0, -⟩, -⟩ := h'.ker
    have hR : RgS T := hT.1.1
    have hnT := s_now_in T
    simp (disch := first | exact hR _ _ | exact x01a | exact x01b | (unfold x_r; omega) | assumption | omega) only [wK_tick_31, hlo, x_gi_int, x_ga_ref, x_ga_null, List.getElem?_cons_zero, List.getElem?_cons_succ, List.length_cons, List.length_nil, List.set_cons_zero, List.set_cons_succ, Nat.reduceAdd, Nat.reduceLT, xr_lt, xr_eq, xr_toInt, xr_0, xi_add, xi_sub, xi_mul, xr_div, xr_rm, Int.toNat_natCast, bd_t, true_and, and_true, not_false_eq_true, ↓reduceIte, ilt_t, ilt_f, ile_t, x_c1i, x_c1r, x_c1n, and_self, Option.toList_some, Option.toList_none, List.cons_append, List.nil_append, xr_01, xr_00, ieq_f, ieq_t]
    refine wK_tick_32 t0 (by simp) rfl rfl (k_currentThread h' hT ?_)
    simp (disch := first | exact hR _ _ | exact x01a | exact x01b | (unfold x_r; omega) | assumption | omega) only [x_gi_int, x_ga_ref, x_ga_null, List.getElem?_cons_zero, List.getElem?_cons_succ, List.length_cons, List.length_nil, List.set_cons_zero, List.set_cons_succ, Nat.reduceAdd, Nat.reduceLT, xr_lt, xr_eq, xr_toInt, xr_0, xi_add, xi_sub, xi_mul, xr_div, xr_rm, Int.toNat_natCast, bd_t, true_and, and_true, not_false_eq_true, ↓reduceIte, ilt_t, ilt_f, ile_t, x_c1i, x_c1r, x_c1n, and_self, Option.toList_some, Option.toList_none, List.cons_append, List.nil_append, xr_01, xr_00, ieq_f, ieq_t]
    refine wK_tick_35 (by simp) (by unfold pv; split <;> rfl) rfl (k_unitOf (u := 8 * s_now T) (fun c => ?_) ?_)
    · obtain ⟨k1, k2⟩ := now_is c
      obtain ⟨u0, u1, u2, -⟩ := h'.thr (t := s_now T) (us_thr hT (by omega) (by omega) (by omega))
      exact ⟨⟨_, _, u0, by decide⟩, u2⟩
    · simp (disch := first | exact hR _ _ | exact x01a | exact x01b | (unfold x_r; omega) | assumption | omega) only [wK_tick_38, x_gi_int, x_ga_ref, x_ga_null, List.getElem?_cons_zero, List.getElem?_cons_succ, List.length_cons, List.length_nil, List.set_cons_zero, List.set_cons_succ, Nat.reduceAdd, Nat.reduceLT, xr_lt, xr_eq, xr_toInt, xr_0, xi_add, xi_sub, xi_mul, xr_div, xr_rm, Int.toNat_natCast, bd_t, true_and, and_true, not_false_eq_true, ↓reduceIte, ilt_t, ilt_f, ile_t, x_c1i, x_c1r, x_c1n, and_self, Option.toList_some, Option.toList_none, List.cons_append, List.nil_append, xr_01, xr_00, ieq_f, ieq_t]
      exact hq
  unfold s_tick at hQ
  simp (disch := first | exact hR _ _ | exact x01a | exact x01b | (unfold x_r; omega) | assumption | omega) only [wK_tick_0, x_gi_int, x_ga_ref, x_ga_null, List.getElem?_cons_zero, List.getElem?_cons_succ, List.length_cons, List.length_nil, List.set_cons_zero, List.set_cons_succ, Nat.reduceAdd, Nat.reduceLT, xr_lt, xr_eq, xr_toInt, xr_0, xi_add, xi_sub, xi_mul, xr_div, xr_rm, Int.toNat_natCast, bd_t, true_and, and_true, not_false_eq_true, ↓reduceIte, ilt_t, ilt_f, ile_t, x_c1i, x_c1r, x_c1n, and_self, Option.toList_some, Option.toList_none, List.cons_append, List.nil_append, xr_01, xr_00, ieq_f, ieq_t]
  refine wK_tick_1 t0 (by simp) rfl rfl (k_currentThread h hI ?_)
  by_cases c1 : s_now S < 0
  · rw [if_pos c1] at hQ
    rw [pv_n c1]
    simp (disch := first | exact hR _ _ | exact x01a | exact x01b | (unfold x_r; omega) | assumption | omega) only [wK_tick_4, wK_tick_4n, wK_tick_5, wK_tick_6n, wK_tick_6, x_gi_int, x_ga_ref, x_ga_null, List.getElem?_cons_zero, List.getElem?_cons_succ, List.length_cons, List.length_nil, List.set_cons_zero, List.set_cons_succ, Nat.reduceAdd, Nat.reduceLT, xr_lt, xr_eq, xr_toInt, xr_0, xi_add, xi_sub, xi_mul, xr_div, xr_rm, Int.toNat_natCast, bd_t, true_and, and_true, not_false_eq_true, ↓reduceIte, ilt_t, ilt_f, ile_t, x_c1i, x_c1r, x_c1n, and_self, Option.toList_some, Option.toList_none, List.cons_append, List.nil_append, xr_01, xr_00, ieq_f, ieq_t]
    refine fin S w _ rfl hI h ?_
    have e : s_current S = -1 := if_pos c1
    rw [e]
    exact hQ w h (Fr.refl w)
  rw [if_neg c1] at hQ
  rw [pv_r c1]
  obtain ⟨n1, n2⟩ := now_is c1
  obtain ⟨t, et⟩ : ∃ t : Nat, s_now S = (t : Int) := ⟨(s_now S).toNat, by omega⟩
  rw [et] at n1 n2 hQ ⊢
  rw [Int.toNat_natCast] at n1 n2 hQ
  have tb := hI.1.2.2.2.2.2.2.1 t n1 (by omega)
  have sl := tb.2.2.2.2.2 n2
  have hut : us S 2 (8 * (t : Int)) := us_thi (by omega) (by omega) ((hI.1.2.2.2.2.2.1 t n1).2.1.1 (by omega))
  obtain ⟨z0, z1, z2, z3, z4, z5, z6, z7, -⟩ := h.thr hut
  rw [Int.toNat_natCast] at z7
  have hz : x_has w (A 2 (8 * (t : Int))) [2] := ⟨_, _, z0, by decide⟩
  have h1 := h.tint hA hut (j := 14) (f := 6) (v := S 14 t - 1) (by omega)
  have l1 : lid (sset S 14 t (S 14 t - 1)) = lid S := lid_o (sset_o (by omega)) (sset_o (by omega)) (sset_o (by omega))
  rw [← l1] at h1
  have fr1 := h.frp (Fr.refl w) hut 6 (.int (xi (S 14 t - 1)))
  by_cases c2 : S 14 t - 1 = 0
  · rw [if_pos c2, ready_14] at hQ
    have e1 : S 14 t = 1 := by omega
    have e2 : sset S 14 t (S 14 t - 1) = sset S 14 t 0 := by rw [c2]
    have c3 : (1 : Int) - 1 = 0 := by omega
    rw [e1] at z7
    rw [e2, c2] at h1
    rw [c2] at fr1
    simp (disch := first | exact hR _ _ | exact x01a | exact x01b | (unfold x_r; omega) | assumption | omega) only [wK_tick_4, wK_tick_4n, wK_tick_5, wK_tick_6n, wK_tick_6, wK_tick_9, wK_tick_10, wK_tick_11, wK_tick_14, wK_tick_15, wK_tick_16, wK_tick_19, wK_tick_20, wK_tick_23, wK_tick_26, wK_tick_27, x_has_put, x_fd_put, x_f0, hz, z7, c3, sset_at, Nat.reduceEqDiff, false_and, and_false, eq_self, and_self, reduceCtorEq, x_gi_int, x_ga_ref, x_ga_null, List.getElem?_cons_zero, List.getElem?_cons_succ, List.length_cons, List.length_nil, List.set_cons_zero, List.set_cons_succ, Nat.reduceAdd, Nat.reduceLT, xr_lt, xr_eq, xr_toInt, xr_0, xi_add, xi_sub, xi_mul, xr_div, xr_rm, Int.toNat_natCast, bd_t, true_and, and_true, not_false_eq_true, ↓reduceIte, ilt_t, ilt_f, ile_t, x_c1i, x_c1r, x_c1n, and_self, Option.toList_some, Option.toList_none, List.cons_append, List.nil_append, xr_01, xr_00, ieq_f, ieq_t]
    -- the slice is at its end: S with 0 is no state of ours, but becoming ready asks only for what holds
    have hA1 : CapA (sset S 14 t 0) := hA.cg (sset_o (by omega)) (sset_o (by omega)) (sset_o (by omega)) (sset_o (by omega)) (sset_o (by omega)) (sset_o (by omega))
    have eu := us_cg (S := S) (S' := sset S 14 t 0) (sset_o (by omega)) (sset_o (by omega))
    have hI1 : LnI (sset S 14 t 0) (lid (sset S 14 t 0)) := by
      have q := hI.lnI
      rw [← e2, l1]
      refine ⟨q.1, fun k hk g => by rw [e2, eu]; exact q.2.1 k hk g, fun x y hx hy hne g g' => ?_⟩
      rw [e2, sset_o (by omega)]
      exact q.2.2 x y hx hy hne g g'
    have l1' : lid (sset S 14 t 0) = lid S := by rw [← e2]; exact l1
    refine wK_tick_28 t0 (by simp) rfl rfl (k_becomeReady h1 hA1 (hR.set x_r_0) hI1 n1 (by rw [eu]; exact hut) (by rw [sset_o (by omega)]; exact tb.1) (by rw [sset_o (by omega)]; omega) (fun k hk g => ?_) (fun w2 h2 fr2 => ?_))
    · rw [l1'] at g
      rw [sset_o (by omega), sset_o (by omega)]
      exact hI.tc k hk g
    · have e3 : s_ready (sset S 14 t 0) t = s_ready S t := ready_14 S t 0
      rw [e3, l1', sset_o (by omega), ← lid_ready] at h2
      have hI2 : Inv (s_ready S t) := hI.ready hC n1 (by omega)
      simp only [Option.toList_none, List.nil_append]
      exact fin (s_ready S t) w2 _ rfl hI2 h2 (hQ w2 h2 (fr1.trans fr2 (by omega)))
  · rw [if_neg c2] at hQ
    have hI1 : Inv (sset S 14 t (S 14 t - 1)) := hI.slice ⟨by omega, by omega⟩
    simp (disch := first | exact hR _ _ | exact x01a | exact x01b | (unfold x_r; omega) | assumption | omega) only [wK_tick_4, wK_tick_4n, wK_tick_5, wK_tick_6n, wK_tick_6, wK_tick_9, wK_tick_10, wK_tick_11, wK_tick_14, wK_tick_15, wK_tick_16, wK_tick_19, wK_tick_20, wK_tick_23, x_has_put, x_fd_put, x_f0, hz, z7, c2, sset_at, Nat.reduceEqDiff, false_and, and_false, eq_self, and_self, reduceCtorEq, x_gi_int, x_ga_ref, x_ga_null, List.getElem?_cons_zero, List.getElem?_cons_succ, List.length_cons, List.length_nil, List.set_cons_zero, List.set_cons_succ, Nat.reduceAdd, Nat.reduceLT, xr_lt, xr_eq, xr_toInt, xr_0, xi_add, xi_sub, xi_mul, xr_div, xr_rm, Int.toNat_natCast, bd_t, true_and, and_true, not_false_eq_true, ↓reduceIte, ilt_t, ilt_f, ile_t, x_c1i, x_c1r, x_c1n, and_self, Option.toList_some, Option.toList_none, List.cons_append, List.nil_append, xr_01, xr_00, ieq_f, ieq_t]
    exact fin _ _ _ rfl hI1 h1 (hQ _ h1 fr1)
end KP
