def s_hk (S : xS) (t : Nat) (a k : Int) : Int := if s_hv S t a < 0 then -1 else if S 0 (s_hv S t a).toNat = k then s_hv S t a else -1
theorem having_hk {S : xS} {a k : Int} (hk : 0 ≤ k) : s_having S a k = s_hk S (s_now S).toNat a k := by
  rw [having_k hk, having_hv]
  rfl
theorem s_hv_is {S : xS} (hI : Inv S) {t : Nat} (ht : t < 16) (a : Int) : -1 ≤ s_hv S t a ∧ s_hv S t a < 128 ∧ (¬ s_hv S t a < 0 → 0 ≤ S 0 (s_hv S t a).toNat) := by
  have := s_find_in hI.gs.1 ht a
  unfold s_hv
  split
  · exact ⟨by omega, by omega, fun c => by omega⟩
  · split
    · exact ⟨by omega, by omega, fun c => by omega⟩
    · exact ⟨by omega, by omega, fun _ => by omega⟩
theorem thA_k {A : xA} {S : xS} {p k : Int} (h : S 0 p.toNat = k) (hk : k ≠ 0) : thA A S p = A k (S 1 p.toNat) := by
  unfold thA
  rw [h, if_neg hk]
theorem tgK_is {k : Int} (h0 : 0 ≤ k) (h1 : k ≤ 7) : ((tgK k 0).1 = 2 ↔ k = 2) ∧ ((tgK k 0).1 = 5 ↔ k = 1) ∧ ((tgK k 0).1 = 8 ↔ k = 5) ∧ ((tgK k 0).1 = 7 ↔ k = 4) ∧ ((tgK k 0).1 = 4 ↔ k = 0) ∧ ((tgK k 0).1 = 6 ↔ k = 3) ∧ ((tgK k 0).1 = 9 ↔ k = 6) := by
  rcases (by omega : k = 0 ∨ k = 1 ∨ k = 2 ∨ k = 3 ∨ k = 4 ∨ k = 5 ∨ k = 6 ∨ k = 7) with rfl | rfl | rfl | rfl | rfl | rfl | rfl | rfl <;> decide
section KD
variable {P : xP} {w : xH} {Q : Option Value → xH → Prop} {A : xA} {S : xS} {ln : Nat → Int}
set_option maxHeartbeats 4000000 in
theorem k_threadAt (h : Rel w A S ln) (hI : Inv S) {t a : Int} (h0 : 0 ≤ t) (h1 : t < 16) (hl : S 10 t.toNat ≠ 0) (ha : x_r a) {l3 l4 l5 : Option Value} (hQ : Q (some (pv (s_hk S t.toNat a 2) (A 2 (S 1 (s_hk S t.toNat a 2).toNat)))) w) : WP P 43 0 [some (.ref (A 12 0)), some (.ref (A 2 (8 * t))), some (.int (xi a)), l3, l4, l5] [] w Q := by
  obtain ⟨⟨t0, t1, t2, t3, t4⟩, -⟩ := h.ker
  have hb := s_hv_is hI (t := t.toNat) (by omega) a
  have hR := hI.1.1
  have hA := hI.1.2.1
  simp (disch := first | exact hR _ _ | exact x01a | exact x01b | (unfold x_r; omega) | assumption | omega) only [wK_threadAt_0, wK_threadAt_1, wK_threadAt_2, x_gi_int, x_ga_ref, x_ga_null, List.getElem?_cons_zero, List.getElem?_cons_succ, List.length_cons, List.length_nil, List.set_cons_zero, List.set_cons_succ, Nat.reduceAdd, Nat.reduceLT, xr_lt, xr_eq, xr_toInt, xr_0, xi_add, xi_sub, xi_mul, xr_div, xr_rm, Int.toNat_natCast, bd_t, true_and, and_true, not_false_eq_true, ↓reduceIte, ilt_t, ilt_f, ile_t, x_c1i, x_c1r, x_c1n, and_self, Option.toList_some, Option.toList_none, List.cons_append, List.nil_append, xr_01, xr_00, ieq_f, ieq_t]
  refine wK_threadAt_3 t0 (by simp) rfl rfl (k_capabilityAt h hI h0 h1 hl ha ?_)
  unfold s_hk at hQ
  generalize s_hv S t.toNat a = p at *
  by_cases c1 : p < 0
  · rw [if_pos c1, pv_n (by omega)] at hQ
    rw [pv_n c1]
    simp (disch := first | exact hR _ _ | exact x01a | exact x01b | (unfold x_r; omega) | assumption | omega) only [wK_threadAt_6, wK_threadAt_6n, wK_threadAt_7, wK_threadAt_8n, wK_threadAt_8, wK_threadAt_37, wK_threadAt_38n, wK_threadAt_38, x_gi_int, x_ga_ref, x_ga_null, List.getElem?_cons_zero, List.getElem?_cons_succ, List.length_cons, List.length_nil, List.set_cons_zero, List.set_cons_succ, Nat.reduceAdd, Nat.reduceLT, xr_lt, xr_eq, xr_toInt, xr_0, xi_add, xi_sub, xi_mul, xr_div, xr_rm, Int.toNat_natCast, bd_t, true_and, and_true, not_false_eq_true, ↓reduceIte, ilt_t, ilt_f, ile_t, x_c1i, x_c1r, x_c1n, and_self, Option.toList_some, Option.toList_none, List.cons_append, List.nil_append, xr_01, xr_00, ieq_f, ieq_t]
    exact hQ
  rw [if_neg c1] at hQ
  rw [pv_r c1]
  obtain ⟨ct, cf0, -⟩ := h.cap (p := p) (by omega) (by omega) (hb.2.2 c1)
  obtain ⟨n, g0, g1, g2, g3⟩ := h.thg hA (p := p) (by omega) (by omega) (hb.2.2 c1)
  have hc : x_has w (A 8 p) [1] := ⟨_, _, ct, by decide⟩
  have k7 := (hA p.toNat (by omega)).1
  have ti := (tgK_is (hb.2.2 c1) k7.2.1).1
  by_cases c2 : S 0 p.toNat = 2
  · rw [if_pos c2, pv_r c1] at hQ
    have tt := ti.2 c2
    rw [tt] at g0 g1
    rw [thA_k c2 (by omega)] at cf0 g0
    simp (disch := first | exact hR _ _ | exact x01a | exact x01b | (unfold x_r; omega) | assumption | omega) only [wK_threadAt_6, wK_threadAt_6n, wK_threadAt_7, wK_threadAt_8n, wK_threadAt_8, wK_threadAt_11, wK_threadAt_12, wK_threadAt_15, wK_threadAt_15n, wK_threadAt_17, wK_threadAt_19 g0 g1, wK_threadAt_22, wK_threadAt_25, wK_threadAt_27 g0, wK_threadAt_30, wK_threadAt_30n, wK_threadAt_32, wK_threadAt_34, wK_threadAt_38n, wK_threadAt_38, hc, cf0, tt, x_gi_int, x_ga_ref, x_ga_null, List.getElem?_cons_zero, List.getElem?_cons_succ, List.length_cons, List.length_nil, List.set_cons_zero, List.set_cons_succ, Nat.reduceAdd, Nat.reduceLT, xr_lt, xr_eq, xr_toInt, xr_0, xi_add, xi_sub, xi_mul, xr_div, xr_rm, Int.toNat_natCast, bd_t, true_and, and_true, not_false_eq_true, ↓reduceIte, ilt_t, ilt_f, ile_t, x_c1i, x_c1r, x_c1n, and_self, Option.toList_some, Option.toList_none, List.cons_append, List.nil_append, xr_01, xr_00, ieq_f, ieq_t]
    exact hQ
  · rw [if_neg c2, pv_n (by omega)] at hQ
    have tt : ¬ (tgK (S 0 p.toNat) 0).1 = 2 := fun x => c2 (ti.1 x)
    simp (disch := first | exact hR _ _ | exact x01a | exact x01b | (unfold x_r; omega) | assumption | omega) only [wK_threadAt_6, wK_threadAt_6n, wK_threadAt_7, wK_threadAt_8n, wK_threadAt_8, wK_threadAt_11, wK_threadAt_12, wK_threadAt_15, wK_threadAt_15n, wK_threadAt_17, wK_threadAt_19 g0 g1, wK_threadAt_22, wK_threadAt_37, wK_threadAt_38n, wK_threadAt_38, hc, cf0, tt, x_gi_int, x_ga_ref, x_ga_null, List.getElem?_cons_zero, List.getElem?_cons_succ, List.length_cons, List.length_nil, List.set_cons_zero, List.set_cons_succ, Nat.reduceAdd, Nat.reduceLT, xr_lt, xr_eq, xr_toInt, xr_0, xi_add, xi_sub, xi_mul, xr_div, xr_rm, Int.toNat_natCast, bd_t, true_and, and_true, not_false_eq_true, ↓reduceIte, ilt_t, ilt_f, ile_t, x_c1i, x_c1r, x_c1n, and_self, Option.toList_some, Option.toList_none, List.cons_append, List.nil_append, xr_01, xr_00, ieq_f, ieq_t]
    exact hQ
set_option maxHeartbeats 4000000 in
theorem k_tableAt (h : Rel w A S ln) (hI : Inv S) {t a : Int} (h0 : 0 ≤ t) (h1 : t < 16) (hl : S 10 t.toNat ≠ 0) (ha : x_r a) {l3 l4 l5 : Option Value} (hQ : Q (some (pv (s_hk S t.toNat a 1) (A 1 (S 1 (s_hk S t.toNat a 1).toNat)))) w) : WP P 44 0 [some (.ref (A 12 0)), some (.ref (A 2 (8 * t))), some (.int (xi a)), l3, l4, l5] [] w Q := by
  obtain ⟨⟨t0, t1, t2, t3, t4⟩, -⟩ := h.ker
  have hb := s_hv_is hI (t := t.toNat) (by omega) a
  have hR := hI.1.1
  have hA := hI.1.2.1
  simp (disch := first | exact hR _ _ | exact x01a | exact x01b | (unfold x_r; omega) | assumption | omega) only [wK_tableAt_0, wK_tableAt_1, wK_tableAt_2, x_gi_int, x_ga_ref, x_ga_null, List.getElem?_cons_zero, List.getElem?_cons_succ, List.length_cons, List.length_nil, List.set_cons_zero, List.set_cons_succ, Nat.reduceAdd, Nat.reduceLT, xr_lt, xr_eq, xr_toInt, xr_0, xi_add, xi_sub, xi_mul, xr_div, xr_rm, Int.toNat_natCast, bd_t, true_and, and_true, not_false_eq_true, ↓reduceIte, ilt_t, ilt_f, ile_t, x_c1i, x_c1r, x_c1n, and_self, Option.toList_some, Option.toList_none, List.cons_append, List.nil_append, xr_01, xr_00, ieq_f, ieq_t]
  refine wK_tableAt_3 t0 (by simp) rfl rfl (k_capabilityAt h hI h0 h1 hl ha ?_)
  unfold s_hk at hQ
  generalize s_hv S t.toNat a = p at *
  by_cases c1 : p < 0
  · rw [if_pos c1, pv_n (by omega)] at hQ
    rw [pv_n c1]
    simp (disch := first | exact hR _ _ | exact x01a | exact x01b | (unfold x_r; omega) | assumption | omega) only [wK_tableAt_6, wK_tableAt_6n, wK_tableAt_7, wK_tableAt_8n, wK_tableAt_8, wK_tableAt_37, wK_tableAt_38n, wK_tableAt_38, x_gi_int, x_ga_ref, x_ga_null, List.getElem?_cons_zero, List.getElem?_cons_succ, List.length_cons, List.length_nil, List.set_cons_zero, List.set_cons_succ, Nat.reduceAdd, Nat.reduceLT, xr_lt, xr_eq, xr_toInt, xr_0, xi_add, xi_sub, xi_mul, xr_div, xr_rm, Int.toNat_natCast, bd_t, true_and, and_true, not_false_eq_true, ↓reduceIte, ilt_t, ilt_f, ile_t, x_c1i, x_c1r, x_c1n, and_self, Option.toList_some, Option.toList_none, List.cons_append, List.nil_append, xr_01, xr_00, ieq_f, ieq_t]
    exact hQ
  rw [if_neg c1] at hQ
  rw [pv_r c1]
  obtain ⟨ct, cf0, -⟩ := h.cap (p := p) (by omega) (by omega) (hb.2.2 c1)
  obtain ⟨n, g0, g1, g2, g3⟩ := h.thg hA (p := p) (by omega) (by omega) (hb.2.2 c1)
  have hc : x_has w (A 8 p) [1] := ⟨_, _, ct, by decide⟩
  have k7 := (hA p.toNat (by omega)).1
  have ti := (tgK_is (hb.2.2 c1) k7.2.1).2.1
  by_cases c2 : S 0 p.toNat = 1
  · rw [if_pos c2, pv_r c1] at hQ
    have tt := ti.2 c2
    rw [tt] at g0 g1
    rw [thA_k c2 (by omega)] at cf0 g0
    simp (disch := first | exact hR _ _ | exact x01a | exact x01b | (unfold x_r; omega) | assumption | omega) only [wK_tableAt_6, wK_tableAt_6n, wK_tableAt_7, wK_tableAt_8n, wK_tableAt_8, wK_tableAt_11, wK_tableAt_12, wK_tableAt_15, wK_tableAt_15n, wK_tableAt_17, wK_tableAt_19 g0 g1, wK_tableAt_22, wK_tableAt_25, wK_tableAt_27 g0, wK_tableAt_30, wK_tableAt_30n, wK_tableAt_32, wK_tableAt_34, wK_tableAt_38n, wK_tableAt_38, hc, cf0, tt, x_gi_int, x_ga_ref, x_ga_null, List.getElem?_cons_zero, List.getElem?_cons_succ, List.length_cons, List.length_nil, List.set_cons_zero, List.set_cons_succ, Nat.reduceAdd, Nat.reduceLT, xr_lt, xr_eq, xr_toInt, xr_0, xi_add, xi_sub, xi_mul, xr_div, xr_rm, Int.toNat_natCast, bd_t, true_and, and_true, not_false_eq_true, ↓reduceIte, ilt_t, ilt_f, ile_t, x_c1i, x_c1r, x_c1n, and_self, Option.toList_some, Option.toList_none, List.cons_append, List.nil_append, xr_01, xr_00, ieq_f, ieq_t]
    exact hQ
  · rw [if_neg c2, pv_n (by omega)] at hQ
    have tt : ¬ (tgK (S 0 p.toNat) 0).1 = 5 := fun x => c2 (ti.1 x)
    simp (disch := first | exact hR _ _ | exact x01a | exact x01b | (unfold x_r; omega) | assumption | omega) only [wK_tableAt_6, wK_tableAt_6n, wK_tableAt_7, wK_tableAt_8n, wK_tableAt_8, wK_tableAt_11, wK_tableAt_12, wK_tableAt_15, wK_tableAt_15n, wK_tableAt_17, wK_tableAt_19 g0 g1, wK_tableAt_22, wK_tableAt_37, wK_tableAt_38n, wK_tableAt_38, hc, cf0, tt, x_gi_int, x_ga_ref, x_ga_null, List.getElem?_cons_zero, List.getElem?_cons_succ, List.length_cons, List.length_nil, List.set_cons_zero, List.set_cons_succ, Nat.reduceAdd, Nat.reduceLT, xr_lt, xr_eq, xr_toInt, xr_0, xi_add, xi_sub, xi_mul, xr_div, xr_rm, Int.toNat_natCast, bd_t, true_and, and_true, not_false_eq_true, ↓reduceIte, ilt_t, ilt_f, ile_t, x_c1i, x_c1r, x_c1n, and_self, Option.toList_some, Option.toList_none, List.cons_append, List.nil_append, xr_01, xr_00, ieq_f, ieq_t]
    exact hQ
set_option maxHeartbeats 4000000 in
theorem k_spaceAt (h : Rel w A S ln) (hI : Inv S) {t a : Int} (h0 : 0 ≤ t) (h1 : t < 16) (hl : S 10 t.toNat ≠ 0) (ha : x_r a) {l3 l4 l5 : Option Value} (hQ : Q (some (pv (s_hk S t.toNat a 5) (A 5 (S 1 (s_hk S t.toNat a 5).toNat)))) w) : WP P 45 0 [some (.ref (A 12 0)), some (.ref (A 2 (8 * t))), some (.int (xi a)), l3, l4, l5] [] w Q := by
  obtain ⟨⟨t0, t1, t2, t3, t4⟩, -⟩ := h.ker
  have hb := s_hv_is hI (t := t.toNat) (by omega) a
  have hR := hI.1.1
  have hA := hI.1.2.1
  simp (disch := first | exact hR _ _ | exact x01a | exact x01b | (unfold x_r; omega) | assumption | omega) only [wK_spaceAt_0, wK_spaceAt_1, wK_spaceAt_2, x_gi_int, x_ga_ref, x_ga_null, List.getElem?_cons_zero, List.getElem?_cons_succ, List.length_cons, List.length_nil, List.set_cons_zero, List.set_cons_succ, Nat.reduceAdd, Nat.reduceLT, xr_lt, xr_eq, xr_toInt, xr_0, xi_add, xi_sub, xi_mul, xr_div, xr_rm, Int.toNat_natCast, bd_t, true_and, and_true, not_false_eq_true, ↓reduceIte, ilt_t, ilt_f, ile_t, x_c1i, x_c1r, x_c1n, and_self, Option.toList_some, Option.toList_none, List.cons_append, List.nil_append, xr_01, xr_00, ieq_f, ieq_t]
  refine wK_spaceAt_3 t0 (by simp) rfl rfl (k_capabilityAt h hI h0 h1 hl ha ?_)
  unfold s_hk at hQ
  generalize s_hv S t.toNat a = p at *
  by_cases c1 : p < 0
  · rw [if_pos c1, pv_n (by omega)] at hQ
    rw [pv_n c1]
    simp (disch := first | exact hR _ _ | exact x01a | exact x01b | (unfold x_r; omega) | assumption | omega) only [wK_spaceAt_6, wK_spaceAt_6n, wK_spaceAt_7, wK_spaceAt_8n, wK_spaceAt_8, wK_spaceAt_37, wK_spaceAt_38n, wK_spaceAt_38, x_gi_int, x_ga_ref, x_ga_null, List.getElem?_cons_zero, List.getElem?_cons_succ, List.length_cons, List.length_nil, List.set_cons_zero, List.set_cons_succ, Nat.reduceAdd, Nat.reduceLT, xr_lt, xr_eq, xr_toInt, xr_0, xi_add, xi_sub, xi_mul, xr_div, xr_rm, Int.toNat_natCast, bd_t, true_and, and_true, not_false_eq_true, ↓reduceIte, ilt_t, ilt_f, ile_t, x_c1i, x_c1r, x_c1n, and_self, Option.toList_some, Option.toList_none, List.cons_append, List.nil_append, xr_01, xr_00, ieq_f, ieq_t]
    exact hQ
  rw [if_neg c1] at hQ
  rw [pv_r c1]
  obtain ⟨ct, cf0, -⟩ := h.cap (p := p) (by omega) (by omega) (hb.2.2 c1)
  obtain ⟨n, g0, g1, g2, g3⟩ := h.thg hA (p := p) (by omega) (by omega) (hb.2.2 c1)
  have hc : x_has w (A 8 p) [1] := ⟨_, _, ct, by decide⟩
  have k7 := (hA p.toNat (by omega)).1
  have ti := (tgK_is (hb.2.2 c1) k7.2.1).2.2.1
  by_cases c2 : S 0 p.toNat = 5
  · rw [if_pos c2, pv_r c1] at hQ
    have tt := ti.2 c2
    rw [tt] at g0 g1
    rw [thA_k c2 (by omega)] at cf0 g0
    simp (disch := first | exact hR _ _ | exact x01a | exact x01b | (unfold x_r; omega) | assumption | omega) only [wK_spaceAt_6, wK_spaceAt_6n, wK_spaceAt_7, wK_spaceAt_8n, wK_spaceAt_8, wK_spaceAt_11, wK_spaceAt_12, wK_spaceAt_15, wK_spaceAt_15n, wK_spaceAt_17, wK_spaceAt_19 g0 g1, wK_spaceAt_22, wK_spaceAt_25, wK_spaceAt_27 g0, wK_spaceAt_30, wK_spaceAt_30n, wK_spaceAt_32, wK_spaceAt_34, wK_spaceAt_38n, wK_spaceAt_38, hc, cf0, tt, x_gi_int, x_ga_ref, x_ga_null, List.getElem?_cons_zero, List.getElem?_cons_succ, List.length_cons, List.length_nil, List.set_cons_zero, List.set_cons_succ, Nat.reduceAdd, Nat.reduceLT, xr_lt, xr_eq, xr_toInt, xr_0, xi_add, xi_sub, xi_mul, xr_div, xr_rm, Int.toNat_natCast, bd_t, true_and, and_true, not_false_eq_true, ↓reduceIte, ilt_t, ilt_f, ile_t, x_c1i, x_c1r, x_c1n, and_self, Option.toList_some, Option.toList_none, List.cons_append, List.nil_append, xr_01, xr_00, ieq_f, ieq_t]
    exact hQ
  · rw [if_neg c2, pv_n (by omega)] at hQ
    have tt : ¬ (tgK (S 0 p.toNat) 0).1 = 8 := fun x => c2 (ti.1 x)
    simp (disch := first | exact hR _ _ | exact x01a | exact x01b | (unfold x_r; omega) | assumption | omega) only [wK_spaceAt_6, wK_spaceAt_6n, wK_spaceAt_7, wK_spaceAt_8n, wK_spaceAt_8, wK_spaceAt_11, wK_spaceAt_12, wK_spaceAt_15, wK_spaceAt_15n, wK_spaceAt_17, wK_spaceAt_19 g0 g1, wK_spaceAt_22, wK_spaceAt_37, wK_spaceAt_38n, wK_spaceAt_38, hc, cf0, tt, x_gi_int, x_ga_ref, x_ga_null, List.getElem?_cons_zero, List.getElem?_cons_succ, List.length_cons, List.length_nil, List.set_cons_zero, List.set_cons_succ, Nat.reduceAdd, Nat.reduceLT, xr_lt, xr_eq, xr_toInt, xr_0, xi_add, xi_sub, xi_mul, xr_div, xr_rm, Int.toNat_natCast, bd_t, true_and, and_true, not_false_eq_true, ↓reduceIte, ilt_t, ilt_f, ile_t, x_c1i, x_c1r, x_c1n, and_self, Option.toList_some, Option.toList_none, List.cons_append, List.nil_append, xr_01, xr_00, ieq_f, ieq_t]
    exact hQ
set_option maxHeartbeats 4000000 in
theorem k_bellAt (h : Rel w A S ln) (hI : Inv S) {t a : Int} (h0 : 0 ≤ t) (h1 : t < 16) (hl : S 10 t.toNat ≠ 0) (ha : x_r a) {l3 l4 l5 : Option Value} (hQ : Q (some (pv (s_hk S t.toNat a 4) (A 4 (S 1 (s_hk S t.toNat a 4).toNat)))) w) : WP P 65 0 [some (.ref (A 12 0)), some (.ref (A 2 (8 * t))), some (.int (xi a)), l3, l4, l5] [] w Q := by
  obtain ⟨⟨t0, t1, t2, t3, t4⟩, -⟩ := h.ker
  have hb := s_hv_is hI (t := t.toNat) (by omega) a
  have hR := hI.1.1
  have hA := hI.1.2.1
  simp (disch := first | exact hR _ _ | exact x01a | exact x01b | (unfold x_r; omega) | assumption | omega) only [wK_bellAt_0, wK_bellAt_1, wK_bellAt_2, x_gi_int, x_ga_ref, x_ga_null, List.getElem?_cons_zero, List.getElem?_cons_succ, List.length_cons, List.length_nil, List.set_cons_zero, List.set_cons_succ, Nat.reduceAdd, Nat.reduceLT, xr_lt, xr_eq, xr_toInt, xr_0, xi_add, xi_sub, xi_mul, xr_div, xr_rm, Int.toNat_natCast, bd_t, true_and, and_true, not_false_eq_true, ↓reduceIte, ilt_t, ilt_f, ile_t, x_c1i, x_c1r, x_c1n, and_self, Option.toList_some, Option.toList_none, List.cons_append, List.nil_append, xr_01, xr_00, ieq_f, ieq_t]
  refine wK_bellAt_3 t0 (by simp) rfl rfl (k_capabilityAt h hI h0 h1 hl ha ?_)
  unfold s_hk at hQ
  generalize s_hv S t.toNat a = p at *
  by_cases c1 : p < 0
  · rw [if_pos c1, pv_n (by omega)] at hQ
    rw [pv_n c1]
    simp (disch := first | exact hR _ _ | exact x01a | exact x01b | (unfold x_r; omega) | assumption | omega) only [wK_bellAt_6, wK_bellAt_6n, wK_bellAt_7, wK_bellAt_8n, wK_bellAt_8, wK_bellAt_37, wK_bellAt_38n, wK_bellAt_38, x_gi_int, x_ga_ref, x_ga_null, List.getElem?_cons_zero, List.getElem?_cons_succ, List.length_cons, List.length_nil, List.set_cons_zero, List.set_cons_succ, Nat.reduceAdd, Nat.reduceLT, xr_lt, xr_eq, xr_toInt, xr_0, xi_add, xi_sub, xi_mul, xr_div, xr_rm, Int.toNat_natCast, bd_t, true_and, and_true, not_false_eq_true, ↓reduceIte, ilt_t, ilt_f, ile_t, x_c1i, x_c1r, x_c1n, and_self, Option.toList_some, Option.toList_none, List.cons_append, List.nil_append, xr_01, xr_00, ieq_f, ieq_t]
    exact hQ
  rw [if_neg c1] at hQ
  rw [pv_r c1]
  obtain ⟨ct, cf0, -⟩ := h.cap (p := p) (by omega) (by omega) (hb.2.2 c1)
  obtain ⟨n, g0, g1, g2, g3⟩ := h.thg hA (p := p) (by omega) (by omega) (hb.2.2 c1)
  have hc : x_has w (A 8 p) [1] := ⟨_, _, ct, by decide⟩
  have k7 := (hA p.toNat (by omega)).1
  have ti := (tgK_is (hb.2.2 c1) k7.2.1).2.2.2.1
  by_cases c2 : S 0 p.toNat = 4
  · rw [if_pos c2, pv_r c1] at hQ
    have tt := ti.2 c2
    rw [tt] at g0 g1
    rw [thA_k c2 (by omega)] at cf0 g0
    simp (disch := first | exact hR _ _ | exact x01a | exact x01b | (unfold x_r; omega) | assumption | omega) only [wK_bellAt_6, wK_bellAt_6n, wK_bellAt_7, wK_bellAt_8n, wK_bellAt_8, wK_bellAt_11, wK_bellAt_12, wK_bellAt_15, wK_bellAt_15n, wK_bellAt_17, wK_bellAt_19 g0 g1, wK_bellAt_22, wK_bellAt_25, wK_bellAt_27 g0, wK_bellAt_30, wK_bellAt_30n, wK_bellAt_32, wK_bellAt_34, wK_bellAt_38n, wK_bellAt_38, hc, cf0, tt, x_gi_int, x_ga_ref, x_ga_null, List.getElem?_cons_zero, List.getElem?_cons_succ, List.length_cons, List.length_nil, List.set_cons_zero, List.set_cons_succ, Nat.reduceAdd, Nat.reduceLT, xr_lt, xr_eq, xr_toInt, xr_0, xi_add, xi_sub, xi_mul, xr_div, xr_rm, Int.toNat_natCast, bd_t, true_and, and_true, not_false_eq_true, ↓reduceIte, ilt_t, ilt_f, ile_t, x_c1i, x_c1r, x_c1n, and_self, Option.toList_some, Option.toList_none, List.cons_append, List.nil_append, xr_01, xr_00, ieq_f, ieq_t]
    exact hQ
  · rw [if_neg c2, pv_n (by omega)] at hQ
    have tt : ¬ (tgK (S 0 p.toNat) 0).1 = 7 := fun x => c2 (ti.1 x)
    simp (disch := first | exact hR _ _ | exact x01a | exact x01b | (unfold x_r; omega) | assumption | omega) only [wK_bellAt_6, wK_bellAt_6n, wK_bellAt_7, wK_bellAt_8n, wK_bellAt_8, wK_bellAt_11, wK_bellAt_12, wK_bellAt_15, wK_bellAt_15n, wK_bellAt_17, wK_bellAt_19 g0 g1, wK_bellAt_22, wK_bellAt_37, wK_bellAt_38n, wK_bellAt_38, hc, cf0, tt, x_gi_int, x_ga_ref, x_ga_null, List.getElem?_cons_zero, List.getElem?_cons_succ, List.length_cons, List.length_nil, List.set_cons_zero, List.set_cons_succ, Nat.reduceAdd, Nat.reduceLT, xr_lt, xr_eq, xr_toInt, xr_0, xi_add, xi_sub, xi_mul, xr_div, xr_rm, Int.toNat_natCast, bd_t, true_and, and_true, not_false_eq_true, ↓reduceIte, ilt_t, ilt_f, ile_t, x_c1i, x_c1r, x_c1n, and_self, Option.toList_some, Option.toList_none, List.cons_append, List.nil_append, xr_01, xr_00, ieq_f, ieq_t]
    exact hQ
end KD
