section TD0
variable {P : xP} {mi pc pc' : Nat} {lo : List (Option Value)} {st r : List Value} {w : xH} {Q : Option Value → xH → Prop}
theorem W_iald_p {a n : Nat} {g : Nat → Int32} {i : Int32} (h : x_ct mi pc = some .iaload) (ha : x_tg w a = none) (hp : P.1 a = some (n, g)) (h0 : ¬ i < 0) (h1 : i.toNatClampNeg < n) (hn : pc' = pc + 1) : WP P mi pc lo (.int i :: .ref a :: r) w Q ↔ WP P mi pc' lo (.int (g i.toNatClampNeg) :: r) w Q := by
  subst hn
  refine WP_go h rfl rfl ?_
  unfold xI
  dsimp only
  rw [ha]
  dsimp only
  rw [hp]
  exact if_pos ⟨h0, h1⟩
end TD0
theorem thN_d {A : xA} {k u d : Int} {a : Nat} (hk : 0 ≤ k ∧ k ≤ 7) {k' i' : Int} (h : ¬ ((k' = k ∧ i' = tK k u d) ∨ (0 ≤ eK k ∧ k' = eK k ∧ i' = eI k u))) : thN A k u d a k' i' = A k' i' := by
  unfold thN
  by_cases c : eK k < 0
  · rw [if_pos c, aup_n (fun x => h (Or.inl x))]
  · rw [if_neg c, aup_n (fun x => h (Or.inr ⟨by omega, x⟩)), aup_n (fun x => h (Or.inl x))]
theorem eK_ne {k : Int} (hk : 0 ≤ k ∧ k ≤ 7) : eK k ≠ k ∧ eK k ≠ 8 ∧ eK k ≠ 12 := by
  unfold eK
  (repeat' split) <;> omega
theorem thN_t {A : xA} {k u d : Int} {a : Nat} (hk : 0 ≤ k ∧ k ≤ 7) : thN A k u d a k (tK k u d) = a := by
  unfold thN
  by_cases c : eK k < 0
  · rw [if_pos c, aup_e]
  · rw [if_neg c, aup_n (fun x => (eK_ne hk).1 x.1.symm), aup_e]
theorem thN_e {A : xA} {k u d : Int} {a : Nat} (h : 0 ≤ eK k) : thN A k u d a (eK k) (eI k u) = a + 1 := by
  unfold thN
  rw [if_neg (by omega), aup_e]
section TD
variable {P : xP} {w : xH} {Q : Option Value → xH → Prop} {A : xA} {S : xS} {ln : Nat → Int}
set_option maxHeartbeats 32000000 in
theorem k_retype (h : Rel w A S (lid S)) (hI : Inv S) {szF : Nat → Int32} (hp : x_tg w P.2.1 = none) (hP : P.1 P.2.1 = some (8, szF)) (hsz : ∀ k b : Int, 1 ≤ k → k ≤ 7 → szF k.toNat = xi (s_size k b)) {b k bits dest : Int} (hb : x_r b) (hkr : x_r k) (hbr : x_r bits) (hde : x_r dest) {l5 l6 l7 l8 l9 l10 : Option Value} (hQ : ∀ w' A', A' 12 0 = A 12 0 → Rel w' A' (s_retype S b k bits dest).2 (lid (s_retype S b k bits dest).2) → Fr w w' 4 → Q (some (.int (xi (s_retype S b k bits dest).1))) w') : WP P 11 0 [some (.ref (A 12 0)), some (.int (xi b)), some (.int (xi k)), some (.int (xi bits)), some (.int (xi dest)), l5, l6, l7, l8, l9, l10] [] w Q := by
  have fr0 : Fr w w 4 := (Fr.refl w).le (by omega)
  have hbr0 := hbr
  unfold s_retype at hQ
  obtain ⟨⟨t0, t1, t2, t3, t4⟩, f0, f1, f2, f3⟩ := h.ker
  have hR := hI.1.1
  have hA := hI.1.2.1
  have hn := s_now_in S
  simp (disch := first | exact hR _ _ | exact x01a | exact x01b | (unfold x_r; omega) | assumption | omega) only [wK_retype_0, x_gi_int, x_ga_ref, x_ga_null, List.getElem?_cons_zero, List.getElem?_cons_succ, List.length_cons, List.length_nil, List.set_cons_zero, List.set_cons_succ, Nat.reduceAdd, Nat.reduceLT, xr_lt, xr_eq, xr_toInt, xr_0, xi_add, xi_sub, xi_mul, xr_div, xr_rm, Int.toNat_natCast, bd_t, true_and, and_true, not_false_eq_true, ↓reduceIte, ilt_t, ilt_f, ile_t, x_c1i, x_c1r, x_c1n, and_self, Option.toList_some, Option.toList_none, List.cons_append, List.nil_append, xr_01, xr_00, ieq_f, ieq_t]
  refine wK_retype_1 t0 (by simp) rfl rfl (k_currentThread h hI ?_)
  by_cases c1 : s_now S < 0
  · rw [if_pos c1] at hQ
    rw [pv_n c1]
    simp (disch := first | exact hR _ _ | exact x01a | exact x01b | (unfold x_r; omega) | assumption | omega) only [wK_retype_4, wK_retype_4n, wK_retype_6, wK_retype_8n, wK_retype_8, wK_retype_11, wK_retype_13, x_gi_int, x_ga_ref, x_ga_null, List.getElem?_cons_zero, List.getElem?_cons_succ, List.length_cons, List.length_nil, List.set_cons_zero, List.set_cons_succ, Nat.reduceAdd, Nat.reduceLT, xr_lt, xr_eq, xr_toInt, xr_0, xi_add, xi_sub, xi_mul, xr_div, xr_rm, Int.toNat_natCast, bd_t, true_and, and_true, not_false_eq_true, ↓reduceIte, ilt_t, ilt_f, ile_t, x_c1i, x_c1r, x_c1n, and_self, Option.toList_some, Option.toList_none, List.cons_append, List.nil_append, xr_01, xr_00, ieq_f, ieq_t]
    exact hQ w A rfl h fr0
  rw [if_neg c1] at hQ
  rw [pv_r c1]
  obtain ⟨n1, n2⟩ := now_is c1
  simp (disch := first | exact hR _ _ | exact x01a | exact x01b | (unfold x_r; omega) | assumption | omega) only [wK_retype_4, wK_retype_4n, wK_retype_6, wK_retype_8n, wK_retype_8, wK_retype_14, wK_retype_15, wK_retype_17, x_gi_int, x_ga_ref, x_ga_null, List.getElem?_cons_zero, List.getElem?_cons_succ, List.length_cons, List.length_nil, List.set_cons_zero, List.set_cons_succ, Nat.reduceAdd, Nat.reduceLT, xr_lt, xr_eq, xr_toInt, xr_0, xi_add, xi_sub, xi_mul, xr_div, xr_rm, Int.toNat_natCast, bd_t, true_and, and_true, not_false_eq_true, ↓reduceIte, ilt_t, ilt_f, ile_t, x_c1i, x_c1r, x_c1n, and_self, Option.toList_some, Option.toList_none, List.cons_append, List.nil_append, xr_01, xr_00, ieq_f, ieq_t]
  refine wK_retype_18 t0 (by simp) rfl rfl (k_capabilityAt h hI (by omega) (by omega) (by omega) hb ?_)
  have hb := s_hv_is hI (t := (s_now S).toNat) n1 b
  have ehk : s_having S b 0 = s_hk S (s_now S).toNat b 0 := having_hk (by omega)
  unfold s_hk at ehk
  by_cases d1 : s_hv S (s_now S).toNat b < 0
  · rw [if_pos d1] at ehk
    rw [if_pos (by omega)] at hQ
    rw [pv_n d1]
    simp (disch := first | exact hR _ _ | exact x01a | exact x01b | (unfold x_r; omega) | assumption | omega) only [wK_retype_21, wK_retype_21n, wK_retype_23, wK_retype_25n, wK_retype_25, wK_retype_53, wK_retype_54, x_gi_int, x_ga_ref, x_ga_null, List.getElem?_cons_zero, List.getElem?_cons_succ, List.length_cons, List.length_nil, List.set_cons_zero, List.set_cons_succ, Nat.reduceAdd, Nat.reduceLT, xr_lt, xr_eq, xr_toInt, xr_0, xi_add, xi_sub, xi_mul, xr_div, xr_rm, Int.toNat_natCast, bd_t, true_and, and_true, not_false_eq_true, ↓reduceIte, ilt_t, ilt_f, ile_t, x_c1i, x_c1r, x_c1n, and_self, Option.toList_some, Option.toList_none, List.cons_append, List.nil_append, xr_01, xr_00, ieq_f, ieq_t]
    exact hQ w A rfl h fr0
  rw [if_neg d1] at ehk
  rw [pv_r d1]
  obtain ⟨ct, e0, e1, e2, -⟩ := h.cap (p := s_hv S (s_now S).toNat b) (by omega) (by omega) (hb.2.2 d1)
  obtain ⟨n, g0, g1, g2, g3⟩ := h.thg hA (p := s_hv S (s_now S).toNat b) (by omega) (by omega) (hb.2.2 d1)
  have hc : x_has w (A 8 (s_hv S (s_now S).toNat b)) [1] := ⟨_, _, ct, by decide⟩
  have k7 := (hA (s_hv S (s_now S).toNat b).toNat (by omega)).1
  have ti := (tgK_is (hb.2.2 d1) k7.2.1).2.2.2.2.1
  by_cases d2 : ¬ S 0 (s_hv S (s_now S).toNat b).toNat = 0
  · rw [if_neg d2] at ehk
    rw [if_pos (by omega)] at hQ
    have tt : ¬ (tgK (S 0 (s_hv S (s_now S).toNat b).toNat) 0).1 = 4 := fun x => d2 (ti.1 x)
    simp (disch := first | exact hR _ _ | exact x01a | exact x01b | (unfold x_r; omega) | assumption | omega) only [wK_retype_21, wK_retype_21n, wK_retype_23, wK_retype_25n, wK_retype_25, wK_retype_28, wK_retype_30, wK_retype_33, wK_retype_33n, wK_retype_35, wK_retype_37 g0 g1, wK_retype_40, wK_retype_53, wK_retype_54, hc, e0, tt, x_gi_int, x_ga_ref, x_ga_null, List.getElem?_cons_zero, List.getElem?_cons_succ, List.length_cons, List.length_nil, List.set_cons_zero, List.set_cons_succ, Nat.reduceAdd, Nat.reduceLT, xr_lt, xr_eq, xr_toInt, xr_0, xi_add, xi_sub, xi_mul, xr_div, xr_rm, Int.toNat_natCast, bd_t, true_and, and_true, not_false_eq_true, ↓reduceIte, ilt_t, ilt_f, ile_t, x_c1i, x_c1r, x_c1n, and_self, Option.toList_some, Option.toList_none, List.cons_append, List.nil_append, xr_01, xr_00, ieq_f, ieq_t]
    exact hQ w A rfl h fr0
  have d2 := Decidable.not_not.1 d2
  rw [if_pos d2] at ehk
  rw [if_neg (by omega)] at hQ
  rw [← ehk] at d1 d2 ct e0 e1 e2 g0 g1 g2 g3 hc hb k7 ti ⊢
  have tt := ti.2 d2
  rw [tt] at g0 g1
  have eth : thA A S (s_having S b 0) = A 0 (s_having S b 0) := if_pos d2
  rw [eth] at e0 g0
  have hfr := hI.free (f := (s_having S b 0).toNat) (by omega) d2
  rw [show (((s_having S b 0).toNat : Nat) : Int) = s_having S b 0 by omega] at hfr
  have hhm := hI.hm (s_having S b 0).toNat (by omega) d2
  unfold x_r at hkr hbr
  simp (disch := first | exact hR _ _ | exact x01a | exact x01b | (unfold x_r; omega) | assumption | omega) only [wK_retype_21, wK_retype_21n, wK_retype_23, wK_retype_25n, wK_retype_25, wK_retype_28, wK_retype_30, wK_retype_33, wK_retype_33n, wK_retype_35, wK_retype_37 g0 g1, wK_retype_40, wK_retype_43, wK_retype_45 g0, wK_retype_48, wK_retype_48n, wK_retype_50, hc, e0, x_gi_int, x_ga_ref, x_ga_null, List.getElem?_cons_zero, List.getElem?_cons_succ, List.length_cons, List.length_nil, List.set_cons_zero, List.set_cons_succ, Nat.reduceAdd, Nat.reduceLT, xr_lt, xr_eq, xr_toInt, xr_0, xi_add, xi_sub, xi_mul, xr_div, xr_rm, Int.toNat_natCast, bd_t, true_and, and_true, not_false_eq_true, ↓reduceIte, ilt_t, ilt_f, ile_t, x_c1i, x_c1r, x_c1n, and_self, Option.toList_some, Option.toList_none, List.cons_append, List.nil_append, xr_01, xr_00, ieq_f, ieq_t]
  generalize s_having S b 0 = p at *
  by_cases c3 : k < 0
  · rw [if_pos c3] at hQ
    simp (disch := first | exact hR _ _ | exact x01a | exact x01b | (unfold x_r; omega) | assumption | omega) only [wK_retype_55, wK_retype_56, wK_retype_65, wK_retype_66, x_gi_int, x_ga_ref, x_ga_null, List.getElem?_cons_zero, List.getElem?_cons_succ, List.length_cons, List.length_nil, List.set_cons_zero, List.set_cons_succ, Nat.reduceAdd, Nat.reduceLT, xr_lt, xr_eq, xr_toInt, xr_0, xi_add, xi_sub, xi_mul, xr_div, xr_rm, Int.toNat_natCast, bd_t, true_and, and_true, not_false_eq_true, ↓reduceIte, ilt_t, ilt_f, ile_t, x_c1i, x_c1r, x_c1n, and_self, Option.toList_some, Option.toList_none, List.cons_append, List.nil_append, xr_01, xr_00, ieq_f, ieq_t]
    exact hQ w A rfl h fr0
  rw [if_neg c3] at hQ
  by_cases c4 : 7 < k
  · rw [if_pos c4] at hQ
    simp (disch := first | exact hR _ _ | exact x01a | exact x01b | (unfold x_r; omega) | assumption | omega) only [wK_retype_55, wK_retype_56, wK_retype_59, wK_retype_60, wK_retype_62, wK_retype_65, wK_retype_66, x_gi_int, x_ga_ref, x_ga_null, List.getElem?_cons_zero, List.getElem?_cons_succ, List.length_cons, List.length_nil, List.set_cons_zero, List.set_cons_succ, Nat.reduceAdd, Nat.reduceLT, xr_lt, xr_eq, xr_toInt, xr_0, xi_add, xi_sub, xi_mul, xr_div, xr_rm, Int.toNat_natCast, bd_t, true_and, and_true, not_false_eq_true, ↓reduceIte, ilt_t, ilt_f, ile_t, x_c1i, x_c1r, x_c1n, and_self, Option.toList_some, Option.toList_none, List.cons_append, List.nil_append, xr_01, xr_00, ieq_f, ieq_t]
    exact hQ w A rfl h fr0
  rw [if_neg c4] at hQ
  by_cases c5 : k = 0 ∧ (bits < 1 ∨ 6 < bits)
  · rw [if_pos c5] at hQ
    rcases c5 with ⟨c50, c51⟩
    by_cases c52 : bits < 1
    · simp (disch := first | exact hR _ _ | exact x01a | exact x01b | (unfold x_r; omega) | assumption | omega) only [wK_retype_55, wK_retype_56, wK_retype_59, wK_retype_60, wK_retype_62, wK_retype_67, wK_retype_68, wK_retype_71, wK_retype_72, wK_retype_73, wK_retype_82, wK_retype_83, c50, x_gi_int, x_ga_ref, x_ga_null, List.getElem?_cons_zero, List.getElem?_cons_succ, List.length_cons, List.length_nil, List.set_cons_zero, List.set_cons_succ, Nat.reduceAdd, Nat.reduceLT, xr_lt, xr_eq, xr_toInt, xr_0, xi_add, xi_sub, xi_mul, xr_div, xr_rm, Int.toNat_natCast, bd_t, true_and, and_true, not_false_eq_true, ↓reduceIte, ilt_t, ilt_f, ile_t, x_c1i, x_c1r, x_c1n, and_self, Option.toList_some, Option.toList_none, List.cons_append, List.nil_append, xr_01, xr_00, ieq_f, ieq_t]
      exact hQ w A rfl h fr0
    · have c53 : 6 < bits := by omega
      simp (disch := first | exact hR _ _ | exact x01a | exact x01b | (unfold x_r; omega) | assumption | omega) only [wK_retype_55, wK_retype_56, wK_retype_59, wK_retype_60, wK_retype_62, wK_retype_67, wK_retype_68, wK_retype_71, wK_retype_72, wK_retype_73, wK_retype_76, wK_retype_77, wK_retype_79, wK_retype_82, wK_retype_83, c50, x_gi_int, x_ga_ref, x_ga_null, List.getElem?_cons_zero, List.getElem?_cons_succ, List.length_cons, List.length_nil, List.set_cons_zero, List.set_cons_succ, Nat.reduceAdd, Nat.reduceLT, xr_lt, xr_eq, xr_toInt, xr_0, xi_add, xi_sub, xi_mul, xr_div, xr_rm, Int.toNat_natCast, bd_t, true_and, and_true, not_false_eq_true, ↓reduceIte, ilt_t, ilt_f, ile_t, x_c1i, x_c1r, x_c1n, and_self, Option.toList_some, Option.toList_none, List.cons_append, List.nil_append, xr_01, xr_00, ieq_f, ieq_t]
      exact hQ w A rfl h fr0
  rw [if_neg c5] at hQ
  have step : ∀ lo : List (Option Value), lo[2]? = some (some (.int (xi k))) → lo[3]? = some (some (.int (xi bits))) → WP P 11 84 lo [] w Q → WP P 11 55 lo [] w Q := by
    intro lo l2 l3 hw
    by_cases c50 : k = 0
    · have c51 : ¬ (bits < 1 ∨ 6 < bits) := fun x => c5 ⟨c50, x⟩
      simp (disch := first | exact hR _ _ | exact x01a | exact x01b | (unfold x_r; omega) | assumption | omega) only [wK_retype_55, wK_retype_56, wK_retype_59, wK_retype_60, wK_retype_62, wK_retype_67, wK_retype_68, wK_retype_71, wK_retype_72, wK_retype_73, wK_retype_76, wK_retype_77, wK_retype_79, l2, l3, c50, x_gi_int, x_ga_ref, x_ga_null, List.getElem?_cons_zero, List.getElem?_cons_succ, List.length_cons, List.length_nil, List.set_cons_zero, List.set_cons_succ, Nat.reduceAdd, Nat.reduceLT, xr_lt, xr_eq, xr_toInt, xr_0, xi_add, xi_sub, xi_mul, xr_div, xr_rm, Int.toNat_natCast, bd_t, true_and, and_true, not_false_eq_true, ↓reduceIte, ilt_t, ilt_f, ile_t, x_c1i, x_c1r, x_c1n, and_self, Option.toList_some, Option.toList_none, List.cons_append, List.nil_append, xr_01, xr_00, ieq_f, ieq_t]
      exact hw
    · simp (disch := first | exact hR _ _ | exact x01a | exact x01b | (unfold x_r; omega) | assumption | omega) only [wK_retype_55, wK_retype_56, wK_retype_59, wK_retype_60, wK_retype_62, wK_retype_67, wK_retype_68, l2, l3, c50, x_gi_int, x_ga_ref, x_ga_null, List.getElem?_cons_zero, List.getElem?_cons_succ, List.length_cons, List.length_nil, List.set_cons_zero, List.set_cons_succ, Nat.reduceAdd, Nat.reduceLT, xr_lt, xr_eq, xr_toInt, xr_0, xi_add, xi_sub, xi_mul, xr_div, xr_rm, Int.toNat_natCast, bd_t, true_and, and_true, not_false_eq_true, ↓reduceIte, ilt_t, ilt_f, ile_t, x_c1i, x_c1r, x_c1n, and_self, Option.toList_some, Option.toList_none, List.cons_append, List.nil_append, xr_01, xr_00, ieq_f, ieq_t]
      exact hw
  refine step _ rfl rfl ?_
  simp (disch := first | exact hR _ _ | exact x01a | exact x01b | (unfold x_r; omega) | assumption | omega) only [wK_retype_84, wK_retype_85, wK_retype_87, x_gi_int, x_ga_ref, x_ga_null, List.getElem?_cons_zero, List.getElem?_cons_succ, List.length_cons, List.length_nil, List.set_cons_zero, List.set_cons_succ, Nat.reduceAdd, Nat.reduceLT, xr_lt, xr_eq, xr_toInt, xr_0, xi_add, xi_sub, xi_mul, xr_div, xr_rm, Int.toNat_natCast, bd_t, true_and, and_true, not_false_eq_true, ↓reduceIte, ilt_t, ilt_f, ile_t, x_c1i, x_c1r, x_c1n, and_self, Option.toList_some, Option.toList_none, List.cons_append, List.nil_append, xr_01, xr_00, ieq_f, ieq_t]
  refine wK_retype_89 t0 (by simp) rfl rfl (k_placeOf h hI (by omega) (by omega) (by omega) hde ?_)
  have hfi := s_find_in hI.gs.1 (t := (s_now S).toNat) n1 dest
  simp (disch := first | exact hR _ _ | exact x01a | exact x01b | (unfold x_r; omega) | assumption | omega) only [wK_retype_92, wK_retype_94, wK_retype_95, x_gi_int, x_ga_ref, x_ga_null, List.getElem?_cons_zero, List.getElem?_cons_succ, List.length_cons, List.length_nil, List.set_cons_zero, List.set_cons_succ, Nat.reduceAdd, Nat.reduceLT, xr_lt, xr_eq, xr_toInt, xr_0, xi_add, xi_sub, xi_mul, xr_div, xr_rm, Int.toNat_natCast, bd_t, true_and, and_true, not_false_eq_true, ↓reduceIte, ilt_t, ilt_f, ile_t, x_c1i, x_c1r, x_c1n, and_self, Option.toList_some, Option.toList_none, List.cons_append, List.nil_append, xr_01, xr_00, ieq_f, ieq_t]
  refine wK_retype_97 t0 (by simp) rfl rfl (k_isEmptySlot h hfi.1 hfi.2 ?_)
  have ve := vacant_find (S := S) (a := dest)
  by_cases c8 : s_vacant S dest < 0
  · rw [if_pos c8] at hQ
    have b0 : (if s_find S (s_now S).toNat dest = -1 then (0 : Int) else if S 0 (s_find S (s_now S).toNat dest).toNat < 0 then 1 else 0) = 0 := by
      by_cases d1 : s_find S (s_now S).toNat dest = -1
      · rw [if_pos d1]
      · rw [if_neg d1]
        by_cases d2 : S 0 (s_find S (s_now S).toNat dest).toNat < 0
        · rw [if_neg (by omega), if_pos d2] at ve; omega
        · rw [if_neg d2]
    rw [b0]
    simp (disch := first | exact hR _ _ | exact x01a | exact x01b | (unfold x_r; omega) | assumption | omega) only [wK_retype_100, wK_retype_103, wK_retype_104, x_gi_int, x_ga_ref, x_ga_null, List.getElem?_cons_zero, List.getElem?_cons_succ, List.length_cons, List.length_nil, List.set_cons_zero, List.set_cons_succ, Nat.reduceAdd, Nat.reduceLT, xr_lt, xr_eq, xr_toInt, xr_0, xi_add, xi_sub, xi_mul, xr_div, xr_rm, Int.toNat_natCast, bd_t, true_and, and_true, not_false_eq_true, ↓reduceIte, ilt_t, ilt_f, ile_t, x_c1i, x_c1r, x_c1n, and_self, Option.toList_some, Option.toList_none, List.cons_append, List.nil_append, xr_01, xr_00, ieq_f, ieq_t]
    exact hQ w A rfl h fr0
  rw [if_neg c8] at hQ
  obtain ⟨v1, v2, v3⟩ := vacant_is hI c1 c8
  have fv : s_find S (s_now S).toNat dest = s_vacant S dest := by
    by_cases d1 : s_find S (s_now S).toNat dest < 0
    · rw [if_pos d1] at ve; omega
    · rw [if_neg d1] at ve
      by_cases d2 : S 0 (s_find S (s_now S).toNat dest).toNat < 0
      · rw [if_pos d2] at ve; exact ve.symm
      · rw [if_neg d2] at ve; omega
  rw [fv, if_neg (by omega), if_pos v2]
  generalize s_vacant S dest = pd at *
  have hz := s_size_in (k := k) (b := bits) (fun c => by omega)
  have hkk : 0 ≤ k ∧ k ≤ 7 := ⟨by omega, by omega⟩
  -- the size
  have szs : ∀ lo : List (Option Value), lo[2]? = some (some (.int (xi k))) → lo[3]? = some (some (.int (xi bits))) → WP P 11 120 lo [.int (xi (s_size k bits))] w Q → WP P 11 105 lo [] w Q := by
    intro lo l2 l3 hw
    by_cases c50 : k = 0
    · have c51 : ¬ (bits < 1 ∨ 6 < bits) := fun x => c5 ⟨c50, x⟩
      have sh := xr_shl (b := bits) (by omega) (by omega)
      have es : s_size k bits = 2 ^ bits.toNat := by unfold s_size; rw [if_pos c50]
      rw [es] at hw
      simp (disch := first | exact hR _ _ | exact x01a | exact x01b | (unfold x_r; omega) | assumption | omega) only [wK_retype_105, wK_retype_106, wK_retype_109, wK_retype_110, wK_retype_111, wK_retype_112, l2, l3, c50, sh, x_gi_int, x_ga_ref, x_ga_null, List.getElem?_cons_zero, List.getElem?_cons_succ, List.length_cons, List.length_nil, List.set_cons_zero, List.set_cons_succ, Nat.reduceAdd, Nat.reduceLT, xr_lt, xr_eq, xr_toInt, xr_0, xi_add, xi_sub, xi_mul, xr_div, xr_rm, Int.toNat_natCast, bd_t, true_and, and_true, not_false_eq_true, ↓reduceIte, ilt_t, ilt_f, ile_t, x_c1i, x_c1r, x_c1n, and_self, Option.toList_some, Option.toList_none, List.cons_append, List.nil_append, xr_01, xr_00, ieq_f, ieq_t]
      exact hw
    · have ec := x_cle (e := k) (by omega) (by omega)
      have nn := x_nn (e := k) (by omega) (by omega)
      have nc := x_clt (e := k) (n := 8) (by omega) (by omega) (by omega)
      simp (disch := first | exact hR _ _ | exact x01a | exact x01b | (unfold x_r; omega) | assumption | omega) only [wK_retype_105, wK_retype_106, wK_retype_115, wK_retype_118, l2, c50, x_gi_int, x_ga_ref, x_ga_null, List.getElem?_cons_zero, List.getElem?_cons_succ, List.length_cons, List.length_nil, List.set_cons_zero, List.set_cons_succ, Nat.reduceAdd, Nat.reduceLT, xr_lt, xr_eq, xr_toInt, xr_0, xi_add, xi_sub, xi_mul, xr_div, xr_rm, Int.toNat_natCast, bd_t, true_and, and_true, not_false_eq_true, ↓reduceIte, ilt_t, ilt_f, ile_t, x_c1i, x_c1r, x_c1n, and_self, Option.toList_some, Option.toList_none, List.cons_append, List.nil_append, xr_01, xr_00, ieq_f, ieq_t]
      rw [W_iald_p (pc' := 120) rfl hp hP nn nc rfl, ec, hsz k bits (by omega) (by omega)]
      exact hw
  simp (disch := first | exact hR _ _ | exact x01a | exact x01b | (unfold x_r; omega) | assumption | omega) only [wK_retype_100, x_gi_int, x_ga_ref, x_ga_null, List.getElem?_cons_zero, List.getElem?_cons_succ, List.length_cons, List.length_nil, List.set_cons_zero, List.set_cons_succ, Nat.reduceAdd, Nat.reduceLT, xr_lt, xr_eq, xr_toInt, xr_0, xi_add, xi_sub, xi_mul, xr_div, xr_rm, Int.toNat_natCast, bd_t, true_and, and_true, not_false_eq_true, ↓reduceIte, ilt_t, ilt_f, ile_t, x_c1i, x_c1r, x_c1n, and_self, Option.toList_some, Option.toList_none, List.cons_append, List.nil_append, xr_01, xr_00, ieq_f, ieq_t]
  refine szs _ rfl rfl ?_
  generalize hzz : s_size k bits = z at *
  simp (disch := first | exact hR _ _ | exact x01a | exact x01b | (unfold x_r; omega) | assumption | omega) only [wK_retype_120, wK_retype_122, wK_retype_123, wK_retype_125, x_gi_int, x_ga_ref, x_ga_null, List.getElem?_cons_zero, List.getElem?_cons_succ, List.length_cons, List.length_nil, List.set_cons_zero, List.set_cons_succ, Nat.reduceAdd, Nat.reduceLT, xr_lt, xr_eq, xr_toInt, xr_0, xi_add, xi_sub, xi_mul, xr_div, xr_rm, Int.toNat_natCast, bd_t, true_and, and_true, not_false_eq_true, ↓reduceIte, ilt_t, ilt_f, ile_t, x_c1i, x_c1r, x_c1n, and_self, Option.toList_some, Option.toList_none, List.cons_append, List.nil_append, xr_01, xr_00, ieq_f, ieq_t]
  refine wK_retype_127 t0 (by simp) rfl rfl (k_freePoint h hI (by omega) (by omega) d2 ?_)
  simp (disch := first | exact hR _ _ | exact x01a | exact x01b | (unfold x_r; omega) | assumption | omega) only [wK_retype_130, x_gi_int, x_ga_ref, x_ga_null, List.getElem?_cons_zero, List.getElem?_cons_succ, List.length_cons, List.length_nil, List.set_cons_zero, List.set_cons_succ, Nat.reduceAdd, Nat.reduceLT, xr_lt, xr_eq, xr_toInt, xr_0, xi_add, xi_sub, xi_mul, xr_div, xr_rm, Int.toNat_natCast, bd_t, true_and, and_true, not_false_eq_true, ↓reduceIte, ilt_t, ilt_f, ile_t, x_c1i, x_c1r, x_c1n, and_self, Option.toList_some, Option.toList_none, List.cons_append, List.nil_append, xr_01, xr_00, ieq_f, ieq_t]
  have gg := hA p.toNat (by omega)
  refine wK_retype_132 (by simp) rfl rfl (k_roundUp (by omega) (by omega) hz.1 hz.2 ?_)
  have ha := s_up_ge (fp := s_freePoint S p) hz.1
  have hai := s_up_in (fp := s_freePoint S p) (size := z) (by omega) hz.1
  generalize s_up (s_freePoint S p) z = uu at *
  obtain ⟨m0, m1, m2, m3, m4⟩ := h.unt (p := p) (by omega) (by omega) d2
  have hm : x_has w (A 0 p) [4] := ⟨_, _, m0, by decide⟩
  have ssz := s_size_in (k := 0) (b := S 5 p.toNat) (fun c => ((gg.2 (by omega)).2.2.2 d2))
  by_cases c9 : S 1 p.toNat + s_size 0 (S 5 p.toNat) < uu + z
  · rw [if_pos c9] at hQ
    simp (disch := first | exact hR _ _ | exact x01a | exact x01b | (unfold x_r; omega) | assumption | omega) only [wK_retype_135, wK_retype_137, wK_retype_139, wK_retype_141, wK_retype_142, wK_retype_144, wK_retype_147, wK_retype_149, wK_retype_152, wK_retype_153, wK_retype_156, wK_retype_157, hm, m2, m3, x_gi_int, x_ga_ref, x_ga_null, List.getElem?_cons_zero, List.getElem?_cons_succ, List.length_cons, List.length_nil, List.set_cons_zero, List.set_cons_succ, Nat.reduceAdd, Nat.reduceLT, xr_lt, xr_eq, xr_toInt, xr_0, xi_add, xi_sub, xi_mul, xr_div, xr_rm, Int.toNat_natCast, bd_t, true_and, and_true, not_false_eq_true, ↓reduceIte, ilt_t, ilt_f, ile_t, x_c1i, x_c1r, x_c1n, and_self, Option.toList_some, Option.toList_none, List.cons_append, List.nil_append, xr_01, xr_00, ieq_f, ieq_t]
    exact hQ w A rfl h fr0
  rw [if_neg c9] at hQ
  obtain ⟨d, ed⟩ : ∃ d : Nat, pd = (d : Int) := ⟨pd.toNat, by omega⟩
  obtain ⟨f, ef⟩ : ∃ f : Nat, p = (f : Int) := ⟨p.toNat, by omega⟩
  subst ed ef
  simp only [Int.toNat_natCast] at v2 d2 gg hhm c9 ssz m2 m3 m4 hfr
  have hdn : ¬ us S 8 (d : Int) := by
    intro x; unfold us at x; rw [Int.toNat_natCast] at x; omega
  have frs : ∀ k', 1 ≤ k' → ¬ hd S k' uu := by
    rintro k' hk' ⟨q, q1, q2, q3⟩
    have sp : 0 < szS S q := by
      have := s_size_in (k := S 0 q) (b := S 5 q) (fun c => ((hA q q1).2 (by omega)).2.2.2 c)
      unfold szS
      omega
    have zf : szS S f = s_size 0 (S 5 f) := by unfold szS; rw [d2]
    exact hI.1.2.2.1.fresh (f := f) (u := uu) (z := z) (by omega) d2 (by omega) (by omega) (by rw [zf]; omega) (fun q' hq' => by have := hfr.2.1 q' hq'; omega) q1 (by omega) sp q3
  have uf : us S 0 (f : Int) := us_unt (by omega) (by omega) (by rw [Int.toNat_natCast]; exact d2)
  have u120 : us S 12 0 := us_ker (by omega)
  have u121 : us S 12 1 := us_ker (by omega)
  have u122 : us S 12 2 := us_ker (by omega)
  have H0 := h.put uf 3 (.int (xi (uu + z)))
  have fr1 := h.frp (Fr.refl w) uf 3 (.int (xi (uu + z)))
  simp (disch := first | exact hR _ _ | exact x01a | exact x01b | (unfold x_r; omega) | assumption | omega) only [wK_retype_135, wK_retype_137, wK_retype_139, wK_retype_141, wK_retype_142, wK_retype_144, wK_retype_147, wK_retype_149, wK_retype_152, wK_retype_153, wK_retype_158, wK_retype_160, wK_retype_162, wK_retype_164, wK_retype_165, wK_retype_168, wK_retype_169, wK_retype_172, wK_retype_173, wK_retype_174, wK_retype_175, wK_retype_177, hm, m2, m3, x_f0, x_gi_int, x_ga_ref, x_ga_null, List.getElem?_cons_zero, List.getElem?_cons_succ, List.length_cons, List.length_nil, List.set_cons_zero, List.set_cons_succ, Nat.reduceAdd, Nat.reduceLT, xr_lt, xr_eq, xr_toInt, xr_0, xi_add, xi_sub, xi_mul, xr_div, xr_rm, Int.toNat_natCast, bd_t, true_and, and_true, not_false_eq_true, ↓reduceIte, ilt_t, ilt_f, ile_t, x_c1i, x_c1r, x_c1n, and_self, Option.toList_some, Option.toList_none, List.cons_append, List.nil_append, xr_01, xr_00, ieq_f, ieq_t]
  have H1 := H0.new (k := 8) (i := (d : Int)) hdn (t := 1) (n := 8) rfl (x_df 1)
  have fr2 := fr1.new (t := 1) (n := 8) H0.2.2.2 (by omega) (x_df 1)
  generalize hw0 : x_put w (A 0 (f : Int)) 3 (.int (xi (uu + z))) = w0 at *
  have sz0 : x_sz w0 = x_sz w := by rw [← hw0]; rfl
  have l0 := h.lt u120
  have l1 := h.lt u121
  have a12 : ∀ i, aup A 8 (d : Int) (x_sz w0) 12 i = A 12 i := fun i => aup_n (by omega)
  have tg1 := H1.tg (k := 12) (i := 0) (Or.inl u120)
  rw [a12] at tg1
  have tg1 : x_tg (x_new w0 1 8 (x_df 1)) (A 12 0) = some (0, 4) := tg1
  have nt : ¬ (fun k' i' => us S k' i' ∨ (k' = 8 ∧ i' = (d : Int))) k (tK k uu (d : Int)) := by
    rintro (x | x)
    · unfold tK at x
      by_cases c : k = 0
      · rw [if_pos c, c] at x
        unfold us at x; rw [Int.toNat_natCast] at x; omega
      · rw [if_neg c] at x
        unfold us at x
        rcases x with y | y | y | y | y | y | y
        · omega
        · exact frs k (by omega) y.2.2
        all_goals omega
    · omega
  have nx : 0 ≤ eK k → ¬ (fun k' i' => us S k' i' ∨ (k' = 8 ∧ i' = (d : Int))) (eK k) (eI k uu) := by
    rintro y0 (x | x)
    · unfold eK at x y0
      unfold eI at x
      by_cases q3 : k = 3 ∨ k = 4
      · rw [if_pos q3, if_pos q3] at x
        unfold us at x
        rcases x with y | y | y | y | y | y | y
        · omega
        · omega
        · omega
        · rcases y.2 with q | q | q
          · omega
          · rw [show uu + 4 - 4 = uu by omega] at q; exact frs 3 (by omega) q
          · rw [show uu + 4 - 4 = uu by omega] at q; exact frs 4 (by omega) q
        all_goals omega
      rw [if_neg q3, if_neg q3] at x
      by_cases q5 : k = 5
      · rw [if_pos q5] at x
        unfold us at x
        rcases x with y | y | y | y | y | y | y
        all_goals first | exact frs 5 (by omega) y.2 | omega
      rw [if_neg q5] at x
      by_cases q6 : k = 6
      · rw [if_pos q6] at x
        unfold us at x
        rcases x with y | y | y | y | y | y | y
        all_goals first | exact frs 6 (by omega) y.2 | omega
      · rw [if_neg q3, if_neg q5, if_neg q6] at y0; omega
    · exact (eK_ne hkk).2.1 x.1
  have km := k_makeThing (P := P) (z := z) H1 hkk (by omega) (by omega) (Or.inl u120) (Or.inl u122) (by rw [fnw_n (by omega), fup_n (by omega), a12]; rfl) nt nx (l4 := none) (Q := fun v w1 => WP P 11 182 [some (.ref (A 12 0)), some (.int (xi b)), some (.int (xi k)), some (.int (xi bits)), some (.int (xi dest)), some (.ref (A 2 (8 * s_now S))), some (.ref (A 8 (f : Int))), some (.ref (A 0 (f : Int))), some (.int (xi (d : Int))), some (.int (xi z)), some (.int (xi uu))] (v.toList ++ [.ref (x_sz w0), .ref (x_sz w0), .ref (A 12 0)]) w1 Q) (fun w2 H2 fr3 => ?_)
  · rw [a12] at km
    exact wK_retype_179 tg1 (by simp) rfl rfl km
  -- the capability is filled in and put into its slot
  have es1 : x_sz (x_new w0 1 8 (x_df 1)) = x_sz w0 + 1 := rfl
  rw [es1] at H2 ⊢
  generalize hA2 : thN (aup A 8 (d : Int) (x_sz w0)) k uu (d : Int) (x_sz w0 + 1) = A2 at *
  have aD : A2 8 (d : Int) = x_sz w0 := by
    rw [← hA2, thN_d hkk (fun x => by have := eK_ne hkk; omega), aup_e]
  have a2o : ∀ k' i', ¬ ((k' = 8 ∧ i' = (d : Int)) ∨ (k' = k ∧ i' = tK k uu (d : Int)) ∨ (0 ≤ eK k ∧ k' = eK k ∧ i' = eI k uu)) → A2 k' i' = A k' i' := by
    intro k' i' x
    rw [← hA2, thN_d hkk (fun y => x (Or.inr y)), aup_n (fun y => x (Or.inl y))]
  have a212 : ∀ i, A2 12 i = A 12 i := fun i => a2o 12 i (fun x => by have := eK_ne hkk; omega)
  have aT : A2 k (tK k uu (d : Int)) = x_sz w0 + 1 := by rw [← hA2, thN_t hkk]
  have aE : 0 ≤ eK k → A2 (eK k) (eI k uu) = x_sz w0 + 1 + 1 := fun x => by rw [← hA2, thN_e x]
  generalize hU2 : thU (fun k' i' => us S k' i' ∨ (k' = 8 ∧ i' = (d : Int))) k uu (d : Int) = U2 at *
  have uD : U2 8 (d : Int) := by rw [← hU2]; exact Or.inl (Or.inr ⟨rfl, rfl⟩)
  have uK0 : U2 12 0 := by rw [← hU2]; exact Or.inl (Or.inl u120)
  have uK1 : U2 12 1 := by rw [← hU2]; exact Or.inl (Or.inl u121)
  have hU : ∀ k' i', us S k' i' ∨ (k' = 8 ∧ i' = (d : Int)) ∨ (k' = k ∧ i' = tK k uu (d : Int)) ∨ (0 ≤ eK k ∧ k' = eK k ∧ i' = eI k uu) → U2 k' i' := by
    intro k' i' x
    rw [← hU2]
    rcases x with x | x | x | x
    · exact Or.inl (Or.inl x)
    · exact Or.inl (Or.inr x)
    · exact Or.inr (Or.inl x)
    · exact Or.inr (Or.inr x)
  have H3 := ((((((H2.put uD 0 (.ref (x_sz w0 + 1))).put uD 1 (.int (xi 7))).put uD 2 (.int (xi 0))).put uD 3 (pv (f : Int) (A 8 (f : Int)))).put uK1 d (.ref (x_sz w0))).put uD 4 (.int (xi (d : Int))))
  have fr4 := ((((H2.put uD 0 (.ref (x_sz w0 + 1))).put uD 1 (.int (xi 7))).put uD 2 (.int (xi 0))).put uD 3 (pv (f : Int) (A 8 (f : Int)))).put uK1 d (.ref (x_sz w0)) |>.frp (((((H2.put uD 0 (.ref (x_sz w0 + 1))).put uD 1 (.int (xi 7))).put uD 2 (.int (xi 0))).put uD 3 (pv (f : Int) (A 8 (f : Int)))).frp ((((H2.put uD 0 (.ref (x_sz w0 + 1))).put uD 1 (.int (xi 7))).put uD 2 (.int (xi 0))).frp (((H2.put uD 0 (.ref (x_sz w0 + 1))).put uD 1 (.int (xi 7))).frp ((H2.put uD 0 (.ref (x_sz w0 + 1))).frp (H2.frp (fr2.trans (k := 4) fr3 (by omega)) uD 0 (.ref (x_sz w0 + 1))) uD 1 (.int (xi 7))) uD 2 (.int (xi 0))) uD 3 (pv (f : Int) (A 8 (f : Int)))) uK1 d (.ref (x_sz w0))) uD 4 (.int (xi (d : Int)))
  have tD := H2.tg uD
  rw [aD] at tD
  have tD : x_tg w2 (x_sz w0) = some (1, 8) := tD
  have tK0 := H2.tg uK0
  rw [a212] at tK0
  have tK0 : x_tg w2 (A 12 0) = some (0, 4) := tK0
  have tK1 := H2.tg uK1
  rw [a212] at tK1
  have tK1 : x_tg w2 (A 12 1) = some (31, 128) := tK1
  have fK0 := H2.fd uK0 (f := 0) (v := .ref (A 12 1)) (by
    unfold thF
    have q := eK_ne hkk
    rw [if_neg (fun x => by omega), if_neg (fun x => by omega), if_neg (fun x => by omega), fnw_n (by omega), fup_n (by omega)]; rfl)
  rw [a212] at fK0
  simp (disch := first | exact hR _ _ | exact x01a | exact x01b | (unfold x_r; omega) | assumption | omega) only [wK_retype_182, wK_retype_184, wK_retype_185, x_gi_int, x_ga_ref, x_ga_null, List.getElem?_cons_zero, List.getElem?_cons_succ, List.length_cons, List.length_nil, List.set_cons_zero, List.set_cons_succ, Nat.reduceAdd, Nat.reduceLT, xr_lt, xr_eq, xr_toInt, xr_0, xi_add, xi_sub, xi_mul, xr_div, xr_rm, Int.toNat_natCast, bd_t, true_and, and_true, not_false_eq_true, ↓reduceIte, ilt_t, ilt_f, ile_t, x_c1i, x_c1r, x_c1n, and_self, Option.toList_some, Option.toList_none, List.cons_append, List.nil_append, xr_01, xr_00, ieq_f, ieq_t]
  have ci := k_capInit (P := P) (w := w2) (a := x_sz w0) (th := x_sz w0 + 1) (r := 7) (b := 0) (p := (f : Int)) (pa := A 8 (f : Int)) ⟨_, _, tD, by decide⟩ (Q := fun v w1 => WP P 11 190 [some (.ref (A 12 0)), some (.int (xi b)), some (.int (xi k)), some (.int (xi bits)), some (.int (xi dest)), some (.ref (A 2 (8 * s_now S))), some (.ref (A 8 (f : Int))), some (.ref (A 0 (f : Int))), some (.int (xi (d : Int))), some (.int (xi z)), some (.int (xi uu))] (v.toList ++ [.ref (x_sz w0), .ref (A 12 0)]) w1 Q) ?_
  · rw [pv_r (by omega)] at ci
    exact wK_retype_187 (by simp) rfl rfl ci
  · simp (disch := first | exact hR _ _ | exact x01a | exact x01b | (unfold x_r; omega) | assumption | omega) only [wK_retype_190, x_gi_int, x_ga_ref, x_ga_null, List.getElem?_cons_zero, List.getElem?_cons_succ, List.length_cons, List.length_nil, List.set_cons_zero, List.set_cons_succ, Nat.reduceAdd, Nat.reduceLT, xr_lt, xr_eq, xr_toInt, xr_0, xi_add, xi_sub, xi_mul, xr_div, xr_rm, Int.toNat_natCast, bd_t, true_and, and_true, not_false_eq_true, ↓reduceIte, ilt_t, ilt_f, ile_t, x_c1i, x_c1r, x_c1n, and_self, Option.toList_some, Option.toList_none, List.cons_append, List.nil_append, xr_01, xr_00, ieq_f, ieq_t]
    refine wK_retype_192 tK0 (by simp) rfl rfl (k_put (m := 8) ⟨_, _, tK0, by decide⟩ ?_ tK1 tD (by omega) ?_)
    · have ne : A 12 0 ≠ x_sz w0 := by omega
      rw [x_fd_put, if_neg (by omega), x_fd_put, if_neg (by omega), x_fd_put, if_neg (by omega), x_fd_put, if_neg (fun x => ne x.1)]
      exact fK0
    · simp (disch := first | exact hR _ _ | exact x01a | exact x01b | (unfold x_r; omega) | assumption | omega) only [wK_retype_195, wK_retype_196, x_gi_int, x_ga_ref, x_ga_null, List.getElem?_cons_zero, List.getElem?_cons_succ, List.length_cons, List.length_nil, List.set_cons_zero, List.set_cons_succ, Nat.reduceAdd, Nat.reduceLT, xr_lt, xr_eq, xr_toInt, xr_0, xi_add, xi_sub, xi_mul, xr_div, xr_rm, Int.toNat_natCast, bd_t, true_and, and_true, not_false_eq_true, ↓reduceIte, ilt_t, ilt_f, ile_t, x_c1i, x_c1r, x_c1n, and_self, Option.toList_some, Option.toList_none, List.cons_append, List.nil_append, xr_01, xr_00, ieq_f, ieq_t]
      rw [aD, a212] at H3 fr4
      have fd := fill_d (S := sset S 6 f (uu + z)) (s := (d : Int)) (k := k) (u := uu) (size := bits) (from_ := (f : Int))
      have f2 : s_fill (sset S 6 f (uu + z)) (d : Int) k uu bits (f : Int) 2 d = 7 ∧ s_fill (sset S 6 f (uu + z)) (d : Int) k uu bits (f : Int) 3 d = 0 := by
        unfold s_fill
        simp [sset_at]
      have hfd : f ≠ d := by intro c; rw [c] at d2; omega
      have fi : ∀ j i, i ≠ d → ¬ (j = 6 ∧ i = f) → s_fill (sset S 6 f (uu + z)) (d : Int) k uu bits (f : Int) j i = S j i := by
        intro j i hi hj
        rw [fill_i (by rw [Int.toNat_natCast]; exact hi), sset_at, if_neg hj]
      have f6 : s_fill (sset S 6 f (uu + z)) (d : Int) k uu bits (f : Int) 6 f = uu + z := by
        rw [fill_i (by rw [Int.toNat_natCast]; exact hfd), sset_at, if_pos ⟨rfl, rfl⟩]
      have fo : ∀ j, 9 ≤ j → s_fill (sset S 6 f (uu + z)) (d : Int) k uu bits (f : Int) j = S j := by
        intro j hj
        rw [fill_o hj, sset_o (by omega)]
      rw [Int.toNat_natCast] at fd
      simp only [Int.toNat_natCast] at hQ
      generalize s_fill (sset S 6 f (uu + z)) (d : Int) k uu bits (f : Int) = X at *
      have bo : ∀ j, j < 10 → s_begin X k uu j = X j := fun j hj => begin_o (by omega)
      have hal := fun hk' => s_size_al (k := k) (b := bits) (by rw [hzz]; exact ha.2) hk'
      have b8 : k = 2 → s_begin X k uu 10 (uu / 8).toNat = 1 ∧ s_begin X k uu 11 (uu / 8).toNat = -1 ∧ s_begin X k uu 12 (uu / 8).toNat = -1 ∧ s_begin X k uu 13 (uu / 8).toNat = 0 ∧ s_begin X k uu 14 (uu / 8).toNat = 0 ∧ s_begin X k uu 15 (uu / 8).toNat = 0 ∧ s_begin X k uu 16 (uu / 8).toNat = 0 ∧ s_begin X k uu 17 (uu / 8).toNat = 0 := by
        intro c
        rw [c]
        unfold s_begin
        simp [sset_at]
      refine hQ _ A2 (a212 0) (retype_rel h hI (T := s_begin X k uu) (d := d) (f := f) (t0 := (uu / 8).toNat) (a0 := x_sz w0) (a1 := x_sz w0 + 1) (k := k) (u := uu) (z := z) hkk (by omega) (by omega) (by omega) v2 (by omega) d2 (fun j hj => ?_) (fun j i j1 j2 j3 => ?_) ?_ ?_ ?_ ?_ ?_ (fun c => ?_) ?_ ?_ (fun j i j1 j2 j3 => ?_) (fun c => ?_) (fun i hi => ?_) (fun c => ?_) (fun c => (hal (by omega)).2.1 c) (fun c => (hal (by omega)).2.2 c) (fun i hi => ?_) (fun c => ?_) frs H3 hU a2o aD aT aE (fun k' i' g x => ?_) (fun g => ?_) (fun g => ?_) (fun x g => ?_)) fr4
      · rw [begin_o (by omega), fo j (by omega)]
      · rw [bo j (by omega), fi j i j2 j3]
      · rw [bo 0 (by omega)]; exact fd.1
      · rw [bo 1 (by omega)]; exact fd.2.1
      · rw [bo 2 (by omega)]; exact f2.1
      · rw [bo 3 (by omega)]; exact f2.2
      · rw [bo 4 (by omega)]; exact fd.2.2.1
      · rw [bo 5 (by omega), fd.2.2.2.1, ← hzz, c]
      · rw [bo 7 (by omega)]; exact fd.2.2.2.2.2
      · rw [bo 6 (by omega)]; exact f6
      · rw [begin_10 ⟨j1, j2⟩ j3, fo j (by omega)]
      · have q8 := (hal (by omega)).1 c
        exact ⟨by omega, by omega, b8 c⟩
      · have : s_begin X k uu 24 i = X 24 i := by
          unfold s_begin
          split
          · simp [sset_at]
          split
          next c4' => rw [sset_at, if_neg (fun x => hi ⟨c4', by omega⟩)]
          split
          · rw [sset_o (by omega)]
          · rfl
        rw [this, fo 24 (by omega)]
      · rw [c]
        unfold s_begin
        simp [sset_at]
      · rw [begin_25, if_neg (fun x => hi ⟨x.1, by have := (hal (by omega)).2.2 x.1; omega⟩), fo 25 (by omega)]
      · rw [begin_25, if_pos ⟨c, rfl⟩]
      · have q := eK_ne hkk
        have nn : ¬ (k' = k ∧ i' = tK k uu (d : Int)) := fun y => nt (Or.inl (by have x' := x; rw [y.2, y.1] at x'; exact x'))
        have ne' : ¬ (0 ≤ eK k ∧ k' = eK k ∧ i' = eI k uu) := fun y => nx y.1 (Or.inl (by have x' := x; rw [y.2.2, y.2.1] at x'; exact x'))
        have nd : ¬ (k' = 8 ∧ i' = (d : Int)) := fun y => hdn (by have x' := x; rw [y.2, y.1] at x'; exact x')
        rw [fup_n (fun y => nd ⟨y.1, y.2.1⟩)]
        by_cases z1 : k' = 12 ∧ i' = 1 ∧ g = d
        · rw [if_pos z1, z1.1, z1.2.1, z1.2.2, fup_e]
        rw [if_neg z1, fup_n z1, fup_n (fun y => nd ⟨y.1, y.2.1⟩), fup_n (fun y => nd ⟨y.1, y.2.1⟩), fup_n (fun y => nd ⟨y.1, y.2.1⟩), fup_n (fun y => nd ⟨y.1, y.2.1⟩)]
        unfold thF
        rw [if_neg nn, if_neg ne']
        by_cases z2 : k = 2 ∧ k' = 12 ∧ i' = 2 ∧ g = (uu / 8).toNat
        · rw [if_pos z2, if_pos z2]
        rw [if_neg z2, if_neg z2, fnw_n nd]
        by_cases z3 : k' = 0 ∧ i' = (f : Int) ∧ g = 3
        · rw [if_pos z3, z3.1, z3.2.1, z3.2.2, fup_e]
        · rw [if_neg z3, fup_n z3]
      · unfold capF
        have q := eK_ne hkk
        by_cases g4 : g = 4
        · rw [g4, fup_e]; rfl
        rw [fup_n (fun y => g4 y.2.2), fup_n (by omega)]
        by_cases g3 : g = 3
        · rw [g3, fup_e]; rfl
        rw [fup_n (fun y => g3 y.2.2)]
        by_cases g2' : g = 2
        · rw [g2', fup_e]; rfl
        rw [fup_n (fun y => g2' y.2.2)]
        by_cases g1' : g = 1
        · rw [g1', fup_e]; rfl
        rw [fup_n (fun y => g1' y.2.2)]
        by_cases g0' : g = 0
        · rw [g0', fup_e]; rfl
        rw [fup_n (fun y => g0' y.2.2)]
        unfold thF
        rw [if_neg (fun y => by omega), if_neg (fun y => by omega), if_neg (fun y => by omega), fnw_e, if_neg g0', if_neg g1', if_neg g2', if_neg g3, if_neg g4]
      · rw [fup_n (by omega), fup_n (by omega), fup_n (by omega), fup_n (by omega), fup_n (by omega), fup_n (by omega)]
        unfold thF
        rw [if_pos ⟨rfl, rfl⟩]
      · have q := eK_ne hkk
        rw [fup_n (by omega), fup_n (by omega), fup_n (by omega), fup_n (by omega), fup_n (by omega), fup_n (by omega)]
        unfold thF
        rw [if_neg (fun y => q.1 y.1), if_pos ⟨x, rfl, rfl⟩]
end TD
