section KE
variable {P : xP} {w : xH} {Q : Option Value → xH → Prop} {A : xA} {S : xS} {ln : Nat → Int}
set_option maxHeartbeats 4000000 in
theorem k_childrenOf_loop (h : Rel w A S ln) {T : Nat} (p : Nat → Prop) [DecidablePred p] (hx : ∀ q : Nat, q < 128 → 0 ≤ S 0 q → (pv (S 4 q) (A 8 (S 4 q)) = Value.ref T ↔ p q)) (hQ : Q (some (.int (xi (cntL (fun q => 0 ≤ S 0 q ∧ p q) 128)))) w) : ∀ (d i : Nat), i + d = 128 → ∀ l4 : Option Value,
    WP P 17 4 [some (.ref (A 12 0)), some (.ref T), some (.int (xi (cntL (fun q => 0 ≤ S 0 q ∧ p q) i))), some (.int (xi i)), l4] [] w Q := by
  obtain ⟨⟨t0, t1, t2, t3, t4⟩, f0, f1, f2, f3⟩ := h.ker
  have hk : x_has w (A 12 0) [0] := ⟨_, _, t0, by decide⟩
  have hR : RgS s_zero := RgS.zero
  intro d
  induction d with
  | zero =>
    intro i hi l4
    obtain rfl : i = 128 := by omega
    have cb := cntL_in (fun q => 0 ≤ S 0 q ∧ p q) 128
    simp (disch := first | exact hR _ _ | exact x01a | exact x01b | (unfold x_r; omega) | assumption | omega) only [wK_childrenOf_4, wK_childrenOf_5, wK_childrenOf_8, wK_childrenOf_42, wK_childrenOf_43, x_gi_int, x_ga_ref, x_ga_null, List.getElem?_cons_zero, List.getElem?_cons_succ, List.length_cons, List.length_nil, List.set_cons_zero, List.set_cons_succ, Nat.reduceAdd, Nat.reduceLT, xr_lt, xr_eq, xr_toInt, xr_0, xi_add, xi_sub, xi_mul, xr_div, xr_rm, Int.toNat_natCast, bd_t, true_and, and_true, not_false_eq_true, ↓reduceIte, ilt_t, ilt_f, ile_t, x_c1i, x_c1r, x_c1n, and_self, Option.toList_some, Option.toList_none, List.cons_append, List.nil_append, xr_01, xr_00, ieq_f, ieq_t]
    exact hQ
  | succ d ih =>
    intro i hi l4
    have sl := h.sl (p := i) (by omega)
    have ec : (xi (i : Int)).toNatClampNeg = i := by rw [x_cle (by omega) (by omega), Int.toNat_natCast]
    have nn := x_nn (e := (i : Int)) (by omega) (by omega)
    have nc := x_clt (e := (i : Int)) (n := 128) (by omega) (by omega) (by omega)
    have cb := cntL_in (fun q => 0 ≤ S 0 q ∧ p q) i
    have e1 : (i : Int) + 1 = ((i + 1 : Nat) : Int) := by omega
    rw [wK_childrenOf_4]
    by_cases c1 : S 0 i < 0
    · rw [pv_n c1] at sl
      have ce : cntL (fun q => 0 ≤ S 0 q ∧ p q) (i + 1) = cntL (fun q => 0 ≤ S 0 q ∧ p q) i := by
        conv => lhs; unfold cntL
        rw [if_neg (fun x => by omega)]
        omega
      have i1 := ih (i + 1) (by omega) (some .null)
      rw [ce] at i1
      simp (disch := first | exact hR _ _ | exact x01a | exact x01b | (unfold x_r; omega) | assumption | omega) only [wK_childrenOf_5, wK_childrenOf_8, wK_childrenOf_11, wK_childrenOf_12, wK_childrenOf_15, wK_childrenOf_16 t1 (by omega) nn nc, wK_childrenOf_17, wK_childrenOf_17n, wK_childrenOf_19, wK_childrenOf_21n, wK_childrenOf_21, wK_childrenOf_36, wK_childrenOf_39, hk, f0, ec, sl, e1, x_gi_int, x_ga_ref, x_ga_null, List.getElem?_cons_zero, List.getElem?_cons_succ, List.length_cons, List.length_nil, List.set_cons_zero, List.set_cons_succ, Nat.reduceAdd, Nat.reduceLT, xr_lt, xr_eq, xr_toInt, xr_0, xi_add, xi_sub, xi_mul, xr_div, xr_rm, Int.toNat_natCast, bd_t, true_and, and_true, not_false_eq_true, ↓reduceIte, ilt_t, ilt_f, ile_t, x_c1i, x_c1r, x_c1n, and_self, Option.toList_some, Option.toList_none, List.cons_append, List.nil_append, xr_01, xr_00, ieq_f, ieq_t]
      exact i1
    · rw [pv_r c1] at sl
      obtain ⟨ct, c0, c1', c2, c3, -⟩ := h.cap (p := (i : Int)) (by omega) (by omega) (by rw [Int.toNat_natCast]; omega)
      rw [Int.toNat_natCast] at c3
      have hc : x_has w (A 8 (i : Int)) [1] := ⟨_, _, ct, by decide⟩
      have hx1 := hx i (by omega) (by omega)
      obtain ⟨qv, hqv⟩ : ∃ o, x_rv (pv (S 4 i) (A 8 (S 4 i))) = some o := by
        first
        | exact ⟨_, rfl⟩
        | (unfold pv; split <;> exact ⟨_, rfl⟩)
      have hqe : qv = some T ↔ p i := by
        rw [← hx1]
        constructor
        · intro e
          rw [e] at hqv
          revert hqv
          generalize pv (S 4 i) (A 8 (S 4 i)) = v
          intro hqv
          cases v <;> simp [x_rv] at hqv
          rw [hqv]
        · intro e
          rw [e] at hqv
          simpa [x_rv] using hqv.symm
      by_cases c2 : p i
      · have ce : cntL (fun q => 0 ≤ S 0 q ∧ p q) (i + 1) = cntL (fun q => 0 ≤ S 0 q ∧ p q) i + 1 := by
          conv => lhs; unfold cntL
          rw [if_pos ⟨by omega, c2⟩]
        have i1 := ih (i + 1) (by omega) (some (.ref (A 8 (i : Int))))
        rw [ce] at i1
        have hq2 := hqe.2 c2
        simp (disch := first | exact hR _ _ | exact x01a | exact x01b | (unfold x_r; omega) | assumption | omega) only [wK_childrenOf_5, wK_childrenOf_8, wK_childrenOf_11, wK_childrenOf_12, wK_childrenOf_15, wK_childrenOf_16 t1 (by omega) nn nc, wK_childrenOf_17, wK_childrenOf_17n, wK_childrenOf_19, wK_childrenOf_21n, wK_childrenOf_21, wK_childrenOf_24, wK_childrenOf_26, wK_childrenOf_29, wK_childrenOf_30 hqv (x_rv_r T), wK_childrenOf_33, wK_childrenOf_36, wK_childrenOf_39, hk, hc, f0, ec, sl, c3, e1, hq2, x_gi_int, x_ga_ref, x_ga_null, List.getElem?_cons_zero, List.getElem?_cons_succ, List.length_cons, List.length_nil, List.set_cons_zero, List.set_cons_succ, Nat.reduceAdd, Nat.reduceLT, xr_lt, xr_eq, xr_toInt, xr_0, xi_add, xi_sub, xi_mul, xr_div, xr_rm, Int.toNat_natCast, bd_t, true_and, and_true, not_false_eq_true, ↓reduceIte, ilt_t, ilt_f, ile_t, x_c1i, x_c1r, x_c1n, and_self, Option.toList_some, Option.toList_none, List.cons_append, List.nil_append, xr_01, xr_00, ieq_f, ieq_t]
        exact i1
      · have ce : cntL (fun q => 0 ≤ S 0 q ∧ p q) (i + 1) = cntL (fun q => 0 ≤ S 0 q ∧ p q) i := by
          conv => lhs; unfold cntL
          rw [if_neg (fun x => c2 x.2)]
          omega
        have i1 := ih (i + 1) (by omega) (some (.ref (A 8 (i : Int))))
        rw [ce] at i1
        have hq2 : ¬ qv = some T := fun x => c2 (hqe.1 x)
        simp (disch := first | exact hR _ _ | exact x01a | exact x01b | (unfold x_r; omega) | assumption | omega) only [wK_childrenOf_5, wK_childrenOf_8, wK_childrenOf_11, wK_childrenOf_12, wK_childrenOf_15, wK_childrenOf_16 t1 (by omega) nn nc, wK_childrenOf_17, wK_childrenOf_17n, wK_childrenOf_19, wK_childrenOf_21n, wK_childrenOf_21, wK_childrenOf_24, wK_childrenOf_26, wK_childrenOf_29, wK_childrenOf_30 hqv (x_rv_r T), wK_childrenOf_36, wK_childrenOf_39, hk, hc, f0, ec, sl, c3, e1, hq2, x_gi_int, x_ga_ref, x_ga_null, List.getElem?_cons_zero, List.getElem?_cons_succ, List.length_cons, List.length_nil, List.set_cons_zero, List.set_cons_succ, Nat.reduceAdd, Nat.reduceLT, xr_lt, xr_eq, xr_toInt, xr_0, xi_add, xi_sub, xi_mul, xr_div, xr_rm, Int.toNat_natCast, bd_t, true_and, and_true, not_false_eq_true, ↓reduceIte, ilt_t, ilt_f, ile_t, x_c1i, x_c1r, x_c1n, and_self, Option.toList_some, Option.toList_none, List.cons_append, List.nil_append, xr_01, xr_00, ieq_f, ieq_t]
        exact i1
theorem k_childrenOf (h : Rel w A S ln) {T : Nat} (p : Nat → Prop) [DecidablePred p] (hx : ∀ q : Nat, q < 128 → 0 ≤ S 0 q → (pv (S 4 q) (A 8 (S 4 q)) = Value.ref T ↔ p q)) (hQ : Q (some (.int (xi (cntL (fun q => 0 ≤ S 0 q ∧ p q) 128)))) w) {l2 l3 l4 : Option Value} : WP P 17 0 [some (.ref (A 12 0)), some (.ref T), l2, l3, l4] [] w Q := by
  simp (disch := first | exact hR _ _ | exact x01a | exact x01b | (unfold x_r; omega) | assumption | omega) only [wK_childrenOf_0, wK_childrenOf_1, wK_childrenOf_2, wK_childrenOf_3, x_gi_int, x_ga_ref, x_ga_null, List.getElem?_cons_zero, List.getElem?_cons_succ, List.length_cons, List.length_nil, List.set_cons_zero, List.set_cons_succ, Nat.reduceAdd, Nat.reduceLT, xr_lt, xr_eq, xr_toInt, xr_0, xi_add, xi_sub, xi_mul, xr_div, xr_rm, Int.toNat_natCast, bd_t, true_and, and_true, not_false_eq_true, ↓reduceIte, ilt_t, ilt_f, ile_t, x_c1i, x_c1r, x_c1n, and_self, Option.toList_some, Option.toList_none, List.cons_append, List.nil_append, xr_01, xr_00, ieq_f, ieq_t]
  exact k_childrenOf_loop h p hx hQ 128 0 (by omega) l4
set_option maxHeartbeats 4000000 in
theorem k_capabilitiesFor_loop (h : Rel w A S ln) {T : Nat} (p : Nat → Prop) [DecidablePred p] (hx : ∀ q : Nat, q < 128 → 0 ≤ S 0 q → (Value.ref (thA A S (q : Int)) = Value.ref T ↔ p q)) (hQ : Q (some (.int (xi (cntL (fun q => 0 ≤ S 0 q ∧ p q) 128)))) w) : ∀ (d i : Nat), i + d = 128 → ∀ l4 : Option Value,
    WP P 31 4 [some (.ref (A 12 0)), some (.ref T), some (.int (xi (cntL (fun q => 0 ≤ S 0 q ∧ p q) i))), some (.int (xi i)), l4] [] w Q := by
  obtain ⟨⟨t0, t1, t2, t3, t4⟩, f0, f1, f2, f3⟩ := h.ker
  have hk : x_has w (A 12 0) [0] := ⟨_, _, t0, by decide⟩
  have hR : RgS s_zero := RgS.zero
  intro d
  induction d with
  | zero =>
    intro i hi l4
    obtain rfl : i = 128 := by omega
    have cb := cntL_in (fun q => 0 ≤ S 0 q ∧ p q) 128
    simp (disch := first | exact hR _ _ | exact x01a | exact x01b | (unfold x_r; omega) | assumption | omega) only [wK_capabilitiesFor_4, wK_capabilitiesFor_5, wK_capabilitiesFor_8, wK_capabilitiesFor_42, wK_capabilitiesFor_43, x_gi_int, x_ga_ref, x_ga_null, List.getElem?_cons_zero, List.getElem?_cons_succ, List.length_cons, List.length_nil, List.set_cons_zero, List.set_cons_succ, Nat.reduceAdd, Nat.reduceLT, xr_lt, xr_eq, xr_toInt, xr_0, xi_add, xi_sub, xi_mul, xr_div, xr_rm, Int.toNat_natCast, bd_t, true_and, and_true, not_false_eq_true, ↓reduceIte, ilt_t, ilt_f, ile_t, x_c1i, x_c1r, x_c1n, and_self, Option.toList_some, Option.toList_none, List.cons_append, List.nil_append, xr_01, xr_00, ieq_f, ieq_t]
    exact hQ
  | succ d ih =>
    intro i hi l4
    have sl := h.sl (p := i) (by omega)
    have ec : (xi (i : Int)).toNatClampNeg = i := by rw [x_cle (by omega) (by omega), Int.toNat_natCast]
    have nn := x_nn (e := (i : Int)) (by omega) (by omega)
    have nc := x_clt (e := (i : Int)) (n := 128) (by omega) (by omega) (by omega)
    have cb := cntL_in (fun q => 0 ≤ S 0 q ∧ p q) i
    have e1 : (i : Int) + 1 = ((i + 1 : Nat) : Int) := by omega
    rw [wK_capabilitiesFor_4]
    by_cases c1 : S 0 i < 0
    · rw [pv_n c1] at sl
      have ce : cntL (fun q => 0 ≤ S 0 q ∧ p q) (i + 1) = cntL (fun q => 0 ≤ S 0 q ∧ p q) i := by
        conv => lhs; unfold cntL
        rw [if_neg (fun x => by omega)]
        omega
      have i1 := ih (i + 1) (by omega) (some .null)
      rw [ce] at i1
      simp (disch := first | exact hR _ _ | exact x01a | exact x01b | (unfold x_r; omega) | assumption | omega) only [wK_capabilitiesFor_5, wK_capabilitiesFor_8, wK_capabilitiesFor_11, wK_capabilitiesFor_12, wK_capabilitiesFor_15, wK_capabilitiesFor_16 t1 (by omega) nn nc, wK_capabilitiesFor_17, wK_capabilitiesFor_17n, wK_capabilitiesFor_19, wK_capabilitiesFor_21n, wK_capabilitiesFor_21, wK_capabilitiesFor_36, wK_capabilitiesFor_39, hk, f0, ec, sl, e1, x_gi_int, x_ga_ref, x_ga_null, List.getElem?_cons_zero, List.getElem?_cons_succ, List.length_cons, List.length_nil, List.set_cons_zero, List.set_cons_succ, Nat.reduceAdd, Nat.reduceLT, xr_lt, xr_eq, xr_toInt, xr_0, xi_add, xi_sub, xi_mul, xr_div, xr_rm, Int.toNat_natCast, bd_t, true_and, and_true, not_false_eq_true, ↓reduceIte, ilt_t, ilt_f, ile_t, x_c1i, x_c1r, x_c1n, and_self, Option.toList_some, Option.toList_none, List.cons_append, List.nil_append, xr_01, xr_00, ieq_f, ieq_t]
      exact i1
    · rw [pv_r c1] at sl
      obtain ⟨ct, c0, c1', c2, c3, -⟩ := h.cap (p := (i : Int)) (by omega) (by omega) (by rw [Int.toNat_natCast]; omega)
      rw [Int.toNat_natCast] at c3
      have hc : x_has w (A 8 (i : Int)) [1] := ⟨_, _, ct, by decide⟩
      have hx1 := hx i (by omega) (by omega)
      obtain ⟨qv, hqv⟩ : ∃ o, x_rv (Value.ref (thA A S (i : Int))) = some o := by
        first
        | exact ⟨_, rfl⟩
        | (unfold pv; split <;> exact ⟨_, rfl⟩)
      have hqe : qv = some T ↔ p i := by
        rw [← hx1]
        constructor
        · intro e
          rw [e] at hqv
          revert hqv
          generalize Value.ref (thA A S (i : Int)) = v
          intro hqv
          cases v <;> simp [x_rv] at hqv
          rw [hqv]
        · intro e
          rw [e] at hqv
          simpa [x_rv] using hqv.symm
      by_cases c2 : p i
      · have ce : cntL (fun q => 0 ≤ S 0 q ∧ p q) (i + 1) = cntL (fun q => 0 ≤ S 0 q ∧ p q) i + 1 := by
          conv => lhs; unfold cntL
          rw [if_pos ⟨by omega, c2⟩]
        have i1 := ih (i + 1) (by omega) (some (.ref (A 8 (i : Int))))
        rw [ce] at i1
        have hq2 := hqe.2 c2
        simp (disch := first | exact hR _ _ | exact x01a | exact x01b | (unfold x_r; omega) | assumption | omega) only [wK_capabilitiesFor_5, wK_capabilitiesFor_8, wK_capabilitiesFor_11, wK_capabilitiesFor_12, wK_capabilitiesFor_15, wK_capabilitiesFor_16 t1 (by omega) nn nc, wK_capabilitiesFor_17, wK_capabilitiesFor_17n, wK_capabilitiesFor_19, wK_capabilitiesFor_21n, wK_capabilitiesFor_21, wK_capabilitiesFor_24, wK_capabilitiesFor_26, wK_capabilitiesFor_29, wK_capabilitiesFor_30 hqv (x_rv_r T), wK_capabilitiesFor_33, wK_capabilitiesFor_36, wK_capabilitiesFor_39, hk, hc, f0, ec, sl, c0, e1, hq2, x_gi_int, x_ga_ref, x_ga_null, List.getElem?_cons_zero, List.getElem?_cons_succ, List.length_cons, List.length_nil, List.set_cons_zero, List.set_cons_succ, Nat.reduceAdd, Nat.reduceLT, xr_lt, xr_eq, xr_toInt, xr_0, xi_add, xi_sub, xi_mul, xr_div, xr_rm, Int.toNat_natCast, bd_t, true_and, and_true, not_false_eq_true, ↓reduceIte, ilt_t, ilt_f, ile_t, x_c1i, x_c1r, x_c1n, and_self, Option.toList_some, Option.toList_none, List.cons_append, List.nil_append, xr_01, xr_00, ieq_f, ieq_t]
        exact i1
      · have ce : cntL (fun q => 0 ≤ S 0 q ∧ p q) (i + 1) = cntL (fun q => 0 ≤ S 0 q ∧ p q) i := by
          conv => lhs; unfold cntL
          rw [if_neg (fun x => c2 x.2)]
          omega
        have i1 := ih (i + 1) (by omega) (some (.ref (A 8 (i : Int))))
        rw [ce] at i1
        have hq2 : ¬ qv = some T := fun x => c2 (hqe.1 x)
        simp (disch := first | exact hR _ _ | exact x01a | exact x01b | (unfold x_r; omega) | assumption | omega) only [wK_capabilitiesFor_5, wK_capabilitiesFor_8, wK_capabilitiesFor_11, wK_capabilitiesFor_12, wK_capabilitiesFor_15, wK_capabilitiesFor_16 t1 (by omega) nn nc, wK_capabilitiesFor_17, wK_capabilitiesFor_17n, wK_capabilitiesFor_19, wK_capabilitiesFor_21n, wK_capabilitiesFor_21, wK_capabilitiesFor_24, wK_capabilitiesFor_26, wK_capabilitiesFor_29, wK_capabilitiesFor_30 hqv (x_rv_r T), wK_capabilitiesFor_36, wK_capabilitiesFor_39, hk, hc, f0, ec, sl, c0, e1, hq2, x_gi_int, x_ga_ref, x_ga_null, List.getElem?_cons_zero, List.getElem?_cons_succ, List.length_cons, List.length_nil, List.set_cons_zero, List.set_cons_succ, Nat.reduceAdd, Nat.reduceLT, xr_lt, xr_eq, xr_toInt, xr_0, xi_add, xi_sub, xi_mul, xr_div, xr_rm, Int.toNat_natCast, bd_t, true_and, and_true, not_false_eq_true, ↓reduceIte, ilt_t, ilt_f, ile_t, x_c1i, x_c1r, x_c1n, and_self, Option.toList_some, Option.toList_none, List.cons_append, List.nil_append, xr_01, xr_00, ieq_f, ieq_t]
        exact i1
theorem k_capabilitiesFor (h : Rel w A S ln) {T : Nat} (p : Nat → Prop) [DecidablePred p] (hx : ∀ q : Nat, q < 128 → 0 ≤ S 0 q → (Value.ref (thA A S (q : Int)) = Value.ref T ↔ p q)) (hQ : Q (some (.int (xi (cntL (fun q => 0 ≤ S 0 q ∧ p q) 128)))) w) {l2 l3 l4 : Option Value} : WP P 31 0 [some (.ref (A 12 0)), some (.ref T), l2, l3, l4] [] w Q := by
  simp (disch := first | exact hR _ _ | exact x01a | exact x01b | (unfold x_r; omega) | assumption | omega) only [wK_capabilitiesFor_0, wK_capabilitiesFor_1, wK_capabilitiesFor_2, wK_capabilitiesFor_3, x_gi_int, x_ga_ref, x_ga_null, List.getElem?_cons_zero, List.getElem?_cons_succ, List.length_cons, List.length_nil, List.set_cons_zero, List.set_cons_succ, Nat.reduceAdd, Nat.reduceLT, xr_lt, xr_eq, xr_toInt, xr_0, xi_add, xi_sub, xi_mul, xr_div, xr_rm, Int.toNat_natCast, bd_t, true_and, and_true, not_false_eq_true, ↓reduceIte, ilt_t, ilt_f, ile_t, x_c1i, x_c1r, x_c1n, and_self, Option.toList_some, Option.toList_none, List.cons_append, List.nil_append, xr_01, xr_00, ieq_f, ieq_t]
  exact k_capabilitiesFor_loop h p hx hQ 128 0 (by omega) l4
end KE
