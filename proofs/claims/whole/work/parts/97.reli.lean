/-! ===== maps ===== -/
theorem Fv_25 {A : xA} {S T : xS} {ln : Nat → Int} {l : Nat} (e : ∀ j, j ≠ 25 → j ≠ 26 → T j = S j) (o : ∀ i, i ≠ l → T 25 i = S 25 i ∧ T 26 i = S 26 i) {k i : Int} {f : Nat} (h10 : k ≠ 10) (h6 : ¬ (k = 6 ∧ (i / 4).toNat = l)) : xFv A T ln k i f = xFv A S ln k i f := by
  by_cases c : k < 8 ∧ k ≠ 0 ∧ k ≠ 2
  · unfold xFv
    simp only [if_neg c.2.1, if_neg c.2.2, if_pos c.1]
    unfold Fthi
    rw [e 24 (by omega) (by omega)]
    by_cases c6 : k = 6
    · have := o (i / 4).toNat (fun x => h6 ⟨c6, x⟩)
      rw [this.1, this.2]
    · simp only [c6, if_false]
  · exact Fv_dep (fun j hj => e j (fun x => by have := dep_no.2.2.2.2.2.2.1 (Or.inl x) hj; omega) (fun x => by have := dep_no.2.2.2.2.2.2.1 (Or.inr x) hj; omega))
theorem Fv_7 {A : xA} {S T : xS} {ln : Nat → Int} {p : Nat} (e : ∀ j, j ≠ 7 → j ≠ 8 → T j = S j) (o : ∀ i, i ≠ p → T 7 i = S 7 i ∧ T 8 i = S 8 i) {k i : Int} {f : Nat} (h11 : k ≠ 11) (h8 : ¬ (k = 8 ∧ i.toNat = p)) : xFv A T ln k i f = xFv A S ln k i f := by
  by_cases c : k = 8
  · rw [c]
    show Fcap A T i f = Fcap A S i f
    have := o i.toNat (fun x => h8 ⟨c, x⟩)
    unfold Fcap thA
    rw [e 0 (by omega) (by omega), e 1 (by omega) (by omega), e 2 (by omega) (by omega), e 3 (by omega) (by omega), e 4 (by omega) (by omega), e 9 (by omega) (by omega), this.1, this.2]
  · exact Fv_dep (fun j hj => e j (fun x => by have := dep_no.2.2.2.2.1 (Or.inl x) hj; omega) (fun x => by have := dep_no.2.2.2.2.1 (Or.inr x) hj; omega))
theorem leafOf_map {S T : xS} (hS : MpA S) (hT : MpA T) (hh : ∀ u, hd T 6 u ↔ hd S 6 u) {l : Nat} (hl : l < 32) (h6 : hd S 6 (4 * (l : Int))) (o : ∀ i, i ≠ l → T 25 i = S 25 i ∧ T 26 i = S 26 i) (h0 : S 25 l = -1) {u' e' : Int} (hu : 0 ≤ u') : s_leafOf T u' e' = if u' = T 25 l ∧ e' = T 26 l then 4 * (l : Int) else s_leafOf S u' e' := by
  by_cases c : u' = T 25 l ∧ e' = T 26 l
  · rw [if_pos c]
    exact leafOf_eq hT hl ((hh _).2 h6) c.1.symm c.2.symm (by omega)
  · rw [if_neg c]
    by_cases d : 0 ≤ s_leafOf S u' e'
    · obtain ⟨i, i1, i2, i3, i4, i5⟩ := leafOf_is d
      have ne : i ≠ l := fun x => by rw [x] at i4; omega
      rw [i2]
      exact leafOf_eq hT i1 ((hh _).2 i3) (by rw [(o i ne).1]; exact i4) (by rw [(o i ne).2]; exact i5) (by omega)
    · have := s_leafOf_in S u' e'
      rw [show s_leafOf S u' e' = -1 by omega]
      refine leafOf_no (fun i i1 i2 i3 i4 => ?_)
      by_cases ne : i = l
      · rw [ne] at i3 i4
        exact c ⟨i3.symm, i4.symm⟩
      · have := leafOf_eq (u := u') (e := e') hS i1 ((hh _).1 i2) (by rw [← (o i ne).1]; exact i3) (by rw [← (o i ne).2]; exact i4) (by omega)
        omega
theorem leafOf_unm {S T : xS} (hS : MpA S) (hh : ∀ u, hd T 6 u ↔ hd S 6 u) {l : Nat} (hl : l < 32) (h6 : hd S 6 (4 * (l : Int))) (o : ∀ i, i ≠ l → T 25 i = S 25 i ∧ T 26 i = S 26 i) (h0 : T 25 l = -1) {u' e' : Int} (hu : 0 ≤ u') : s_leafOf T u' e' = if u' = S 25 l ∧ e' = S 26 l then -1 else s_leafOf S u' e' := by
  have nT : ∀ i : Nat, i < 32 → hd T 6 (4 * (i : Int)) → T 25 i = u' → T 26 i = e' → i ≠ l ∧ s_leafOf S u' e' = 4 * (i : Int) := by
    intro i i1 i2 i3 i4
    have ne : i ≠ l := fun x => by rw [x] at i3; omega
    exact ⟨ne, leafOf_eq hS i1 ((hh _).1 i2) (by rw [← (o i ne).1]; exact i3) (by rw [← (o i ne).2]; exact i4) (by omega)⟩
  by_cases c : u' = S 25 l ∧ e' = S 26 l
  · rw [if_pos c]
    refine leafOf_no (fun i i1 i2 i3 i4 => ?_)
    obtain ⟨ne, q⟩ := nT i i1 i2 i3 i4
    have := leafOf_eq hS hl h6 c.1.symm c.2.symm (by omega)
    omega
  · rw [if_neg c]
    by_cases d : 0 ≤ s_leafOf T u' e'
    · obtain ⟨i, i1, i2, i3, i4, i5⟩ := leafOf_is d
      rw [i2, (nT i i1 i3 i4 i5).2]
    · have := s_leafOf_in T u' e'
      rw [show s_leafOf T u' e' = -1 by omega]
      symm
      refine leafOf_no (fun i i1 i2 i3 i4 => ?_)
      by_cases ne : i = l
      · rw [ne] at i3 i4
        exact c ⟨i3.symm, i4.symm⟩
      · apply d
        unfold s_leafOf
        by_cases z : lfL T u' e' 32 0 < 0
        · exact absurd ⟨(s_there_hd (by omega)).2 ⟨by omega, by omega, (hh _).2 i2⟩, by rw [(o i ne).1]; exact i3, by rw [(o i ne).2]; exact i4⟩ (lfL_no 32 0 z i (by omega) (by omega))
        · omega
theorem frameOf_map {S T : xS} (hS : MpB S) (hT : MpB T) (h0 : T 0 = S 0) {p : Nat} (hp : p < 128) (h7 : S 0 p = 7) (o : ∀ i, i ≠ p → T 7 i = S 7 i ∧ T 8 i = S 8 i) (hn : S 7 p = -1) {l' e' : Int} (hu : 0 ≤ l') : s_frameOf T l' e' = if l' = T 7 p ∧ e' = T 8 p then (p : Int) else s_frameOf S l' e' := by
  by_cases c : l' = T 7 p ∧ e' = T 8 p
  · rw [if_pos c]
    exact frameOf_eq hT hp (by rw [h0]; exact h7) c.1.symm c.2.symm (by omega)
  · rw [if_neg c]
    by_cases d : 0 ≤ s_frameOf S l' e'
    · obtain ⟨i1, i2, i3, i4⟩ := frameOf_is d
      have ne : (s_frameOf S l' e').toNat ≠ p := fun x => by rw [x] at i3; omega
      have := frameOf_eq (l := l') (e := e') (i := (s_frameOf S l' e').toNat) hT (by omega) (by rw [h0]; exact i2) (by rw [(o _ ne).1]; exact i3) (by rw [(o _ ne).2]; exact i4) (by omega)
      omega
    · have := s_frameOf_in S l' e'
      rw [show s_frameOf S l' e' = -1 by omega]
      refine frameOf_no (fun i i1 i2 i3 i4 => ?_)
      by_cases ne : i = p
      · rw [ne] at i3 i4
        exact c ⟨i3.symm, i4.symm⟩
      · have := frameOf_eq (l := l') (e := e') hS i1 (by rw [← h0]; exact i2) (by rw [← (o i ne).1]; exact i3) (by rw [← (o i ne).2]; exact i4) (by omega)
        omega
/-- the frame at p is taken out, or its capability goes -/
theorem frameOf_unm {S T : xS} (hS : MpB S) {p : Nat} (hp : p < 128) (o0 : ∀ i, i < 128 → i ≠ p → T 0 i = S 0 i) (o : ∀ i, i ≠ p → T 7 i = S 7 i ∧ T 8 i = S 8 i) (hn : T 7 p = -1 ∨ T 0 p ≠ 7) {l' e' : Int} (hu : 0 ≤ l') : s_frameOf T l' e' = if S 0 p = 7 ∧ l' = S 7 p ∧ e' = S 8 p then -1 else s_frameOf S l' e' := by
  have nT : ∀ i : Nat, i < 128 → T 0 i = 7 → T 7 i = l' → T 8 i = e' → i ≠ p ∧ s_frameOf S l' e' = (i : Int) := by
    intro i i1 i2 i3 i4
    have ne : i ≠ p := fun x => by rw [x] at i2 i3; omega
    exact ⟨ne, frameOf_eq hS i1 (by rw [← o0 i i1 ne]; exact i2) (by rw [← (o i ne).1]; exact i3) (by rw [← (o i ne).2]; exact i4) (by omega)⟩
  by_cases c : S 0 p = 7 ∧ l' = S 7 p ∧ e' = S 8 p
  · rw [if_pos c]
    refine frameOf_no (fun i i1 i2 i3 i4 => ?_)
    obtain ⟨ne, q⟩ := nT i i1 i2 i3 i4
    have := frameOf_eq hS hp c.1 c.2.1.symm c.2.2.symm (by omega)
    omega
  · rw [if_neg c]
    by_cases d : 0 ≤ s_frameOf T l' e'
    · obtain ⟨i1, i2, i3, i4⟩ := frameOf_is d
      have := (nT _ (by omega) i2 i3 i4).2
      omega
    · have := s_frameOf_in T l' e'
      rw [show s_frameOf T l' e' = -1 by omega]
      symm
      refine frameOf_no (fun i i1 i2 i3 i4 => ?_)
      by_cases ne : i = p
      · rw [ne] at i2 i3 i4
        exact c ⟨i2, i3.symm, i4.symm⟩
      · apply d
        unfold s_frameOf
        by_cases z : frL T l' e' 128 0 < 0
        · exact absurd ⟨by rw [o0 i i1 ne]; exact i2, by rw [(o i ne).1]; exact i3, by rw [(o i ne).2]; exact i4⟩ (frL_no 128 0 z i (by omega) (by omega))
        · omega
section MA
variable {P : xP} {w : xH} {Q : Option Value → xH → Prop} {A : xA} {S : xS} {ln : Nat → Int}
theorem k_leaveLeafF {U : Int → Int → Prop} {F : Int → Int → Nat → Option Value} (h : Hp w A U F) {p lf e : Int} (u8 : U 8 p) (f5 : F 8 p 5 = some (pv lf (A 6 lf))) (hl : ¬ lf < 0 → F 8 p 6 = some (.int (xi e)) ∧ U 6 lf ∧ F 6 lf 4 = some (.ref (A 11 lf)) ∧ U 11 lf ∧ 0 ≤ e ∧ e < 4) (hQ : ∀ w', Hp w' A U (if lf < 0 then F else fup (fup F 11 lf e.toNat .null) 8 p 5 .null) → Fr w w' 0 → Q none w') : WP P 30 0 [some (.ref (A 8 p))] [] w Q := by
  have hR : RgS s_zero := RgS.zero
  have tc := h.tg u8
  have hc : x_has w (A 8 p) [1] := ⟨_, _, tc, by decide⟩
  have r5 := h.fd u8 f5
  by_cases c : lf < 0
  · rw [if_pos c] at hQ
    rw [pv_n c] at r5
    simp (disch := first | exact hR _ _ | exact x01a | exact x01b | (unfold x_r; omega) | assumption | omega) only [wK_leaveLeaf_0, wK_leaveLeaf_1, wK_leaveLeaf_4n, wK_leaveLeaf_4, wK_leaveLeaf_25, hc, r5, x_gi_int, x_ga_ref, x_ga_null, List.getElem?_cons_zero, List.getElem?_cons_succ, List.length_cons, List.length_nil, List.set_cons_zero, List.set_cons_succ, Nat.reduceAdd, Nat.reduceLT, xr_lt, xr_eq, xr_toInt, xr_0, xi_add, xi_sub, xi_mul, xr_div, xr_rm, Int.toNat_natCast, bd_t, true_and, and_true, not_false_eq_true, ↓reduceIte, ilt_t, ilt_f, ile_t, x_c1i, x_c1r, x_c1n, and_self, Option.toList_some, Option.toList_none, List.cons_append, List.nil_append, xr_01, xr_00, ieq_f, ieq_t]
    exact hQ w h (Fr.refl w)
  · rw [if_neg c] at hQ
    rw [pv_r c] at r5
    obtain ⟨f6, u6, f4, u11, e0, e1⟩ := hl c
    have r6 := h.fd u8 f6
    have r4 := h.fd u6 f4
    have h6 : x_has w (A 6 lf) [9] := ⟨_, _, h.tg u6, by decide⟩
    have t11 : x_tg w (A 11 lf) = some (31, 4) := h.tg u11
    have ec := x_cle (e := e) (by omega) (by omega)
    have nn := x_nn (e := e) (by omega) (by omega)
    have nc := x_clt (e := e) (n := 4) (by omega) (by omega) (by omega)
    simp (disch := first | exact hR _ _ | exact x01a | exact x01b | (unfold x_r; omega) | assumption | omega) only [wK_leaveLeaf_0, wK_leaveLeaf_1, wK_leaveLeaf_4n, wK_leaveLeaf_4, wK_leaveLeaf_7, wK_leaveLeaf_8, wK_leaveLeaf_11, wK_leaveLeaf_14, wK_leaveLeaf_15, wK_leaveLeaf_18, wK_leaveLeaf_19n t11 (by omega) nn nc, wK_leaveLeaf_20, wK_leaveLeaf_21, wK_leaveLeaf_22, wK_leaveLeaf_25, x_has_put, x_f2n, hc, h6, r5, r6, r4, ec, x_gi_int, x_ga_ref, x_ga_null, List.getElem?_cons_zero, List.getElem?_cons_succ, List.length_cons, List.length_nil, List.set_cons_zero, List.set_cons_succ, Nat.reduceAdd, Nat.reduceLT, xr_lt, xr_eq, xr_toInt, xr_0, xi_add, xi_sub, xi_mul, xr_div, xr_rm, Int.toNat_natCast, bd_t, true_and, and_true, not_false_eq_true, ↓reduceIte, ilt_t, ilt_f, ile_t, x_c1i, x_c1r, x_c1n, and_self, Option.toList_some, Option.toList_none, List.cons_append, List.nil_append, xr_01, xr_00, ieq_f, ieq_t]
    exact hQ _ ((h.put u11 e.toNat .null).put u8 5 .null) ((h.put u11 e.toNat .null).frp (h.frp (Fr.refl w) u11 _ _) u8 5 _)
theorem k_leaveSpaceF {U : Int → Int → Prop} {F : Int → Int → Nat → Option Value} (h : Hp w A U F) {lu su e : Int} (u6 : U 6 lu) (f2 : F 6 lu 2 = some (pv su (A 5 su))) (hl : ¬ su < 0 → F 6 lu 3 = some (.int (xi e)) ∧ U 5 su ∧ F 5 su 2 = some (.ref (A 10 su)) ∧ U 10 su ∧ 0 ≤ e ∧ e < 4) (hQ : ∀ w', Hp w' A U (if su < 0 then F else fup (fup F 10 su e.toNat .null) 6 lu 2 .null) → Fr w w' 0 → Q none w') : WP P 38 0 [some (.ref (A 6 lu))] [] w Q := by
  have hR : RgS s_zero := RgS.zero
  have hc : x_has w (A 6 lu) [9] := ⟨_, _, h.tg u6, by decide⟩
  have r5 := h.fd u6 f2
  by_cases c : su < 0
  · rw [if_pos c] at hQ
    rw [pv_n c] at r5
    simp (disch := first | exact hR _ _ | exact x01a | exact x01b | (unfold x_r; omega) | assumption | omega) only [wK_leaveSpace_0, wK_leaveSpace_1, wK_leaveSpace_4n, wK_leaveSpace_4, wK_leaveSpace_25, hc, r5, x_gi_int, x_ga_ref, x_ga_null, List.getElem?_cons_zero, List.getElem?_cons_succ, List.length_cons, List.length_nil, List.set_cons_zero, List.set_cons_succ, Nat.reduceAdd, Nat.reduceLT, xr_lt, xr_eq, xr_toInt, xr_0, xi_add, xi_sub, xi_mul, xr_div, xr_rm, Int.toNat_natCast, bd_t, true_and, and_true, not_false_eq_true, ↓reduceIte, ilt_t, ilt_f, ile_t, x_c1i, x_c1r, x_c1n, and_self, Option.toList_some, Option.toList_none, List.cons_append, List.nil_append, xr_01, xr_00, ieq_f, ieq_t]
    exact hQ w h (Fr.refl w)
  · rw [if_neg c] at hQ
    rw [pv_r c] at r5
    obtain ⟨f3, u5, f4, u10, e0, e1⟩ := hl c
    have r6 := h.fd u6 f3
    have r4 := h.fd u5 f4
    have h5 : x_has w (A 5 su) [8] := ⟨_, _, h.tg u5, by decide⟩
    have t10 : x_tg w (A 10 su) = some (39, 4) := h.tg u10
    have ec := x_cle (e := e) (by omega) (by omega)
    have nn := x_nn (e := e) (by omega) (by omega)
    have nc := x_clt (e := e) (n := 4) (by omega) (by omega) (by omega)
    simp (disch := first | exact hR _ _ | exact x01a | exact x01b | (unfold x_r; omega) | assumption | omega) only [wK_leaveSpace_0, wK_leaveSpace_1, wK_leaveSpace_4n, wK_leaveSpace_4, wK_leaveSpace_7, wK_leaveSpace_8, wK_leaveSpace_11, wK_leaveSpace_14, wK_leaveSpace_15, wK_leaveSpace_18, wK_leaveSpace_19n t10 (by omega) nn nc, wK_leaveSpace_20, wK_leaveSpace_21, wK_leaveSpace_22, wK_leaveSpace_25, x_has_put, x_f2n, hc, h5, r5, r6, r4, ec, x_gi_int, x_ga_ref, x_ga_null, List.getElem?_cons_zero, List.getElem?_cons_succ, List.length_cons, List.length_nil, List.set_cons_zero, List.set_cons_succ, Nat.reduceAdd, Nat.reduceLT, xr_lt, xr_eq, xr_toInt, xr_0, xi_add, xi_sub, xi_mul, xr_div, xr_rm, Int.toNat_natCast, bd_t, true_and, and_true, not_false_eq_true, ↓reduceIte, ilt_t, ilt_f, ile_t, x_c1i, x_c1r, x_c1n, and_self, Option.toList_some, Option.toList_none, List.cons_append, List.nil_append, xr_01, xr_00, ieq_f, ieq_t]
    exact hQ _ ((h.put u10 e.toNat .null).put u6 2 .null) ((h.put u10 e.toNat .null).frp (h.frp (Fr.refl w) u10 _ _) u6 2 _)
end MA
