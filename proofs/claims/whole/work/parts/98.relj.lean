section MB
variable {P : xP} {w : xH} {Q : Option Value → xH → Prop} {A : xA} {S : xS} {ln : Nat → Int}
/-- a leaf's or a frame's numbers changed -/
theorem Hp.mapl {T : xS} {F : Int → Int → Nat → Option Value} (h : Hp w A (us S) F) (hA : CapA S) {l : Nat} (e : ∀ j, j ≠ 25 → j ≠ 26 → T j = S j) (o : ∀ i, i ≠ l → T 25 i = S 25 i ∧ T 26 i = S 26 i) (hf : ∀ k i f, k ≠ 10 → ¬ (k = 6 ∧ i = 4 * (l : Int)) → F k i f = xFv A S ln k i f) (h6 : ∀ f v, Fthi A T 6 (4 * (l : Int)) f = some v → F 6 (4 * (l : Int)) f = some v) (h10 : ∀ u : Int, 0 ≤ u → hd S 5 u → ∀ f : Nat, f < 4 → F 10 u f = some (pv (s_leafOf T u f) (A 6 (s_leafOf T u f)))) : Rel w A T ln := by
  have eu := us_cg (S := S) (S' := T) (e 0 (by omega) (by omega)) (e 1 (by omega) (by omega))
  refine h.to (fun k i u => ⟨by rw [← eu]; exact u, rfl⟩) (fun k i f v u q => ?_)
  rw [eu] at u
  by_cases c10 : k = 10
  · rw [c10] at u q ⊢
    have h5 : hd S 5 i := by
      unfold us at u
      rcases u with z | z | z | z | z | z | z
      all_goals first | exact z.2 | omega
    have q : (if f < 4 then some (pv (s_leafOf T i f) (A 6 (s_leafOf T i f))) else none) = some v := q
    by_cases f4 : f < 4
    · rw [if_pos f4] at q
      rw [h10 i (hA.hd h5).1 h5 f f4]; exact q
    · rw [if_neg f4] at q; cases q
  by_cases c6 : k = 6 ∧ i = 4 * (l : Int)
  · rw [c6.1, c6.2] at q ⊢
    exact h6 f v q
  · rw [hf k i f c10 c6, ← q]
    refine (Fv_25 e o c10 (fun x => c6 ⟨x.1, ?_⟩)).symm
    rw [x.1] at u
    have g6 : hd S 6 i := by
      unfold us at u
      rcases u with z | z | z | z | z | z | z
      all_goals first | exact z.2.2 | omega
    have a1 : i % 4 = 0 := (hd_al hA (by omega) g6).1
    have a2 := hA.hd g6
    omega
theorem Hp.mapf {T : xS} {F : Int → Int → Nat → Option Value} (h : Hp w A (us S) F) (hA : CapA S) {p : Nat} (e : ∀ j, j ≠ 7 → j ≠ 8 → T j = S j) (o : ∀ i, i ≠ p → T 7 i = S 7 i ∧ T 8 i = S 8 i) (hf : ∀ k i f, k ≠ 11 → ¬ (k = 8 ∧ i = (p : Int)) → F k i f = xFv A S ln k i f) (h8 : ∀ f v, Fcap A T (p : Int) f = some v → F 8 (p : Int) f = some v) (h11 : ∀ u : Int, 0 ≤ u → hd S 6 u → ∀ f : Nat, f < 4 → F 11 u f = some (pv (s_frameOf T u f) (A 8 (s_frameOf T u f)))) : Rel w A T ln := by
  have eu := us_cg (S := S) (S' := T) (e 0 (by omega) (by omega)) (e 1 (by omega) (by omega))
  refine h.to (fun k i u => ⟨by rw [← eu]; exact u, rfl⟩) (fun k i f v u q => ?_)
  rw [eu] at u
  by_cases c11 : k = 11
  · rw [c11] at u q ⊢
    have h5 : hd S 6 i := by
      unfold us at u
      rcases u with z | z | z | z | z | z | z
      all_goals first | exact z.2 | omega
    have q : (if f < 4 then some (pv (s_frameOf T i f) (A 8 (s_frameOf T i f))) else none) = some v := q
    by_cases f4 : f < 4
    · rw [if_pos f4] at q
      rw [h11 i (hA.hd h5).1 h5 f f4]; exact q
    · rw [if_neg f4] at q; cases q
  by_cases c8 : k = 8 ∧ i = (p : Int)
  · rw [c8.1, c8.2] at q ⊢
    exact h8 f v q
  · rw [hf k i f c11 c8, ← q]
    refine (Fv_7 e o c11 (fun x => c8 ⟨x.1, ?_⟩)).symm
    rw [x.1] at u
    unfold us at u
    rcases u with z | z | z | z | z | z | z <;> omega
theorem Fthi_6 {T : xS} {u : Int} {p : Nat → Value → Prop} (h0 : p 0 (.int (xi 6))) (h1 : p 1 (.int (xi u))) (h2 : p 2 (pv (T 25 (u / 4).toNat) (A 5 (T 25 (u / 4).toNat)))) (h3 : ¬ T 25 (u / 4).toNat < 0 → p 3 (.int (xi (T 26 (u / 4).toNat)))) (h4 : p 4 (.ref (A 11 u))) : ∀ f v, Fthi A T 6 u f = some v → p f v := by
  intro f v e
  unfold Fthi at e
  by_cases c0 : f = 0
  · rw [if_pos c0] at e; rw [c0, ← Option.some.inj e]; exact h0
  rw [if_neg c0] at e
  by_cases c1 : f = 1
  · rw [if_pos c1] at e; rw [c1, ← Option.some.inj e]; exact h1
  rw [if_neg c1] at e
  by_cases c2 : f = 2
  · rw [if_pos c2, if_neg (by omega), if_neg (by omega), if_pos rfl] at e; rw [c2, ← Option.some.inj e]; exact h2
  rw [if_neg c2] at e
  by_cases c3 : f = 3
  · rw [if_pos c3, if_neg (by omega), if_pos rfl] at e
    by_cases d : T 25 (u / 4).toNat < 0
    · rw [if_pos d] at e; cases e
    · rw [if_neg d] at e; rw [c3, ← Option.some.inj e]; exact h3 d
  rw [if_neg c3] at e
  by_cases c4 : f = 4
  · rw [if_pos c4, if_pos rfl] at e; rw [c4, ← Option.some.inj e]; exact h4
  · rw [if_neg c4] at e; cases e
/-- a leaf leaves its space -/
theorem Hp.lsp (h : Rel w A S ln) (hA : CapA S) (hM : MpA S) {l : Nat} (hl : l < 32) (h6 : hd S 6 (4 * (l : Int))) (hs : ¬ S 25 l < 0) {w' : xH} (hw : Hp w' A (us S) (fup (fup (xFv A S ln) 10 (S 25 l) (S 26 l).toNat .null) 6 (4 * (l : Int)) 2 .null)) (h26 : 0 ≤ S 26 l) : Rel w' A (sset S 25 l (-1)) ln := by
  have e : ∀ j, j ≠ 25 → j ≠ 26 → sset S 25 l (-1) j = S j := fun j a _ => sset_o a
  have o : ∀ i, i ≠ l → sset S 25 l (-1) 25 i = S 25 i ∧ sset S 25 l (-1) 26 i = S 26 i := fun i hi => ⟨by rw [sset_at, if_neg (fun x => hi x.2)], by rw [sset_o (by omega)]⟩
  have t25 : sset S 25 l (-1) 25 l = -1 := by rw [sset_at, if_pos ⟨rfl, rfl⟩]
  have el : ((4 * (l : Int)) / 4).toNat = l := by omega
  refine hw.mapl hA e o (fun k i f c10 c6 => ?_) ?_ (fun u u0 u5 f f4 => ?_)
  · rw [fup_n (fun x => c6 ⟨x.1, x.2.1⟩), fup_n (fun x => c10 x.1)]
  · have q : ∀ f, xFv A S ln 6 (4 * (l : Int)) f = Fthi A S 6 (4 * (l : Int)) f := fun f => rfl
    refine Fthi_6 (p := fun f v => fup (fup (xFv A S ln) 10 (S 25 l) (S 26 l).toNat .null) 6 (4 * (l : Int)) 2 .null 6 (4 * (l : Int)) f = some v) ?_ ?_ ?_ (fun x => ?_) ?_
    · rw [fup_n (by omega), fup_n (by omega), q]; rfl
    · rw [fup_n (by omega), fup_n (by omega), q]; rfl
    · rw [fup_e, el, t25, pv_n (by omega)]
    · rw [el, t25] at x; omega
    · rw [fup_n (by omega), fup_n (by omega), q]; rfl
  · rw [fup_n (by omega), leafOf_unm hM (fun u => by rw [hd_cg (e 0 (by omega) (by omega)) (e 1 (by omega) (by omega))]) hl h6 o t25 u0]
    by_cases c : u = S 25 l ∧ (f : Int) = S 26 l
    · rw [if_pos c, pv_n (by omega), c.1, show f = (S 26 l).toNat by omega, fup_e]
    · rw [if_neg c, fup_n (fun x => c ⟨x.2.1, by omega⟩)]
      show (if f < 4 then some (pv (s_leafOf S u f) (A 6 (s_leafOf S u f))) else none) = _
      rw [if_pos f4]
/-- a frame leaves its leaf -/
theorem Hp.llf (hA : CapA S) (hM : MpB S) {p : Nat} (hp : p < 128) (hl : 0 ≤ S 0 p) (hs : ¬ S 7 p < 0) {w' : xH} (hw : Hp w' A (us S) (fup (fup (xFv A S ln) 11 (S 7 p) (S 8 p).toNat .null) 8 (p : Int) 5 .null)) (h8 : 0 ≤ S 8 p) : Rel w' A (sset S 7 p (-1)) ln := by
  have e : ∀ j, j ≠ 7 → j ≠ 8 → sset S 7 p (-1) j = S j := fun j a _ => sset_o a
  have o : ∀ i, i ≠ p → sset S 7 p (-1) 7 i = S 7 i ∧ sset S 7 p (-1) 8 i = S 8 i := fun i hi => ⟨by rw [sset_at, if_neg (fun x => hi x.2)], by rw [sset_o (by omega)]⟩
  have t7 : sset S 7 p (-1) 7 p = -1 := by rw [sset_at, if_pos ⟨rfl, rfl⟩]
  have k7 : S 0 p = 7 := ((hM.1 p hp hl).resolve_left (fun x => by omega)).1
  refine hw.mapf hA e o (fun k i f c11 c8 => ?_) ?_ (fun u u0 u5 f f4 => ?_)
  · rw [fup_n (fun x => c8 ⟨x.1, x.2.1⟩), fup_n (fun x => c11 x.1)]
  · have q : ∀ f, xFv A S ln 8 (p : Int) f = Fcap A S (p : Int) f := fun f => rfl
    refine Fcap_all (p := fun f v => fup (fup (xFv A S ln) 11 (S 7 p) (S 8 p).toNat .null) 8 (p : Int) 5 .null 8 (p : Int) f = some v) ?_ ?_ ?_ ?_ ?_ ?_ (fun x => ?_) ?_
    · rw [fup_n (by omega), fup_n (by omega), q]
      unfold Fcap thA
      rw [e 0 (by omega) (by omega), e 1 (by omega) (by omega)]; rfl
    · rw [fup_n (by omega), fup_n (by omega), q, e 2 (by omega) (by omega)]; rfl
    · rw [fup_n (by omega), fup_n (by omega), q, e 3 (by omega) (by omega)]; rfl
    · rw [fup_n (by omega), fup_n (by omega), q, e 4 (by omega) (by omega)]; rfl
    · rw [fup_n (by omega), fup_n (by omega), q]; rfl
    · rw [fup_e, Int.toNat_natCast, t7, pv_n (by omega)]
    · rw [Int.toNat_natCast, t7] at x; omega
    · rw [fup_n (by omega), fup_n (by omega), q, e 9 (by omega) (by omega)]; rfl
  · rw [fup_n (by omega), frameOf_unm hM hp (fun i _ _ => by rw [e 0 (by omega) (by omega)]) o (Or.inl t7) u0]
    by_cases c : S 0 p = 7 ∧ u = S 7 p ∧ (f : Int) = S 8 p
    · rw [if_pos c, pv_n (by omega), c.2.1, show f = (S 8 p).toNat by omega, fup_e]
    · rw [if_neg c, fup_n (fun x => c ⟨k7, x.2.1, by omega⟩)]
      show (if f < 4 then some (pv (s_frameOf S u f) (A 8 (s_frameOf S u f))) else none) = _
      rw [if_pos f4]
set_option maxHeartbeats 8000000 in
theorem k_unmap (h : Rel w A S (lid S)) (hI : Inv S) {c : Int} (hc' : x_r c) {l2 l3 l4 l5 : Option Value} (hQ : ∀ w', Rel w' A (s_unmap S c).2 (lid (s_unmap S c).2) → Fr w w' 0 → Q (some (.int (xi (s_unmap S c).1))) w') : WP P 62 0 [some (.ref (A 12 0)), some (.int (xi c)), l2, l3, l4, l5] [] w Q := by
  obtain ⟨⟨t0, t1, t2, t3, t4⟩, f0, f1, f2, f3⟩ := h.ker
  have hR := hI.1.1
  have hA := hI.1.2.1
  have hn := s_now_in S
  unfold s_unmap at hQ
  simp (disch := first | exact hR _ _ | exact x01a | exact x01b | (unfold x_r; omega) | assumption | omega) only [wK_unmap_0, x_gi_int, x_ga_ref, x_ga_null, List.getElem?_cons_zero, List.getElem?_cons_succ, List.length_cons, List.length_nil, List.set_cons_zero, List.set_cons_succ, Nat.reduceAdd, Nat.reduceLT, xr_lt, xr_eq, xr_toInt, xr_0, xi_add, xi_sub, xi_mul, xr_div, xr_rm, Int.toNat_natCast, bd_t, true_and, and_true, not_false_eq_true, ↓reduceIte, ilt_t, ilt_f, ile_t, x_c1i, x_c1r, x_c1n, and_self, Option.toList_some, Option.toList_none, List.cons_append, List.nil_append, xr_01, xr_00, ieq_f, ieq_t]
  refine wK_unmap_1 t0 (by simp) rfl rfl (k_currentThread h hI ?_)
  by_cases c1 : s_now S < 0
  · rw [if_pos c1] at hQ
    rw [pv_n c1]
    simp (disch := first | exact hR _ _ | exact x01a | exact x01b | (unfold x_r; omega) | assumption | omega) only [wK_unmap_4, wK_unmap_4n, wK_unmap_5, wK_unmap_6n, wK_unmap_6, wK_unmap_9, wK_unmap_11, x_gi_int, x_ga_ref, x_ga_null, List.getElem?_cons_zero, List.getElem?_cons_succ, List.length_cons, List.length_nil, List.set_cons_zero, List.set_cons_succ, Nat.reduceAdd, Nat.reduceLT, xr_lt, xr_eq, xr_toInt, xr_0, xi_add, xi_sub, xi_mul, xr_div, xr_rm, Int.toNat_natCast, bd_t, true_and, and_true, not_false_eq_true, ↓reduceIte, ilt_t, ilt_f, ile_t, x_c1i, x_c1r, x_c1n, and_self, Option.toList_some, Option.toList_none, List.cons_append, List.nil_append, xr_01, xr_00, ieq_f, ieq_t]
    exact hQ w h (Fr.refl w)
  rw [if_neg c1] at hQ
  rw [pv_r c1]
  obtain ⟨n1, n2⟩ := now_is c1
  simp (disch := first | exact hR _ _ | exact x01a | exact x01b | (unfold x_r; omega) | assumption | omega) only [wK_unmap_4, wK_unmap_4n, wK_unmap_5, wK_unmap_6n, wK_unmap_6, wK_unmap_12, wK_unmap_13, wK_unmap_14, x_gi_int, x_ga_ref, x_ga_null, List.getElem?_cons_zero, List.getElem?_cons_succ, List.length_cons, List.length_nil, List.set_cons_zero, List.set_cons_succ, Nat.reduceAdd, Nat.reduceLT, xr_lt, xr_eq, xr_toInt, xr_0, xi_add, xi_sub, xi_mul, xr_div, xr_rm, Int.toNat_natCast, bd_t, true_and, and_true, not_false_eq_true, ↓reduceIte, ilt_t, ilt_f, ile_t, x_c1i, x_c1r, x_c1n, and_self, Option.toList_some, Option.toList_none, List.cons_append, List.nil_append, xr_01, xr_00, ieq_f, ieq_t]
  refine wK_unmap_15 t0 (by simp) rfl rfl (k_mappableAt h hI (by omega) (by omega) (by omega) hc' ?_)
  have em : s_mp S (s_now S).toNat c = if s_having S c (-1) < 0 then -1 else if S 0 (s_having S c (-1)).toNat < 6 then -1 else s_having S c (-1) := by
    rw [having_hv]; rfl
  rw [em]
  by_cases c2 : s_having S c (-1) < 0
  · rw [if_pos c2] at hQ ⊢
    rw [pv_n (by omega)]
    simp (disch := first | exact hR _ _ | exact x01a | exact x01b | (unfold x_r; omega) | assumption | omega) only [wK_unmap_18, wK_unmap_18n, wK_unmap_19, wK_unmap_20n, wK_unmap_20, wK_unmap_23, wK_unmap_24, x_gi_int, x_ga_ref, x_ga_null, List.getElem?_cons_zero, List.getElem?_cons_succ, List.length_cons, List.length_nil, List.set_cons_zero, List.set_cons_succ, Nat.reduceAdd, Nat.reduceLT, xr_lt, xr_eq, xr_toInt, xr_0, xi_add, xi_sub, xi_mul, xr_div, xr_rm, Int.toNat_natCast, bd_t, true_and, and_true, not_false_eq_true, ↓reduceIte, ilt_t, ilt_f, ile_t, x_c1i, x_c1r, x_c1n, and_self, Option.toList_some, Option.toList_none, List.cons_append, List.nil_append, xr_01, xr_00, ieq_f, ieq_t]
    exact hQ w h (Fr.refl w)
  rw [if_neg c2] at hQ ⊢
  by_cases c3 : S 0 (s_having S c (-1)).toNat < 6
  · rw [if_pos c3] at hQ ⊢
    rw [pv_n (by omega)]
    simp (disch := first | exact hR _ _ | exact x01a | exact x01b | (unfold x_r; omega) | assumption | omega) only [wK_unmap_18, wK_unmap_18n, wK_unmap_19, wK_unmap_20n, wK_unmap_20, wK_unmap_23, wK_unmap_24, x_gi_int, x_ga_ref, x_ga_null, List.getElem?_cons_zero, List.getElem?_cons_succ, List.length_cons, List.length_nil, List.set_cons_zero, List.set_cons_succ, Nat.reduceAdd, Nat.reduceLT, xr_lt, xr_eq, xr_toInt, xr_0, xi_add, xi_sub, xi_mul, xr_div, xr_rm, Int.toNat_natCast, bd_t, true_and, and_true, not_false_eq_true, ↓reduceIte, ilt_t, ilt_f, ile_t, x_c1i, x_c1r, x_c1n, and_self, Option.toList_some, Option.toList_none, List.cons_append, List.nil_append, xr_01, xr_00, ieq_f, ieq_t]
    exact hQ w h (Fr.refl w)
  rw [if_neg c3] at hQ ⊢
  rw [pv_r c2]
  have hh := s_having_in hI.gs.1 (by omega) c (-1)
  have hl := (hh.2.2 (by omega)).1
  generalize s_having S c (-1) = p at *
  simp (disch := first | exact hR _ _ | exact x01a | exact x01b | (unfold x_r; omega) | assumption | omega) only [wK_unmap_18, wK_unmap_18n, wK_unmap_19, wK_unmap_20n, wK_unmap_20, wK_unmap_25, x_gi_int, x_ga_ref, x_ga_null, List.getElem?_cons_zero, List.getElem?_cons_succ, List.length_cons, List.length_nil, List.set_cons_zero, List.set_cons_succ, Nat.reduceAdd, Nat.reduceLT, xr_lt, xr_eq, xr_toInt, xr_0, xi_add, xi_sub, xi_mul, xr_div, xr_rm, Int.toNat_natCast, bd_t, true_and, and_true, not_false_eq_true, ↓reduceIte, ilt_t, ilt_f, ile_t, x_c1i, x_c1r, x_c1n, and_self, Option.toList_some, Option.toList_none, List.cons_append, List.nil_append, xr_01, xr_00, ieq_f, ieq_t]
  refine wK_unmap_26 (by simp) rfl rfl (k_isMapped h hI (by omega) (by omega) hl ?_)
  by_cases c4 : s_mapped S p = 0
  · rw [if_pos c4] at hQ
    rw [c4]
    simp (disch := first | exact hR _ _ | exact x01a | exact x01b | (unfold x_r; omega) | assumption | omega) only [wK_unmap_29, wK_unmap_32, wK_unmap_34, x_gi_int, x_ga_ref, x_ga_null, List.getElem?_cons_zero, List.getElem?_cons_succ, List.length_cons, List.length_nil, List.set_cons_zero, List.set_cons_succ, Nat.reduceAdd, Nat.reduceLT, xr_lt, xr_eq, xr_toInt, xr_0, xi_add, xi_sub, xi_mul, xr_div, xr_rm, Int.toNat_natCast, bd_t, true_and, and_true, not_false_eq_true, ↓reduceIte, ilt_t, ilt_f, ile_t, x_c1i, x_c1r, x_c1n, and_self, Option.toList_some, Option.toList_none, List.cons_append, List.nil_append, xr_01, xr_00, ieq_f, ieq_t]
    exact hQ w h (Fr.refl w)
  rw [if_neg c4] at hQ
  have m1 : s_mapped S p = 1 := by
    unfold s_mapped at c4 ⊢
    (repeat' split) <;> simp_all
  rw [m1]
  obtain ⟨ct, e0, e1, e2, e3, e4, e5, e6, e7⟩ := h.cap (p := p) (by omega) (by omega) hl
  obtain ⟨n, g0, g1, g2, g3⟩ := h.thg hA (p := p) (by omega) (by omega) hl
  have hc : x_has w (A 8 p) [1] := ⟨_, _, ct, by decide⟩
  have k7 := (hA p.toNat (by omega)).1
  have ti := (tgK_is hl k7.2.1).2.2.2.2.2.2
  unfold s_mapped at m1
  by_cases c6 : S 0 p.toNat = 6
  · rw [if_pos c6] at hQ m1
    have tt := ti.2 c6
    rw [tt] at g0 g1
    rw [thA_k c6 (by omega)] at e0 g0
    have h6 : hd S 6 (S 1 p.toNat) := ⟨p.toNat, by omega, c6, rfl⟩
    have a4 : S 1 p.toNat % 4 = 0 := (hd_al hA (by omega) h6).1
    have lu : S 1 p.toNat = 4 * (((S 1 p.toNat / 4).toNat : Nat) : Int) := by omega
    have n25 : ¬ S 25 (S 1 p.toNat / 4).toNat = -1 := fun x => by rw [if_pos x] at m1; omega
    have ll : (S 1 p.toNat / 4).toNat < 32 := by omega
    rw [lu] at h6
    have mA := hI.1.2.2.2.2.2.2.2.2.2.1
    have m2 := (mA.1 _ ll h6).resolve_left n25
    have u0 := hA.hd m2.1
    simp (disch := first | exact hR _ _ | exact x01a | exact x01b | (unfold x_r; omega) | assumption | omega) only [wK_unmap_29, wK_unmap_35, wK_unmap_36, wK_unmap_39, wK_unmap_39n, wK_unmap_41, wK_unmap_43 g0 g1, wK_unmap_46, wK_unmap_49, wK_unmap_51 g0, wK_unmap_54, wK_unmap_54n, wK_unmap_56, hc, e0, x_gi_int, x_ga_ref, x_ga_null, List.getElem?_cons_zero, List.getElem?_cons_succ, List.length_cons, List.length_nil, List.set_cons_zero, List.set_cons_succ, Nat.reduceAdd, Nat.reduceLT, xr_lt, xr_eq, xr_toInt, xr_0, xi_add, xi_sub, xi_mul, xr_div, xr_rm, Int.toNat_natCast, bd_t, true_and, and_true, not_false_eq_true, ↓reduceIte, ilt_t, ilt_f, ile_t, x_c1i, x_c1r, x_c1n, and_self, Option.toList_some, Option.toList_none, List.cons_append, List.nil_append, xr_01, xr_00, ieq_f, ieq_t]
    generalize (S 1 p.toNat / 4).toNat = l at *
    have x4 : ((4 * (l : Int)) / 4).toNat = l := by omega
    have f2v : xFv A S (lid S) 6 (4 * (l : Int)) 2 = some (pv (S 25 l) (A 5 (S 25 l))) := by
      show some (pv (S 25 ((4 * (l : Int)) / 4).toNat) (A 5 (S 25 ((4 * (l : Int)) / 4).toNat))) = _
      rw [x4]
    have f3v : xFv A S (lid S) 6 (4 * (l : Int)) 3 = some (.int (xi (S 26 l))) := by
      show (if S 25 ((4 * (l : Int)) / 4).toNat < 0 then none else some (Value.int (xi (S 26 ((4 * (l : Int)) / 4).toNat)))) = _
      rw [x4, if_neg (by omega)]
    rw [lu]
    refine wK_unmap_58 (by simp) rfl rfl (k_leaveSpaceF h (us_thi (by omega) (by omega) h6) f2v (fun _ => ⟨f3v, us_thi (by omega) (by omega) m2.1, rfl, us_lvs m2.1, m2.2.1, by omega⟩) (fun w' h' fr => ?_))
    rw [if_neg (by omega)] at h'
    simp (disch := first | exact hR _ _ | exact x01a | exact x01b | (unfold x_r; omega) | assumption | omega) only [wK_unmap_61, wK_unmap_68, wK_unmap_69, x_gi_int, x_ga_ref, x_ga_null, List.getElem?_cons_zero, List.getElem?_cons_succ, List.length_cons, List.length_nil, List.set_cons_zero, List.set_cons_succ, Nat.reduceAdd, Nat.reduceLT, xr_lt, xr_eq, xr_toInt, xr_0, xi_add, xi_sub, xi_mul, xr_div, xr_rm, Int.toNat_natCast, bd_t, true_and, and_true, not_false_eq_true, ↓reduceIte, ilt_t, ilt_f, ile_t, x_c1i, x_c1r, x_c1n, and_self, Option.toList_some, Option.toList_none, List.cons_append, List.nil_append, xr_01, xr_00, ieq_f, ieq_t]
    have r := h.lsp hA mA ll h6 (by omega) h' m2.2.1
    refine hQ w' ?_ fr
    dsimp only
    rw [lid_o (S := S) (sset_o (by omega)) (sset_o (by omega)) (sset_o (by omega))]
    exact r
  · rw [if_neg c6] at hQ m1
    have tt : ¬ (tgK (S 0 p.toNat) 0).1 = 9 := fun x => c6 (ti.1 x)
    have n7 : ¬ S 7 p.toNat = -1 := fun x => by rw [if_pos (by omega), if_pos x] at m1; omega
    have mB := hI.1.2.2.2.2.2.2.2.2.2.2.1
    have m2 := (mB.1 p.toNat (by omega) hl).resolve_left n7
    have u0 := hA.hd m2.2.1
    simp (disch := first | exact hR _ _ | exact x01a | exact x01b | (unfold x_r; omega) | assumption | omega) only [wK_unmap_29, wK_unmap_35, wK_unmap_36, wK_unmap_39, wK_unmap_39n, wK_unmap_41, wK_unmap_43 g0 g1, wK_unmap_46, wK_unmap_64, hc, e0, tt, x_gi_int, x_ga_ref, x_ga_null, List.getElem?_cons_zero, List.getElem?_cons_succ, List.length_cons, List.length_nil, List.set_cons_zero, List.set_cons_succ, Nat.reduceAdd, Nat.reduceLT, xr_lt, xr_eq, xr_toInt, xr_0, xi_add, xi_sub, xi_mul, xr_div, xr_rm, Int.toNat_natCast, bd_t, true_and, and_true, not_false_eq_true, ↓reduceIte, ilt_t, ilt_f, ile_t, x_c1i, x_c1r, x_c1n, and_self, Option.toList_some, Option.toList_none, List.cons_append, List.nil_append, xr_01, xr_00, ieq_f, ieq_t]
    obtain ⟨q, eq⟩ : ∃ q : Nat, p = (q : Int) := ⟨p.toNat, by omega⟩
    subst eq
    simp only [Int.toNat_natCast] at m2 n7 u0 hl hQ
    have f5v : xFv A S (lid S) 8 (q : Int) 5 = some (pv (S 7 q) (A 6 (S 7 q))) := by
      show some (pv (S 7 (q : Int).toNat) (A 6 (S 7 (q : Int).toNat))) = _
      rw [Int.toNat_natCast]
    have f6v : xFv A S (lid S) 8 (q : Int) 6 = some (.int (xi (S 8 q))) := by
      show (if S 7 (q : Int).toNat < 0 then none else some (Value.int (xi (S 8 (q : Int).toNat)))) = _
      rw [Int.toNat_natCast, if_neg (by omega)]
    refine wK_unmap_65 (by simp) rfl rfl (k_leaveLeafF h (us_cap (by omega) (by omega) (by rw [Int.toNat_natCast]; exact hl)) f5v (fun _ => ⟨f6v, us_thi (by omega) (by omega) m2.2.1, rfl, us_frs m2.2.1, m2.2.2.1, by omega⟩) (fun w' h' fr => ?_))
    rw [if_neg (by omega)] at h'
    simp (disch := first | exact hR _ _ | exact x01a | exact x01b | (unfold x_r; omega) | assumption | omega) only [wK_unmap_68, wK_unmap_69, x_gi_int, x_ga_ref, x_ga_null, List.getElem?_cons_zero, List.getElem?_cons_succ, List.length_cons, List.length_nil, List.set_cons_zero, List.set_cons_succ, Nat.reduceAdd, Nat.reduceLT, xr_lt, xr_eq, xr_toInt, xr_0, xi_add, xi_sub, xi_mul, xr_div, xr_rm, Int.toNat_natCast, bd_t, true_and, and_true, not_false_eq_true, ↓reduceIte, ilt_t, ilt_f, ile_t, x_c1i, x_c1r, x_c1n, and_self, Option.toList_some, Option.toList_none, List.cons_append, List.nil_append, xr_01, xr_00, ieq_f, ieq_t]
    have r := Hp.llf hA mB (by omega) hl (by omega) h' m2.2.2.1
    refine hQ w' ?_ fr
    rw [lid_o (S := S) (sset_o (by omega)) (sset_o (by omega)) (sset_o (by omega))]
    exact r
end MB
