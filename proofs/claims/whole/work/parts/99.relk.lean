section MC
variable {P : xP} {w : xH} {Q : Option Value → xH → Prop} {A : xA} {S : xS} {ln : Nat → Int}
set_option maxHeartbeats 8000000 in
theorem k_mapLeaf (h : Rel w A S ln) (hI : Inv S) {l : Nat} {u e : Int} (hl : l < 32) (h6 : hd S 6 (4 * (l : Int))) (h5 : hd S 5 u) (he : 0 ≤ e ∧ e < 4) (hQ7 : (¬ S 25 l = -1 ∨ ¬ s_leafOf S u e < 0) → Q (some (.int (xi 7))) w) (hQ0 : S 25 l = -1 → s_leafOf S u e < 0 → ∀ w', Rel w' A (sset (sset S 25 l u) 26 l e) ln → Fr w w' 0 → Q (some (.int (xi 0))) w') : WP P 60 0 [some (.ref (A 6 (4 * (l : Int)))), some (.ref (A 5 u)), some (.int (xi e))] [] w Q := by
  have hR := hI.1.1
  have hA := hI.1.2.1
  have mA := hI.1.2.2.2.2.2.2.2.2.2.1
  have u6 : us S 6 (4 * (l : Int)) := us_thi (by omega) (by omega) h6
  have u5 : us S 5 u := us_thi (by omega) (by omega) h5
  have u10 : us S 10 u := us_lvs h5
  have u0 := hA.hd h5
  have el : ((4 * (l : Int)) / 4).toNat = l := by omega
  obtain ⟨b0, b1, b2, b3, b4, b5⟩ := h.lea u6
  rw [el] at b3
  have hb : x_has w (A 6 (4 * (l : Int))) [9] := ⟨_, _, b0, by decide⟩
  obtain ⟨s0, s1, s2, s3⟩ := h.spa u5
  have hs : x_has w (A 5 u) [8] := ⟨_, _, s0, by decide⟩
  have m25 : S 25 l = -1 ∨ 0 ≤ S 25 l := (mA.1 l hl h6).imp id (fun x => (hA.hd x.1).1)
  by_cases c1 : S 25 l = -1
  · rw [pv_n (by omega)] at b3
    obtain ⟨v0, v1⟩ := h.lvs h5
    have v2 := v1 e.toNat (by omega)
    rw [show ((e.toNat : Nat) : Int) = e by omega] at v2
    have ec := x_cle (e := e) (by omega) (by omega)
    have nn := x_nn (e := e) (by omega) (by omega)
    have nc := x_clt (e := e) (n := 4) (by omega) (by omega) (by omega)
    by_cases c2 : s_leafOf S u e < 0
    · rw [pv_n c2] at v2
      simp (disch := first | exact hR _ _ | exact x01a | exact x01b | (unfold x_r; omega) | assumption | omega) only [wK_mapLeaf_0, wK_mapLeaf_1, wK_mapLeaf_4n, wK_mapLeaf_4, wK_mapLeaf_7, wK_mapLeaf_8, wK_mapLeaf_11, wK_mapLeaf_12 v0 (by omega) nn nc, wK_mapLeaf_13n, wK_mapLeaf_13, wK_mapLeaf_19, wK_mapLeaf_20, wK_mapLeaf_23, wK_mapLeaf_24, wK_mapLeaf_25 v0 b0 (by omega) nn nc, wK_mapLeaf_26, wK_mapLeaf_27, wK_mapLeaf_28, wK_mapLeaf_31, wK_mapLeaf_32, wK_mapLeaf_33, wK_mapLeaf_36, wK_mapLeaf_37, x_has_put, x_f2r, x_f0, hb, hs, b3, s3, ec, v2, x_gi_int, x_ga_ref, x_ga_null, List.getElem?_cons_zero, List.getElem?_cons_succ, List.length_cons, List.length_nil, List.set_cons_zero, List.set_cons_succ, Nat.reduceAdd, Nat.reduceLT, xr_lt, xr_eq, xr_toInt, xr_0, xi_add, xi_sub, xi_mul, xr_div, xr_rm, Int.toNat_natCast, bd_t, true_and, and_true, not_false_eq_true, ↓reduceIte, ilt_t, ilt_f, ile_t, x_c1i, x_c1r, x_c1n, and_self, Option.toList_some, Option.toList_none, List.cons_append, List.nil_append, xr_01, xr_00, ieq_f, ieq_t]
      have eT : ∀ j, j ≠ 25 → j ≠ 26 → sset (sset S 25 l u) 26 l e j = S j := fun j a b => by rw [sset_o b, sset_o a]
      have o : ∀ i, i ≠ l → sset (sset S 25 l u) 26 l e 25 i = S 25 i ∧ sset (sset S 25 l u) 26 l e 26 i = S 26 i := fun i hi => ⟨by rw [sset_o (by omega), sset_at, if_neg (fun x => hi x.2)], by rw [sset_at, if_neg (fun x => hi x.2), sset_o (by omega)]⟩
      have t25 : sset (sset S 25 l u) 26 l e 25 l = u ∧ sset (sset S 25 l u) 26 l e 26 l = e := ⟨by rw [sset_o (by omega), sset_at, if_pos ⟨rfl, rfl⟩], by rw [sset_at, if_pos ⟨rfl, rfl⟩]⟩
      have mT : MpA (sset (sset S 25 l u) 26 l e) := by
        have hh := hd_cg (S := S) (S' := sset (sset S 25 l u) 26 l e) (eT 0 (by omega) (by omega)) (eT 1 (by omega) (by omega))
        refine ⟨fun i hi g => ?_, fun i j hi hj hne g g' k1 k2 => ?_⟩
        · rw [hh] at g ⊢
          by_cases c : i = l
          · rw [c, t25.1, t25.2]
            exact Or.inr ⟨h5, he.1, by omega⟩
          · rw [(o i c).1, (o i c).2]
            exact mA.1 i hi g
        · rw [hh] at g g'
          by_cases c : i = l
          · have cj : j ≠ l := fun x => hne (by omega)
            rw [c, t25.1, (o j cj).1] at k2
            rw [c, t25.2, (o j cj).2]
            intro x
            have := leafOf_eq (u := u) (e := e) mA hj g' k2.symm x.symm (by omega)
            omega
          · by_cases cj : j = l
            · rw [cj, t25.1, (o i c).1] at k2
              rw [cj, t25.2, (o i c).2]
              intro x
              have := leafOf_eq (u := u) (e := e) mA hi g k2 x (by omega)
              omega
            · rw [(o i c).1] at k1 k2
              rw [(o j cj).1] at k2
              rw [(o i c).2, (o j cj).2]
              exact mA.2 i j hi hj hne g g' k1 k2
      refine hQ0 c1 c2 _ (Hp.mapl (S := S) (ln := ln) (((h.put u10 e.toNat (.ref (A 6 (4 * (l : Int))))).put u6 2 (.ref (A 5 u))).put u6 3 (.int (xi e))) hA (l := l) eT o (fun k i f c10 c6 => ?_) ?_ (fun v v0 v5 f f4 => ?_)) (((h.put u10 e.toNat (.ref (A 6 (4 * (l : Int))))).put u6 2 (.ref (A 5 u))).frp ((h.put u10 e.toNat (.ref (A 6 (4 * (l : Int))))).frp (h.frp (Fr.refl w) u10 _ _) u6 2 _) u6 3 _)
      · rw [fup_n (fun x => c6 ⟨x.1, x.2.1⟩), fup_n (fun x => c6 ⟨x.1, x.2.1⟩), fup_n (fun x => c10 x.1)]
      · have q : ∀ f, xFv A S ln 6 (4 * (l : Int)) f = Fthi A S 6 (4 * (l : Int)) f := fun f => rfl
        refine Fthi_6 (p := fun f v => fup (fup (fup (xFv A S ln) 10 u e.toNat (.ref (A 6 (4 * (l : Int))))) 6 (4 * (l : Int)) 2 (.ref (A 5 u))) 6 (4 * (l : Int)) 3 (.int (xi e)) 6 (4 * (l : Int)) f = some v) ?_ ?_ ?_ (fun x => ?_) ?_
        · rw [fup_n (by omega), fup_n (by omega), fup_n (by omega), q]; rfl
        · rw [fup_n (by omega), fup_n (by omega), fup_n (by omega), q]; rfl
        · rw [fup_n (by omega), fup_e, el, t25.1, pv_r (by omega)]
        · rw [fup_e, el, t25.2]
        · rw [fup_n (by omega), fup_n (by omega), fup_n (by omega), q]; rfl
      · rw [fup_n (by omega), fup_n (by omega), leafOf_map mA mT (fun u => by rw [hd_cg (eT 0 (by omega) (by omega)) (eT 1 (by omega) (by omega))]) hl h6 o c1 v0, t25.1, t25.2]
        by_cases c : v = u ∧ (f : Int) = e
        · rw [if_pos c, pv_r (by omega), c.1, show f = e.toNat by omega, fup_e]
        · rw [if_neg c, fup_n (fun x => c ⟨x.2.1, by omega⟩)]
          show (if f < 4 then some (pv (s_leafOf S v f) (A 6 (s_leafOf S v f))) else none) = _
          rw [if_pos f4]
    · rw [pv_r c2] at v2
      simp (disch := first | exact hR _ _ | exact x01a | exact x01b | (unfold x_r; omega) | assumption | omega) only [wK_mapLeaf_0, wK_mapLeaf_1, wK_mapLeaf_4n, wK_mapLeaf_4, wK_mapLeaf_7, wK_mapLeaf_8, wK_mapLeaf_11, wK_mapLeaf_12 v0 (by omega) nn nc, wK_mapLeaf_13n, wK_mapLeaf_13, wK_mapLeaf_16, wK_mapLeaf_18, hb, hs, b3, s3, ec, v2, x_gi_int, x_ga_ref, x_ga_null, List.getElem?_cons_zero, List.getElem?_cons_succ, List.length_cons, List.length_nil, List.set_cons_zero, List.set_cons_succ, Nat.reduceAdd, Nat.reduceLT, xr_lt, xr_eq, xr_toInt, xr_0, xi_add, xi_sub, xi_mul, xr_div, xr_rm, Int.toNat_natCast, bd_t, true_and, and_true, not_false_eq_true, ↓reduceIte, ilt_t, ilt_f, ile_t, x_c1i, x_c1r, x_c1n, and_self, Option.toList_some, Option.toList_none, List.cons_append, List.nil_append, xr_01, xr_00, ieq_f, ieq_t]
      exact hQ7 (Or.inr c2)
  · rw [pv_r (by omega)] at b3
    simp (disch := first | exact hR _ _ | exact x01a | exact x01b | (unfold x_r; omega) | assumption | omega) only [wK_mapLeaf_0, wK_mapLeaf_1, wK_mapLeaf_4n, wK_mapLeaf_4, wK_mapLeaf_16, wK_mapLeaf_18, hb, b3, x_gi_int, x_ga_ref, x_ga_null, List.getElem?_cons_zero, List.getElem?_cons_succ, List.length_cons, List.length_nil, List.set_cons_zero, List.set_cons_succ, Nat.reduceAdd, Nat.reduceLT, xr_lt, xr_eq, xr_toInt, xr_0, xi_add, xi_sub, xi_mul, xr_div, xr_rm, Int.toNat_natCast, bd_t, true_and, and_true, not_false_eq_true, ↓reduceIte, ilt_t, ilt_f, ile_t, x_c1i, x_c1r, x_c1n, and_self, Option.toList_some, Option.toList_none, List.cons_append, List.nil_append, xr_01, xr_00, ieq_f, ieq_t]
    exact hQ7 (Or.inl c1)
set_option maxHeartbeats 8000000 in
theorem k_mapFrame (h : Rel w A S ln) (hI : Inv S) {p : Nat} {lf e : Int} (hp : p < 128) (h7 : S 0 p = 7) (hlf : ¬ lf < 0 → hd S 6 lf) (he : 0 ≤ e ∧ e < 4) (hQ7 : (¬ S 7 p = -1 ∨ lf < 0 ∨ ¬ s_frameOf S lf e < 0) → Q (some (.int (xi 7))) w) (hQ0 : S 7 p = -1 → ¬ lf < 0 → s_frameOf S lf e < 0 → ∀ w', Rel w' A (sset (sset S 7 p lf) 8 p e) ln → Fr w w' 0 → Q (some (.int (xi 0))) w') : WP P 61 0 [some (.ref (A 8 (p : Int))), some (pv lf (A 6 lf)), some (.int (xi e))] [] w Q := by
  have hR := hI.1.1
  have hA := hI.1.2.1
  have mB := hI.1.2.2.2.2.2.2.2.2.2.2.1
  have u8 : us S 8 (p : Int) := us_cap (by omega) (by omega) (by rw [Int.toNat_natCast]; omega)
  obtain ⟨ct, c0, c1, c2, c3, c4, c5, -⟩ := h.cap (p := (p : Int)) (by omega) (by omega) (by rw [Int.toNat_natCast]; omega)
  rw [Int.toNat_natCast] at c5
  have hc : x_has w (A 8 (p : Int)) [1] := ⟨_, _, ct, by decide⟩
  have m7 : S 7 p = -1 ∨ 0 ≤ S 7 p := (mB.1 p hp (by omega)).imp id (fun x => (hA.hd x.2.1).1)
  have ga : ∀ (a : Int) (b : Nat) (k : Value → Prop), x_ga (some (some (pv a b))) k = k (pv a b) := by
    intro a b k
    unfold pv
    split <;> rfl
  by_cases d1 : S 7 p = -1
  · rw [pv_n (by omega)] at c5
    by_cases d2 : lf < 0
    · rw [pv_n d2]
      simp (disch := first | exact hR _ _ | exact x01a | exact x01b | (unfold x_r; omega) | assumption | omega) only [wK_mapFrame_0, wK_mapFrame_1, wK_mapFrame_4n, wK_mapFrame_4, wK_mapFrame_7, wK_mapFrame_8n, wK_mapFrame_8, wK_mapFrame_20, wK_mapFrame_22, hc, c5, x_gi_int, x_ga_ref, x_ga_null, List.getElem?_cons_zero, List.getElem?_cons_succ, List.length_cons, List.length_nil, List.set_cons_zero, List.set_cons_succ, Nat.reduceAdd, Nat.reduceLT, xr_lt, xr_eq, xr_toInt, xr_0, xi_add, xi_sub, xi_mul, xr_div, xr_rm, Int.toNat_natCast, bd_t, true_and, and_true, not_false_eq_true, ↓reduceIte, ilt_t, ilt_f, ile_t, x_c1i, x_c1r, x_c1n, and_self, Option.toList_some, Option.toList_none, List.cons_append, List.nil_append, xr_01, xr_00, ieq_f, ieq_t]
      exact hQ7 (Or.inr (Or.inl d2))
    rw [pv_r d2]
    have h6 := hlf d2
    have u6 : us S 6 lf := us_thi (by omega) (by omega) h6
    have u11 : us S 11 lf := us_frs h6
    obtain ⟨b0, b1, b2, b3, b4, b5⟩ := h.lea u6
    have hb : x_has w (A 6 lf) [9] := ⟨_, _, b0, by decide⟩
    obtain ⟨v0, v1⟩ := h.frs h6
    have v2 := v1 e.toNat (by omega)
    rw [show ((e.toNat : Nat) : Int) = e by omega] at v2
    have ec := x_cle (e := e) (by omega) (by omega)
    have nn := x_nn (e := e) (by omega) (by omega)
    have nc := x_clt (e := e) (n := 4) (by omega) (by omega) (by omega)
    by_cases d3 : s_frameOf S lf e < 0
    · rw [pv_n d3] at v2
      simp (disch := first | exact hR _ _ | exact x01a | exact x01b | (unfold x_r; omega) | assumption | omega) only [wK_mapFrame_0, wK_mapFrame_1, wK_mapFrame_4n, wK_mapFrame_4, wK_mapFrame_7, wK_mapFrame_8n, wK_mapFrame_8, wK_mapFrame_11, wK_mapFrame_12, wK_mapFrame_15, wK_mapFrame_16 v0 (by omega) nn nc, wK_mapFrame_17n, wK_mapFrame_17, wK_mapFrame_23, wK_mapFrame_24, wK_mapFrame_27, wK_mapFrame_28, wK_mapFrame_29 v0 ct (by omega) nn nc, wK_mapFrame_30, wK_mapFrame_31, wK_mapFrame_32, wK_mapFrame_35, wK_mapFrame_36, wK_mapFrame_37, wK_mapFrame_40, wK_mapFrame_41, x_has_put, x_f2r, x_f0, hb, hc, c5, b5, ec, v2, x_gi_int, x_ga_ref, x_ga_null, List.getElem?_cons_zero, List.getElem?_cons_succ, List.length_cons, List.length_nil, List.set_cons_zero, List.set_cons_succ, Nat.reduceAdd, Nat.reduceLT, xr_lt, xr_eq, xr_toInt, xr_0, xi_add, xi_sub, xi_mul, xr_div, xr_rm, Int.toNat_natCast, bd_t, true_and, and_true, not_false_eq_true, ↓reduceIte, ilt_t, ilt_f, ile_t, x_c1i, x_c1r, x_c1n, and_self, Option.toList_some, Option.toList_none, List.cons_append, List.nil_append, xr_01, xr_00, ieq_f, ieq_t]
      have eT : ∀ j, j ≠ 7 → j ≠ 8 → sset (sset S 7 p lf) 8 p e j = S j := fun j a b => by rw [sset_o b, sset_o a]
      have o : ∀ i, i ≠ p → sset (sset S 7 p lf) 8 p e 7 i = S 7 i ∧ sset (sset S 7 p lf) 8 p e 8 i = S 8 i := fun i hi => ⟨by rw [sset_o (by omega), sset_at, if_neg (fun x => hi x.2)], by rw [sset_at, if_neg (fun x => hi x.2), sset_o (by omega)]⟩
      have t7 : sset (sset S 7 p lf) 8 p e 7 p = lf ∧ sset (sset S 7 p lf) 8 p e 8 p = e := ⟨by rw [sset_o (by omega), sset_at, if_pos ⟨rfl, rfl⟩], by rw [sset_at, if_pos ⟨rfl, rfl⟩]⟩
      have mT : MpB (sset (sset S 7 p lf) 8 p e) := by
        have hh := hd_cg (S := S) (S' := sset (sset S 7 p lf) 8 p e) (eT 0 (by omega) (by omega)) (eT 1 (by omega) (by omega))
        refine ⟨fun i hi g => ?_, fun i j hi hj hne g g' k1 k2 => ?_⟩
        · rw [hh]
          rw [eT 0 (by omega) (by omega)] at g ⊢
          by_cases c : i = p
          · rw [c, t7.1, t7.2]
            exact Or.inr ⟨h7, h6, he.1, by omega⟩
          · rw [(o i c).1, (o i c).2]
            exact mB.1 i hi g
        · rw [eT 0 (by omega) (by omega)] at g g'
          have k7 : ∀ x, x < 128 → 0 ≤ S 0 x → S 7 x ≠ -1 → S 0 x = 7 := fun x hx a b => ((mB.1 x hx a).resolve_left b).1
          by_cases c : i = p
          · have cj : j ≠ p := fun x => hne (by omega)
            rw [c, t7.1, (o j cj).1] at k2
            rw [c, t7.2, (o j cj).2]
            intro x
            have := frameOf_eq (l := lf) (e := e) mB hj (k7 j hj g' (by omega)) k2.symm x.symm (by omega)
            omega
          · by_cases cj : j = p
            · rw [cj, t7.1, (o i c).1] at k2
              rw [cj, t7.2, (o i c).2]
              intro x
              have := frameOf_eq (l := lf) (e := e) mB hi (k7 i hi g (by omega)) k2 x (by omega)
              omega
            · rw [(o i c).1] at k1 k2
              rw [(o j cj).1] at k2
              rw [(o i c).2, (o j cj).2]
              exact mB.2 i j hi hj hne g g' k1 k2
      refine hQ0 d1 d2 d3 _ (Hp.mapf (S := S) (ln := ln) (((h.put u11 e.toNat (.ref (A 8 (p : Int)))).put u8 5 (.ref (A 6 lf))).put u8 6 (.int (xi e))) hA (p := p) eT o (fun k i f c10 c6 => ?_) ?_ (fun v v0 v5 f f4 => ?_)) (((h.put u11 e.toNat (.ref (A 8 (p : Int)))).put u8 5 (.ref (A 6 lf))).frp ((h.put u11 e.toNat (.ref (A 8 (p : Int)))).frp (h.frp (Fr.refl w) u11 _ _) u8 5 _) u8 6 _)
      · rw [fup_n (fun x => c6 ⟨x.1, x.2.1⟩), fup_n (fun x => c6 ⟨x.1, x.2.1⟩), fup_n (fun x => c10 x.1)]
      · have q : ∀ f, xFv A S ln 8 (p : Int) f = Fcap A S (p : Int) f := fun f => rfl
        refine Fcap_all (p := fun f v => fup (fup (fup (xFv A S ln) 11 lf e.toNat (.ref (A 8 (p : Int)))) 8 (p : Int) 5 (.ref (A 6 lf))) 8 (p : Int) 6 (.int (xi e)) 8 (p : Int) f = some v) ?_ ?_ ?_ ?_ ?_ ?_ (fun x => ?_) ?_
        · rw [fup_n (by omega), fup_n (by omega), fup_n (by omega), q]
          unfold Fcap thA
          rw [eT 0 (by omega) (by omega), eT 1 (by omega) (by omega)]; rfl
        · rw [fup_n (by omega), fup_n (by omega), fup_n (by omega), q, eT 2 (by omega) (by omega)]; rfl
        · rw [fup_n (by omega), fup_n (by omega), fup_n (by omega), q, eT 3 (by omega) (by omega)]; rfl
        · rw [fup_n (by omega), fup_n (by omega), fup_n (by omega), q, eT 4 (by omega) (by omega)]; rfl
        · rw [fup_n (by omega), fup_n (by omega), fup_n (by omega), q]; rfl
        · rw [fup_n (by omega), fup_e, Int.toNat_natCast, t7.1, pv_r d2]
        · rw [fup_e, Int.toNat_natCast, t7.2]
        · rw [fup_n (by omega), fup_n (by omega), fup_n (by omega), q, eT 9 (by omega) (by omega)]; rfl
      · rw [fup_n (by omega), fup_n (by omega), frameOf_map mB mT (eT 0 (by omega) (by omega)) hp h7 o d1 v0, t7.1, t7.2]
        by_cases c : v = lf ∧ (f : Int) = e
        · rw [if_pos c, pv_r (by omega), c.1, show f = e.toNat by omega, fup_e]
        · rw [if_neg c, fup_n (fun x => c ⟨x.2.1, by omega⟩)]
          show (if f < 4 then some (pv (s_frameOf S v f) (A 8 (s_frameOf S v f))) else none) = _
          rw [if_pos f4]
    · rw [pv_r d3] at v2
      simp (disch := first | exact hR _ _ | exact x01a | exact x01b | (unfold x_r; omega) | assumption | omega) only [wK_mapFrame_0, wK_mapFrame_1, wK_mapFrame_4n, wK_mapFrame_4, wK_mapFrame_7, wK_mapFrame_8n, wK_mapFrame_8, wK_mapFrame_11, wK_mapFrame_12, wK_mapFrame_15, wK_mapFrame_16 v0 (by omega) nn nc, wK_mapFrame_17n, wK_mapFrame_17, wK_mapFrame_20, wK_mapFrame_22, hb, hc, c5, b5, ec, v2, x_gi_int, x_ga_ref, x_ga_null, List.getElem?_cons_zero, List.getElem?_cons_succ, List.length_cons, List.length_nil, List.set_cons_zero, List.set_cons_succ, Nat.reduceAdd, Nat.reduceLT, xr_lt, xr_eq, xr_toInt, xr_0, xi_add, xi_sub, xi_mul, xr_div, xr_rm, Int.toNat_natCast, bd_t, true_and, and_true, not_false_eq_true, ↓reduceIte, ilt_t, ilt_f, ile_t, x_c1i, x_c1r, x_c1n, and_self, Option.toList_some, Option.toList_none, List.cons_append, List.nil_append, xr_01, xr_00, ieq_f, ieq_t]
      exact hQ7 (Or.inr (Or.inr d3))
  · rw [pv_r (by omega)] at c5
    simp (disch := first | exact hR _ _ | exact x01a | exact x01b | (unfold x_r; omega) | assumption | omega) only [wK_mapFrame_0, wK_mapFrame_1, wK_mapFrame_4n, wK_mapFrame_4, wK_mapFrame_20, wK_mapFrame_22, hc, c5, x_gi_int, x_ga_ref, x_ga_null, List.getElem?_cons_zero, List.getElem?_cons_succ, List.length_cons, List.length_nil, List.set_cons_zero, List.set_cons_succ, Nat.reduceAdd, Nat.reduceLT, xr_lt, xr_eq, xr_toInt, xr_0, xi_add, xi_sub, xi_mul, xr_div, xr_rm, Int.toNat_natCast, bd_t, true_and, and_true, not_false_eq_true, ↓reduceIte, ilt_t, ilt_f, ile_t, x_c1i, x_c1r, x_c1n, and_self, Option.toList_some, Option.toList_none, List.cons_append, List.nil_append, xr_01, xr_00, ieq_f, ieq_t]
    exact hQ7 (Or.inl d1)
set_option maxHeartbeats 8000000 in
theorem k_map (h : Rel w A S (lid S)) (hI : Inv S) {c sp e : Int} (hc' : x_r c) (hs' : x_r sp) (he' : x_r e) {l4 l5 l6 l7 l8 : Option Value} (hQ : ∀ w', Rel w' A (s_map S c sp e).2 (lid (s_map S c sp e).2) → Fr w w' 0 → Q (some (.int (xi (s_map S c sp e).1))) w') : WP P 58 0 [some (.ref (A 12 0)), some (.int (xi c)), some (.int (xi sp)), some (.int (xi e)), l4, l5, l6, l7, l8] [] w Q := by
  obtain ⟨⟨t0, t1, t2, t3, t4⟩, f0, f1, f2, f3⟩ := h.ker
  have hR := hI.1.1
  have hA := hI.1.2.1
  have hn := s_now_in S
  unfold s_map at hQ
  simp (disch := first | exact hR _ _ | exact x01a | exact x01b | (unfold x_r; omega) | assumption | omega) only [wK_map_0, x_gi_int, x_ga_ref, x_ga_null, List.getElem?_cons_zero, List.getElem?_cons_succ, List.length_cons, List.length_nil, List.set_cons_zero, List.set_cons_succ, Nat.reduceAdd, Nat.reduceLT, xr_lt, xr_eq, xr_toInt, xr_0, xi_add, xi_sub, xi_mul, xr_div, xr_rm, Int.toNat_natCast, bd_t, true_and, and_true, not_false_eq_true, ↓reduceIte, ilt_t, ilt_f, ile_t, x_c1i, x_c1r, x_c1n, and_self, Option.toList_some, Option.toList_none, List.cons_append, List.nil_append, xr_01, xr_00, ieq_f, ieq_t]
  refine wK_map_1 t0 (by simp) rfl rfl (k_currentThread h hI ?_)
  by_cases c1 : s_now S < 0
  · rw [if_pos c1] at hQ
    rw [pv_n c1]
    simp (disch := first | exact hR _ _ | exact x01a | exact x01b | (unfold x_r; omega) | assumption | omega) only [wK_map_4, wK_map_4n, wK_map_6, wK_map_8n, wK_map_8, wK_map_11, wK_map_13, x_gi_int, x_ga_ref, x_ga_null, List.getElem?_cons_zero, List.getElem?_cons_succ, List.length_cons, List.length_nil, List.set_cons_zero, List.set_cons_succ, Nat.reduceAdd, Nat.reduceLT, xr_lt, xr_eq, xr_toInt, xr_0, xi_add, xi_sub, xi_mul, xr_div, xr_rm, Int.toNat_natCast, bd_t, true_and, and_true, not_false_eq_true, ↓reduceIte, ilt_t, ilt_f, ile_t, x_c1i, x_c1r, x_c1n, and_self, Option.toList_some, Option.toList_none, List.cons_append, List.nil_append, xr_01, xr_00, ieq_f, ieq_t]
    exact hQ w h (Fr.refl w)
  rw [if_neg c1] at hQ
  rw [pv_r c1]
  obtain ⟨n1, n2⟩ := now_is c1
  simp (disch := first | exact hR _ _ | exact x01a | exact x01b | (unfold x_r; omega) | assumption | omega) only [wK_map_4, wK_map_4n, wK_map_6, wK_map_8n, wK_map_8, wK_map_14, wK_map_15, wK_map_17, x_gi_int, x_ga_ref, x_ga_null, List.getElem?_cons_zero, List.getElem?_cons_succ, List.length_cons, List.length_nil, List.set_cons_zero, List.set_cons_succ, Nat.reduceAdd, Nat.reduceLT, xr_lt, xr_eq, xr_toInt, xr_0, xi_add, xi_sub, xi_mul, xr_div, xr_rm, Int.toNat_natCast, bd_t, true_and, and_true, not_false_eq_true, ↓reduceIte, ilt_t, ilt_f, ile_t, x_c1i, x_c1r, x_c1n, and_self, Option.toList_some, Option.toList_none, List.cons_append, List.nil_append, xr_01, xr_00, ieq_f, ieq_t]
  refine wK_map_18 t0 (by simp) rfl rfl (k_mappableAt h hI (by omega) (by omega) (by omega) hc' ?_)
  have em : s_mp S (s_now S).toNat c = if s_having S c (-1) < 0 then -1 else if S 0 (s_having S c (-1)).toNat < 6 then -1 else s_having S c (-1) := by
    rw [having_hv]; rfl
  rw [em]
  by_cases c2 : s_having S c (-1) < 0
  · rw [if_pos c2] at hQ ⊢
    rw [pv_n (by omega)]
    simp (disch := first | exact hR _ _ | exact x01a | exact x01b | (unfold x_r; omega) | assumption | omega) only [wK_map_21, wK_map_21n, wK_map_23, wK_map_25n, wK_map_25, wK_map_28, wK_map_29, x_gi_int, x_ga_ref, x_ga_null, List.getElem?_cons_zero, List.getElem?_cons_succ, List.length_cons, List.length_nil, List.set_cons_zero, List.set_cons_succ, Nat.reduceAdd, Nat.reduceLT, xr_lt, xr_eq, xr_toInt, xr_0, xi_add, xi_sub, xi_mul, xr_div, xr_rm, Int.toNat_natCast, bd_t, true_and, and_true, not_false_eq_true, ↓reduceIte, ilt_t, ilt_f, ile_t, x_c1i, x_c1r, x_c1n, and_self, Option.toList_some, Option.toList_none, List.cons_append, List.nil_append, xr_01, xr_00, ieq_f, ieq_t]
    exact hQ w h (Fr.refl w)
  rw [if_neg c2] at hQ ⊢
  by_cases c3 : S 0 (s_having S c (-1)).toNat < 6
  · rw [if_pos c3] at hQ ⊢
    rw [pv_n (by omega)]
    simp (disch := first | exact hR _ _ | exact x01a | exact x01b | (unfold x_r; omega) | assumption | omega) only [wK_map_21, wK_map_21n, wK_map_23, wK_map_25n, wK_map_25, wK_map_28, wK_map_29, x_gi_int, x_ga_ref, x_ga_null, List.getElem?_cons_zero, List.getElem?_cons_succ, List.length_cons, List.length_nil, List.set_cons_zero, List.set_cons_succ, Nat.reduceAdd, Nat.reduceLT, xr_lt, xr_eq, xr_toInt, xr_0, xi_add, xi_sub, xi_mul, xr_div, xr_rm, Int.toNat_natCast, bd_t, true_and, and_true, not_false_eq_true, ↓reduceIte, ilt_t, ilt_f, ile_t, x_c1i, x_c1r, x_c1n, and_self, Option.toList_some, Option.toList_none, List.cons_append, List.nil_append, xr_01, xr_00, ieq_f, ieq_t]
    exact hQ w h (Fr.refl w)
  rw [if_neg c3] at hQ ⊢
  rw [pv_r c2]
  have hh := s_having_in hI.gs.1 (by omega) c (-1)
  have hl := (hh.2.2 (by omega)).1
  generalize s_having S c (-1) = p at *
  simp (disch := first | exact hR _ _ | exact x01a | exact x01b | (unfold x_r; omega) | assumption | omega) only [wK_map_21, wK_map_21n, wK_map_23, wK_map_25n, wK_map_25, wK_map_30, wK_map_31, wK_map_33, x_gi_int, x_ga_ref, x_ga_null, List.getElem?_cons_zero, List.getElem?_cons_succ, List.length_cons, List.length_nil, List.set_cons_zero, List.set_cons_succ, Nat.reduceAdd, Nat.reduceLT, xr_lt, xr_eq, xr_toInt, xr_0, xi_add, xi_sub, xi_mul, xr_div, xr_rm, Int.toNat_natCast, bd_t, true_and, and_true, not_false_eq_true, ↓reduceIte, ilt_t, ilt_f, ile_t, x_c1i, x_c1r, x_c1n, and_self, Option.toList_some, Option.toList_none, List.cons_append, List.nil_append, xr_01, xr_00, ieq_f, ieq_t]
  refine wK_map_34 t0 (by simp) rfl rfl (k_spaceAt h hI (by omega) (by omega) (by omega) hs' ?_)
  rw [← having_hk (by omega)]
  unfold x_r at he'
  by_cases c4 : s_having S sp 5 < 0
  · rw [if_pos c4] at hQ
    rw [pv_n c4]
    simp (disch := first | exact hR _ _ | exact x01a | exact x01b | (unfold x_r; omega) | assumption | omega) only [wK_map_37, wK_map_37n, wK_map_39, wK_map_41n, wK_map_41, wK_map_44, wK_map_45, x_gi_int, x_ga_ref, x_ga_null, List.getElem?_cons_zero, List.getElem?_cons_succ, List.length_cons, List.length_nil, List.set_cons_zero, List.set_cons_succ, Nat.reduceAdd, Nat.reduceLT, xr_lt, xr_eq, xr_toInt, xr_0, xi_add, xi_sub, xi_mul, xr_div, xr_rm, Int.toNat_natCast, bd_t, true_and, and_true, not_false_eq_true, ↓reduceIte, ilt_t, ilt_f, ile_t, x_c1i, x_c1r, x_c1n, and_self, Option.toList_some, Option.toList_none, List.cons_append, List.nil_append, xr_01, xr_00, ieq_f, ieq_t]
    exact hQ w h (Fr.refl w)
  rw [if_neg c4] at hQ
  rw [pv_r c4]
  have h5 := having_hd hI (k := 5) (by omega) (by omega) c4
  have u50 := hA.hd h5
  generalize S 1 (s_having S sp 5).toNat = su at *
  by_cases c5 : e < 0
  · rw [if_pos c5] at hQ
    simp (disch := first | exact hR _ _ | exact x01a | exact x01b | (unfold x_r; omega) | assumption | omega) only [wK_map_37, wK_map_37n, wK_map_39, wK_map_41n, wK_map_41, wK_map_46, wK_map_47, wK_map_56, wK_map_57, x_gi_int, x_ga_ref, x_ga_null, List.getElem?_cons_zero, List.getElem?_cons_succ, List.length_cons, List.length_nil, List.set_cons_zero, List.set_cons_succ, Nat.reduceAdd, Nat.reduceLT, xr_lt, xr_eq, xr_toInt, xr_0, xi_add, xi_sub, xi_mul, xr_div, xr_rm, Int.toNat_natCast, bd_t, true_and, and_true, not_false_eq_true, ↓reduceIte, ilt_t, ilt_f, ile_t, x_c1i, x_c1r, x_c1n, and_self, Option.toList_some, Option.toList_none, List.cons_append, List.nil_append, xr_01, xr_00, ieq_f, ieq_t]
    exact hQ w h (Fr.refl w)
  rw [if_neg c5] at hQ
  by_cases c6 : 15 < e
  · rw [if_pos c6] at hQ
    simp (disch := first | exact hR _ _ | exact x01a | exact x01b | (unfold x_r; omega) | assumption | omega) only [wK_map_37, wK_map_37n, wK_map_39, wK_map_41n, wK_map_41, wK_map_46, wK_map_47, wK_map_50, wK_map_51, wK_map_53, wK_map_56, wK_map_57, x_gi_int, x_ga_ref, x_ga_null, List.getElem?_cons_zero, List.getElem?_cons_succ, List.length_cons, List.length_nil, List.set_cons_zero, List.set_cons_succ, Nat.reduceAdd, Nat.reduceLT, xr_lt, xr_eq, xr_toInt, xr_0, xi_add, xi_sub, xi_mul, xr_div, xr_rm, Int.toNat_natCast, bd_t, true_and, and_true, not_false_eq_true, ↓reduceIte, ilt_t, ilt_f, ile_t, x_c1i, x_c1r, x_c1n, and_self, Option.toList_some, Option.toList_none, List.cons_append, List.nil_append, xr_01, xr_00, ieq_f, ieq_t]
    exact hQ w h (Fr.refl w)
  rw [if_neg c6] at hQ
  obtain ⟨ct, e0, -⟩ := h.cap (p := p) (by omega) (by omega) hl
  obtain ⟨n, g0, g1, g2, g3⟩ := h.thg hA (p := p) (by omega) (by omega) hl
  have hc : x_has w (A 8 p) [1] := ⟨_, _, ct, by decide⟩
  have k7 := (hA p.toNat (by omega)).1
  have ti := (tgK_is hl k7.2.1).2.2.2.2.2.2
  by_cases c7 : S 0 p.toNat = 6
  · rw [if_pos c7] at hQ
    have tt := ti.2 c7
    rw [tt] at g0 g1
    rw [thA_k c7 (by omega)] at e0 g0
    have h6 : hd S 6 (S 1 p.toNat) := ⟨p.toNat, by omega, c7, rfl⟩
    have a4 : S 1 p.toNat % 4 = 0 := (hd_al hA (by omega) h6).1
    have lu : S 1 p.toNat = 4 * (((S 1 p.toNat / 4).toNat : Nat) : Int) := by omega
    have ll : (S 1 p.toNat / 4).toNat < 32 := by omega
    simp (disch := first | exact hR _ _ | exact x01a | exact x01b | (unfold x_r; omega) | assumption | omega) only [wK_map_37, wK_map_37n, wK_map_39, wK_map_41n, wK_map_41, wK_map_46, wK_map_47, wK_map_50, wK_map_51, wK_map_53, wK_map_58, wK_map_60, wK_map_63, wK_map_63n, wK_map_65, wK_map_67 g0 g1, wK_map_70, wK_map_73, wK_map_75 g0, wK_map_78, wK_map_78n, wK_map_80, wK_map_82, wK_map_84, wK_map_85, wK_map_86, hc, e0, x_gi_int, x_ga_ref, x_ga_null, List.getElem?_cons_zero, List.getElem?_cons_succ, List.length_cons, List.length_nil, List.set_cons_zero, List.set_cons_succ, Nat.reduceAdd, Nat.reduceLT, xr_lt, xr_eq, xr_toInt, xr_0, xi_add, xi_sub, xi_mul, xr_div, xr_rm, Int.toNat_natCast, bd_t, true_and, and_true, not_false_eq_true, ↓reduceIte, ilt_t, ilt_f, ile_t, x_c1i, x_c1r, x_c1n, and_self, Option.toList_some, Option.toList_none, List.cons_append, List.nil_append, xr_01, xr_00, ieq_f, ieq_t]
    generalize (S 1 p.toNat / 4).toNat = l at *
    rw [lu] at h6 ⊢
    refine wK_map_87 (by simp) rfl rfl (k_mapLeaf h hI ll h6 h5 ⟨by omega, by omega⟩ (fun x => ?_) (fun x1 x2 w' h' fr => ?_))
    · simp (disch := first | exact hR _ _ | exact x01a | exact x01b | (unfold x_r; omega) | assumption | omega) only [wK_map_90, x_gi_int, x_ga_ref, x_ga_null, List.getElem?_cons_zero, List.getElem?_cons_succ, List.length_cons, List.length_nil, List.set_cons_zero, List.set_cons_succ, Nat.reduceAdd, Nat.reduceLT, xr_lt, xr_eq, xr_toInt, xr_0, xi_add, xi_sub, xi_mul, xr_div, xr_rm, Int.toNat_natCast, bd_t, true_and, and_true, not_false_eq_true, ↓reduceIte, ilt_t, ilt_f, ile_t, x_c1i, x_c1r, x_c1n, and_self, Option.toList_some, Option.toList_none, List.cons_append, List.nil_append, xr_01, xr_00, ieq_f, ieq_t]
      by_cases y1 : S 25 l = -1
      · rw [if_pos y1] at hQ
        by_cases y2 : s_leafOf S su (e / 4) < 0
        · omega
        · rw [if_neg y2] at hQ
          exact hQ w h (Fr.refl w)
      · rw [if_neg y1] at hQ
        exact hQ w h (Fr.refl w)
    · simp (disch := first | exact hR _ _ | exact x01a | exact x01b | (unfold x_r; omega) | assumption | omega) only [wK_map_90, x_gi_int, x_ga_ref, x_ga_null, List.getElem?_cons_zero, List.getElem?_cons_succ, List.length_cons, List.length_nil, List.set_cons_zero, List.set_cons_succ, Nat.reduceAdd, Nat.reduceLT, xr_lt, xr_eq, xr_toInt, xr_0, xi_add, xi_sub, xi_mul, xr_div, xr_rm, Int.toNat_natCast, bd_t, true_and, and_true, not_false_eq_true, ↓reduceIte, ilt_t, ilt_f, ile_t, x_c1i, x_c1r, x_c1n, and_self, Option.toList_some, Option.toList_none, List.cons_append, List.nil_append, xr_01, xr_00, ieq_f, ieq_t]
      rw [if_pos x1, if_pos x2] at hQ
      refine hQ w' ?_ fr
      dsimp only
      rw [lid_o (S := S) (by rw [sset_o (by omega), sset_o (by omega)]) (by rw [sset_o (by omega), sset_o (by omega)]) (by rw [sset_o (by omega), sset_o (by omega)])]
      exact h'
  · rw [if_neg c7] at hQ
    have tt : ¬ (tgK (S 0 p.toNat) 0).1 = 9 := fun x => c7 (ti.1 x)
    obtain ⟨s0, s1, s2, s3⟩ := h.spa (us_thi (by omega) (by omega) h5)
    have hsp : x_has w (A 5 su) [8] := ⟨_, _, s0, by decide⟩
    obtain ⟨v0, v1⟩ := h.lvs h5
    have v2 := v1 (e / 4).toNat (by omega)
    rw [show (((e / 4).toNat : Nat) : Int) = e / 4 by omega] at v2
    have ec := x_cle (e := e / 4) (by omega) (by omega)
    have nn := x_nn (e := e / 4) (by omega) (by omega)
    have nc := x_clt (e := e / 4) (n := 4) (by omega) (by omega) (by omega)
    have lin := s_leafOf_in S su (e / 4)
    obtain ⟨q, eq⟩ : ∃ q : Nat, p = (q : Int) := ⟨p.toNat, by omega⟩
    subst eq
    simp only [Int.toNat_natCast] at hl hQ c7 c3 k7 tt g0 g1 g2 g3
    have q7 : S 0 q = 7 := by omega
    simp (disch := first | exact hR _ _ | exact x01a | exact x01b | (unfold x_r; omega) | assumption | omega) only [wK_map_37, wK_map_37n, wK_map_39, wK_map_41n, wK_map_41, wK_map_46, wK_map_47, wK_map_50, wK_map_51, wK_map_53, wK_map_58, wK_map_60, wK_map_63, wK_map_63n, wK_map_65, wK_map_67 g0 g1, wK_map_70, wK_map_91, wK_map_93, wK_map_95, wK_map_98, wK_map_99, wK_map_100, wK_map_101 v0 (by omega) nn nc, wK_map_102, wK_map_103, wK_map_104, hc, hsp, e0, s3, tt, ec, v2, x_gi_int, x_ga_ref, x_ga_null, List.getElem?_cons_zero, List.getElem?_cons_succ, List.length_cons, List.length_nil, List.set_cons_zero, List.set_cons_succ, Nat.reduceAdd, Nat.reduceLT, xr_lt, xr_eq, xr_toInt, xr_0, xi_add, xi_sub, xi_mul, xr_div, xr_rm, Int.toNat_natCast, bd_t, true_and, and_true, not_false_eq_true, ↓reduceIte, ilt_t, ilt_f, ile_t, x_c1i, x_c1r, x_c1n, and_self, Option.toList_some, Option.toList_none, List.cons_append, List.nil_append, xr_01, xr_00, ieq_f, ieq_t]
    refine wK_map_105 (by simp) (by unfold pv; split <;> rfl) rfl (k_mapFrame h hI (lf := s_leafOf S su (e / 4)) (by omega) q7 (fun x => leafOf_hd (u := su) (e := e / 4) (by omega)) ⟨by omega, by omega⟩ (fun x => ?_) (fun x1 x2 x3 w' h' fr => ?_))
    · simp (disch := first | exact hR _ _ | exact x01a | exact x01b | (unfold x_r; omega) | assumption | omega) only [wK_map_108, x_gi_int, x_ga_ref, x_ga_null, List.getElem?_cons_zero, List.getElem?_cons_succ, List.length_cons, List.length_nil, List.set_cons_zero, List.set_cons_succ, Nat.reduceAdd, Nat.reduceLT, xr_lt, xr_eq, xr_toInt, xr_0, xi_add, xi_sub, xi_mul, xr_div, xr_rm, Int.toNat_natCast, bd_t, true_and, and_true, not_false_eq_true, ↓reduceIte, ilt_t, ilt_f, ile_t, x_c1i, x_c1r, x_c1n, and_self, Option.toList_some, Option.toList_none, List.cons_append, List.nil_append, xr_01, xr_00, ieq_f, ieq_t]
      by_cases y1 : S 7 q = -1
      · rw [if_pos y1] at hQ
        by_cases y2 : s_leafOf S su (e / 4) < 0
        · rw [if_pos y2] at hQ
          exact hQ w h (Fr.refl w)
        · rw [if_neg y2] at hQ
          by_cases y3 : s_frameOf S (s_leafOf S su (e / 4)) (e % 4) < 0
          · omega
          · rw [if_neg y3] at hQ
            exact hQ w h (Fr.refl w)
      · rw [if_neg y1] at hQ
        exact hQ w h (Fr.refl w)
    · simp (disch := first | exact hR _ _ | exact x01a | exact x01b | (unfold x_r; omega) | assumption | omega) only [wK_map_108, x_gi_int, x_ga_ref, x_ga_null, List.getElem?_cons_zero, List.getElem?_cons_succ, List.length_cons, List.length_nil, List.set_cons_zero, List.set_cons_succ, Nat.reduceAdd, Nat.reduceLT, xr_lt, xr_eq, xr_toInt, xr_0, xi_add, xi_sub, xi_mul, xr_div, xr_rm, Int.toNat_natCast, bd_t, true_and, and_true, not_false_eq_true, ↓reduceIte, ilt_t, ilt_f, ile_t, x_c1i, x_c1r, x_c1n, and_self, Option.toList_some, Option.toList_none, List.cons_append, List.nil_append, xr_01, xr_00, ieq_f, ieq_t]
      rw [if_pos x1, if_neg x2, if_pos x3] at hQ
      refine hQ w' ?_ fr
      dsimp only
      rw [lid_o (S := S) (by rw [sset_o (by omega), sset_o (by omega)]) (by rw [sset_o (by omega), sset_o (by omega)]) (by rw [sset_o (by omega), sset_o (by omega)])]
      exact h'
end MC
