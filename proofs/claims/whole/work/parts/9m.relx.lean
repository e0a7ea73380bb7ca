section RH3
variable {P : xP} {w : xH} {Q : Option Value → xH → Prop} {A : xA} {S : xS} {ln : Nat → Int}
set_option maxHeartbeats 4000000 in
theorem k_swI {w0 : xH} {r : Int} : ∀ (d s : Nat) (S : xS) (b : Int) (w : xH) (l4 : Option Value), s + d = 128 → InvW S → Rel w A S (lid S) → Fr w0 w 0 → (∀ w' l4, Rel w' A (swI d s S b).1 (lid (swI d s S b).1) → Fr w0 w' 0 → WP P 28 61 [some (.ref (A 12 0)), some (.int (xi (swI d s S b).2)), some (.int (xi r)), some (.int (xi 128)), l4] [] w' Q) →
    WP P 28 19 [some (.ref (A 12 0)), some (.int (xi b)), some (.int (xi r)), some (.int (xi s)), l4] [] w Q := by
  have hR : RgS s_zero := RgS.zero
  intro d
  induction d with
  | zero =>
    intro s S b w l4 hs hW h fr hQ
    obtain rfl : s = 128 := by omega
    simp (disch := first | exact hR _ _ | exact x01a | exact x01b | (unfold x_r; omega) | assumption | omega) only [wK_removeDoomed_19, wK_removeDoomed_20, wK_removeDoomed_23, x_gi_int, x_ga_ref, x_ga_null, List.getElem?_cons_zero, List.getElem?_cons_succ, List.length_cons, List.length_nil, List.set_cons_zero, List.set_cons_succ, Nat.reduceAdd, Nat.reduceLT, xr_lt, xr_eq, xr_toInt, xr_0, xi_add, xi_sub, xi_mul, xr_div, xr_rm, Int.toNat_natCast, bd_t, true_and, and_true, not_false_eq_true, ↓reduceIte, ilt_t, ilt_f, ile_t, x_c1i, x_c1r, x_c1n, and_self, Option.toList_some, Option.toList_none, List.cons_append, List.nil_append, xr_01, xr_00, ieq_f, ieq_t]
    exact hQ w l4 h fr
  | succ d ih =>
    intro s S b w l4 hs hW h fr hQ
    obtain ⟨⟨t0, t1, t2, t3, t4⟩, f0, f1, f2, f3⟩ := h.ker
    have hk : x_has w (A 12 0) [0] := ⟨_, _, t0, by decide⟩
    have sl := h.sl (p := s) (by omega)
    have ec : (xi (s : Int)).toNatClampNeg = s := by rw [x_cle (by omega) (by omega), Int.toNat_natCast]
    have nn := x_nn (e := (s : Int)) (by omega) (by omega)
    have nc := x_clt (e := (s : Int)) (n := 128) (by omega) (by omega) (by omega)
    have e1 : (s : Int) + 1 = ((s + 1 : Nat) : Int) := by omega
    have hd9 := hW.2.2.2.2.1 s (by omega)
    rw [wK_removeDoomed_19]
    unfold swI at hQ
    by_cases c1 : S 0 s < 0
    · rw [pv_n c1] at sl
      have c9 : S 9 s = 0 := by omega
      rw [if_pos c9] at hQ
      simp (disch := first | exact hR _ _ | exact x01a | exact x01b | (unfold x_r; omega) | assumption | omega) only [wK_removeDoomed_20, wK_removeDoomed_23, wK_removeDoomed_26, wK_removeDoomed_27, wK_removeDoomed_30, wK_removeDoomed_31 t1 (by omega) nn nc, wK_removeDoomed_32, wK_removeDoomed_32n, wK_removeDoomed_34, wK_removeDoomed_36n, wK_removeDoomed_36, wK_removeDoomed_55, wK_removeDoomed_58, hk, f0, ec, sl, e1, x_gi_int, x_ga_ref, x_ga_null, List.getElem?_cons_zero, List.getElem?_cons_succ, List.length_cons, List.length_nil, List.set_cons_zero, List.set_cons_succ, Nat.reduceAdd, Nat.reduceLT, xr_lt, xr_eq, xr_toInt, xr_0, xi_add, xi_sub, xi_mul, xr_div, xr_rm, Int.toNat_natCast, bd_t, true_and, and_true, not_false_eq_true, ↓reduceIte, ilt_t, ilt_f, ile_t, x_c1i, x_c1r, x_c1n, and_self, Option.toList_some, Option.toList_none, List.cons_append, List.nil_append, xr_01, xr_00, ieq_f, ieq_t]
      exact ih (s + 1) S b w _ (by omega) hW h fr hQ
    · rw [pv_r c1] at sl
      obtain ⟨ct, -, -, -, -, -, -, -, c7⟩ := h.cap (p := (s : Int)) (by omega) (by omega) (by rw [Int.toNat_natCast]; omega)
      rw [Int.toNat_natCast] at c7
      have hc : x_has w (A 8 (s : Int)) [1] := ⟨_, _, ct, by decide⟩
      by_cases c9 : S 9 s = 0
      · rw [if_pos c9] at hQ
        rw [c9] at c7
        simp (disch := first | exact hR _ _ | exact x01a | exact x01b | (unfold x_r; omega) | assumption | omega) only [wK_removeDoomed_20, wK_removeDoomed_23, wK_removeDoomed_26, wK_removeDoomed_27, wK_removeDoomed_30, wK_removeDoomed_31 t1 (by omega) nn nc, wK_removeDoomed_32, wK_removeDoomed_32n, wK_removeDoomed_34, wK_removeDoomed_36n, wK_removeDoomed_36, wK_removeDoomed_39, wK_removeDoomed_41, wK_removeDoomed_44, wK_removeDoomed_55, wK_removeDoomed_58, hk, hc, f0, c7, ec, sl, e1, x_gi_int, x_ga_ref, x_ga_null, List.getElem?_cons_zero, List.getElem?_cons_succ, List.length_cons, List.length_nil, List.set_cons_zero, List.set_cons_succ, Nat.reduceAdd, Nat.reduceLT, xr_lt, xr_eq, xr_toInt, xr_0, xi_add, xi_sub, xi_mul, xr_div, xr_rm, Int.toNat_natCast, bd_t, true_and, and_true, not_false_eq_true, ↓reduceIte, ilt_t, ilt_f, ile_t, x_c1i, x_c1r, x_c1n, and_self, Option.toList_some, Option.toList_none, List.cons_append, List.nil_append, xr_01, xr_00, ieq_f, ieq_t]
        exact ih (s + 1) S b w _ (by omega) hW h fr hQ
      · rw [if_neg c9] at hQ
        have c91 : S 9 s = 1 := by omega
        rw [c91] at c7
        simp (disch := first | exact hR _ _ | exact x01a | exact x01b | (unfold x_r; omega) | assumption | omega) only [wK_removeDoomed_20, wK_removeDoomed_23, wK_removeDoomed_26, wK_removeDoomed_27, wK_removeDoomed_30, wK_removeDoomed_31 t1 (by omega) nn nc, wK_removeDoomed_32, wK_removeDoomed_32n, wK_removeDoomed_34, wK_removeDoomed_36n, wK_removeDoomed_36, wK_removeDoomed_39, wK_removeDoomed_41, wK_removeDoomed_44, wK_removeDoomed_47, wK_removeDoomed_48, hk, hc, f0, c7, ec, sl, e1, x_gi_int, x_ga_ref, x_ga_null, List.getElem?_cons_zero, List.getElem?_cons_succ, List.length_cons, List.length_nil, List.set_cons_zero, List.set_cons_succ, Nat.reduceAdd, Nat.reduceLT, xr_lt, xr_eq, xr_toInt, xr_0, xi_add, xi_sub, xi_mul, xr_div, xr_rm, Int.toNat_natCast, bd_t, true_and, and_true, not_false_eq_true, ↓reduceIte, ilt_t, ilt_f, ile_t, x_c1i, x_c1r, x_c1n, and_self, Option.toList_some, Option.toList_none, List.cons_append, List.nil_append, xr_01, xr_00, ieq_f, ieq_t]
        refine wK_removeDoomed_50 t0 (by simp) rfl rfl (k_removeOne hW (by omega) (by omega) h (fun w1 h1 fr1 => ?_))
        simp (disch := first | exact hR _ _ | exact x01a | exact x01b | (unfold x_r; omega) | assumption | omega) only [wK_removeDoomed_53, wK_removeDoomed_54, wK_removeDoomed_55, wK_removeDoomed_58, e1, x_gi_int, x_ga_ref, x_ga_null, List.getElem?_cons_zero, List.getElem?_cons_succ, List.length_cons, List.length_nil, List.set_cons_zero, List.set_cons_succ, Nat.reduceAdd, Nat.reduceLT, xr_lt, xr_eq, xr_toInt, xr_0, xi_add, xi_sub, xi_mul, xr_div, xr_rm, Int.toNat_natCast, bd_t, true_and, and_true, not_false_eq_true, ↓reduceIte, ilt_t, ilt_f, ile_t, x_c1i, x_c1r, x_c1n, and_self, Option.toList_some, Option.toList_none, List.cons_append, List.nil_append, xr_01, xr_00, ieq_f, ieq_t]
        exact ih (s + 1) _ 1 w1 _ (by omega) (hW.remove (by omega) (by omega)) h1 (fr.trans fr1 (by omega)) hQ
set_option maxHeartbeats 4000000 in
theorem k_swO {w0 : xH} : ∀ (d r : Nat) (S : xS) (b : Int) (w : xH) (l3 l4 : Option Value), r + d = 129 → (b = 0 ∨ b = 1) → InvW S → Rel w A S (lid S) → Fr w0 w 0 → (∀ w', Rel w' A (swO d S b) (lid (swO d S b)) → Fr w0 w' 0 → Q none w') →
    WP P 28 4 [some (.ref (A 12 0)), some (.int (xi b)), some (.int (xi r)), l3, l4] [] w Q := by
  have hR : RgS s_zero := RgS.zero
  intro d
  induction d with
  | zero =>
    intro r S b w l3 l4 hs hb hW h fr hQ
    obtain rfl : r = 129 := by omega
    simp (disch := first | exact hR _ _ | exact x01a | exact x01b | (unfold x_r; omega) | assumption | omega) only [wK_removeDoomed_4, wK_removeDoomed_5, wK_removeDoomed_8, wK_removeDoomed_67, x_gi_int, x_ga_ref, x_ga_null, List.getElem?_cons_zero, List.getElem?_cons_succ, List.length_cons, List.length_nil, List.set_cons_zero, List.set_cons_succ, Nat.reduceAdd, Nat.reduceLT, xr_lt, xr_eq, xr_toInt, xr_0, xi_add, xi_sub, xi_mul, xr_div, xr_rm, Int.toNat_natCast, bd_t, true_and, and_true, not_false_eq_true, ↓reduceIte, ilt_t, ilt_f, ile_t, x_c1i, x_c1r, x_c1n, and_self, Option.toList_some, Option.toList_none, List.cons_append, List.nil_append, xr_01, xr_00, ieq_f, ieq_t]
    exact hQ w h fr
  | succ d ih =>
    intro r S b w l3 l4 hs hb hW h fr hQ
    have e1 : (r : Int) + 1 = ((r + 1 : Nat) : Int) := by omega
    have nr : ¬ (128 : Int) < (r : Int) := by omega
    rw [wK_removeDoomed_4]
    unfold swO at hQ
    by_cases c1 : b = 0
    · rw [if_pos c1] at hQ
      simp (disch := first | exact hR _ _ | exact x01a | exact x01b | (unfold x_r; omega) | assumption | omega) only [wK_removeDoomed_5, wK_removeDoomed_8, wK_removeDoomed_11, wK_removeDoomed_12, wK_removeDoomed_67, c1, nr, x_gi_int, x_ga_ref, x_ga_null, List.getElem?_cons_zero, List.getElem?_cons_succ, List.length_cons, List.length_nil, List.set_cons_zero, List.set_cons_succ, Nat.reduceAdd, Nat.reduceLT, xr_lt, xr_eq, xr_toInt, xr_0, xi_add, xi_sub, xi_mul, xr_div, xr_rm, Int.toNat_natCast, bd_t, true_and, and_true, not_false_eq_true, ↓reduceIte, ilt_t, ilt_f, ile_t, x_c1i, x_c1r, x_c1n, and_self, Option.toList_some, Option.toList_none, List.cons_append, List.nil_append, xr_01, xr_00, ieq_f, ieq_t]
      exact hQ w h fr
    · rw [if_neg c1] at hQ
      have si := swI_inv 128 0 S 0 (by omega) hW
      have b1 : b = 1 := by omega
      simp (disch := first | exact hR _ _ | exact x01a | exact x01b | (unfold x_r; omega) | assumption | omega) only [wK_removeDoomed_5, wK_removeDoomed_8, wK_removeDoomed_11, wK_removeDoomed_12, wK_removeDoomed_15, wK_removeDoomed_16, wK_removeDoomed_17, wK_removeDoomed_18, b1, nr, x_gi_int, x_ga_ref, x_ga_null, List.getElem?_cons_zero, List.getElem?_cons_succ, List.length_cons, List.length_nil, List.set_cons_zero, List.set_cons_succ, Nat.reduceAdd, Nat.reduceLT, xr_lt, xr_eq, xr_toInt, xr_0, xi_add, xi_sub, xi_mul, xr_div, xr_rm, Int.toNat_natCast, bd_t, true_and, and_true, not_false_eq_true, ↓reduceIte, ilt_t, ilt_f, ile_t, x_c1i, x_c1r, x_c1n, and_self, Option.toList_some, Option.toList_none, List.cons_append, List.nil_append, xr_01, xr_00, ieq_f, ieq_t]
      refine k_swI 128 0 S 0 w l4 (by omega) hW h fr (fun w1 l4' h1 fr1 => ?_)
      simp (disch := first | exact hR _ _ | exact x01a | exact x01b | (unfold x_r; omega) | assumption | omega) only [wK_removeDoomed_61, wK_removeDoomed_64, e1, x_gi_int, x_ga_ref, x_ga_null, List.getElem?_cons_zero, List.getElem?_cons_succ, List.length_cons, List.length_nil, List.set_cons_zero, List.set_cons_succ, Nat.reduceAdd, Nat.reduceLT, xr_lt, xr_eq, xr_toInt, xr_0, xi_add, xi_sub, xi_mul, xr_div, xr_rm, Int.toNat_natCast, bd_t, true_and, and_true, not_false_eq_true, ↓reduceIte, ilt_t, ilt_f, ile_t, x_c1i, x_c1r, x_c1n, and_self, Option.toList_some, Option.toList_none, List.cons_append, List.nil_append, xr_01, xr_00, ieq_f, ieq_t]
      exact ih (r + 1) _ _ w1 _ _ (by omega) (by omega) si.1 h1 fr1 hQ
theorem k_removeDoomed (h : Rel w A S (lid S)) (hW : InvW S) {l1 l2 l3 l4 : Option Value} (hQ : ∀ w', Rel w' A (s_sweep S) (lid (s_sweep S)) → Fr w w' 0 → Q none w') : WP P 28 0 [some (.ref (A 12 0)), l1, l2, l3, l4] [] w Q := by
  rw [sweep_129 hW] at hQ
  simp (disch := first | exact hR _ _ | exact x01a | exact x01b | (unfold x_r; omega) | assumption | omega) only [wK_removeDoomed_0, wK_removeDoomed_1, wK_removeDoomed_2, wK_removeDoomed_3, x_gi_int, x_ga_ref, x_ga_null, List.getElem?_cons_zero, List.getElem?_cons_succ, List.length_cons, List.length_nil, List.set_cons_zero, List.set_cons_succ, Nat.reduceAdd, Nat.reduceLT, xr_lt, xr_eq, xr_toInt, xr_0, xi_add, xi_sub, xi_mul, xr_div, xr_rm, Int.toNat_natCast, bd_t, true_and, and_true, not_false_eq_true, ↓reduceIte, ilt_t, ilt_f, ile_t, x_c1i, x_c1r, x_c1n, and_self, Option.toList_some, Option.toList_none, List.cons_append, List.nil_append, xr_01, xr_00, ieq_f, ieq_t]
  exact k_swO 129 0 S 1 w l3 l4 (by omega) (by omega) hW h (Fr.refl w) hQ
theorem Fv_9 {S : xS} {p : Nat} {v : Int} {k i : Int} {f : Nat} (c : ¬ (k = 8 ∧ f = 7 ∧ i.toNat = p)) : xFv A (sset S 9 p v) ln k i f = xFv A S ln k i f := by
  by_cases c8 : k = 8
  · rw [c8]
    show Fcap A (sset S 9 p v) i f = Fcap A S i f
    unfold Fcap
    by_cases c7 : f = 7
    · have ci : ¬ i.toNat = p := fun x => c ⟨c8, c7, x⟩
      rw [c7]
      simp only [sset_at, ci, and_false, if_false]
      rfl
    · simp only [c7, if_false]
      rfl
  · unfold xFv
    simp only [c8, if_false]
    rfl
theorem Hp.mark (h : Rel w A S ln) {p : Nat} (hp : p < 128) (hl : 0 ≤ S 0 p) {v : Int} : Rel (x_put w (A 8 (p : Int)) 7 (.int (xi v))) A (sset S 9 p v) ln := by
  have eu := us_cg (S := S) (S' := sset S 9 p v) (sset_o (by omega)) (sset_o (by omega))
  have hus : us S 8 (p : Int) := us_cap (by omega) (by omega) (by rw [Int.toNat_natCast]; exact hl)
  refine Hp.to (h.put hus 7 (.int (xi v))) (fun k i q => ⟨by rw [← eu]; exact q, rfl⟩) (fun k i f x q g => ?_)
  rw [eu] at q
  by_cases c : k = 8 ∧ f = 7 ∧ i.toNat = p
  · obtain ⟨c1, c2, c3⟩ := c
    rw [c1] at q
    have ei : i = (p : Int) := by
      rcases q with q | q | q | q | q | q | q <;> omega
    rw [c1, c2, ei, fup_e]
    rw [c1, c2, ei] at g
    have g : some (Value.int (xi (sset S 9 p v 9 (p : Int).toNat))) = some x := g
    rw [sset_at, if_pos ⟨rfl, Int.toNat_natCast p⟩] at g
    exact g
  · rw [fup_n (fun x => c ⟨x.1, x.2.2, by rw [x.2.1, Int.toNat_natCast]⟩), ← Fv_9 c]
    exact g
set_option maxHeartbeats 4000000 in
theorem k_delete (h : Rel w A S (lid S)) (hI : Inv S) {a : Int} (ha : x_r a) {l2 l3 : Option Value} (hQ : ∀ w', Rel w' A (s_delete S a).2 (lid (s_delete S a).2) → Fr w w' 0 → Q (some (.int (xi (s_delete S a).1))) w') : WP P 27 0 [some (.ref (A 12 0)), some (.int (xi a)), l2, l3] [] w Q := by
  unfold s_delete at hQ
  obtain ⟨⟨t0, t1, t2, t3, t4⟩, f0, f1, f2, f3⟩ := h.ker
  have hR := hI.1.1
  have hn := s_now_in S
  simp (disch := first | exact hR _ _ | exact x01a | exact x01b | (unfold x_r; omega) | assumption | omega) only [wK_delete_0, x_gi_int, x_ga_ref, x_ga_null, List.getElem?_cons_zero, List.getElem?_cons_succ, List.length_cons, List.length_nil, List.set_cons_zero, List.set_cons_succ, Nat.reduceAdd, Nat.reduceLT, xr_lt, xr_eq, xr_toInt, xr_0, xi_add, xi_sub, xi_mul, xr_div, xr_rm, Int.toNat_natCast, bd_t, true_and, and_true, not_false_eq_true, ↓reduceIte, ilt_t, ilt_f, ile_t, x_c1i, x_c1r, x_c1n, and_self, Option.toList_some, Option.toList_none, List.cons_append, List.nil_append, xr_01, xr_00, ieq_f, ieq_t]
  refine wK_delete_1 t0 (by simp) rfl rfl (k_currentThread h hI ?_)
  by_cases c1 : s_now S < 0
  · rw [if_pos c1] at hQ
    rw [pv_n c1]
    simp (disch := first | exact hR _ _ | exact x01a | exact x01b | (unfold x_r; omega) | assumption | omega) only [wK_delete_4, wK_delete_4n, wK_delete_5, wK_delete_6n, wK_delete_6, wK_delete_9, wK_delete_11, x_gi_int, x_ga_ref, x_ga_null, List.getElem?_cons_zero, List.getElem?_cons_succ, List.length_cons, List.length_nil, List.set_cons_zero, List.set_cons_succ, Nat.reduceAdd, Nat.reduceLT, xr_lt, xr_eq, xr_toInt, xr_0, xi_add, xi_sub, xi_mul, xr_div, xr_rm, Int.toNat_natCast, bd_t, true_and, and_true, not_false_eq_true, ↓reduceIte, ilt_t, ilt_f, ile_t, x_c1i, x_c1r, x_c1n, and_self, Option.toList_some, Option.toList_none, List.cons_append, List.nil_append, xr_01, xr_00, ieq_f, ieq_t]
    exact hQ w h (Fr.refl w)
  rw [if_neg c1] at hQ
  rw [pv_r c1]
  obtain ⟨n1, n2⟩ := now_is c1
  simp (disch := first | exact hR _ _ | exact x01a | exact x01b | (unfold x_r; omega) | assumption | omega) only [wK_delete_4, wK_delete_4n, wK_delete_5, wK_delete_6n, wK_delete_6, wK_delete_12, wK_delete_13, wK_delete_14, x_gi_int, x_ga_ref, x_ga_null, List.getElem?_cons_zero, List.getElem?_cons_succ, List.length_cons, List.length_nil, List.set_cons_zero, List.set_cons_succ, Nat.reduceAdd, Nat.reduceLT, xr_lt, xr_eq, xr_toInt, xr_0, xi_add, xi_sub, xi_mul, xr_div, xr_rm, Int.toNat_natCast, bd_t, true_and, and_true, not_false_eq_true, ↓reduceIte, ilt_t, ilt_f, ile_t, x_c1i, x_c1r, x_c1n, and_self, Option.toList_some, Option.toList_none, List.cons_append, List.nil_append, xr_01, xr_00, ieq_f, ieq_t]
  refine wK_delete_15 t0 (by simp) rfl rfl (k_capabilityAt h hI (by omega) (by omega) (by omega) ha ?_)
  have hb := s_hv_is hI (t := (s_now S).toNat) n1 a
  have ehk := having_hv S a
  rw [← ehk] at hb ⊢
  by_cases d1 : s_having S a (-1) < 0
  · rw [if_pos d1] at hQ
    rw [pv_n d1]
    simp (disch := first | exact hR _ _ | exact x01a | exact x01b | (unfold x_r; omega) | assumption | omega) only [wK_delete_18, wK_delete_18n, wK_delete_19, wK_delete_20n, wK_delete_20, wK_delete_23, wK_delete_24, x_gi_int, x_ga_ref, x_ga_null, List.getElem?_cons_zero, List.getElem?_cons_succ, List.length_cons, List.length_nil, List.set_cons_zero, List.set_cons_succ, Nat.reduceAdd, Nat.reduceLT, xr_lt, xr_eq, xr_toInt, xr_0, xi_add, xi_sub, xi_mul, xr_div, xr_rm, Int.toNat_natCast, bd_t, true_and, and_true, not_false_eq_true, ↓reduceIte, ilt_t, ilt_f, ile_t, x_c1i, x_c1r, x_c1n, and_self, Option.toList_some, Option.toList_none, List.cons_append, List.nil_append, xr_01, xr_00, ieq_f, ieq_t]
    exact hQ w h (Fr.refl w)
  rw [if_neg d1] at hQ
  rw [pv_r d1]
  obtain ⟨p, ep⟩ : ∃ p : Nat, s_having S a (-1) = (p : Int) := ⟨(s_having S a (-1)).toNat, by omega⟩
  rw [ep, Int.toNat_natCast] at hb hQ
  rw [ep]
  have hl := hb.2.2 (by omega)
  have ct := (h.cap (p := (p : Int)) (by omega) (by omega) (by rw [Int.toNat_natCast]; exact hl)).1
  have hc : x_has w (A 8 (p : Int)) [1] := ⟨_, _, ct, by decide⟩
  have xf : x_fit 1 (.int (xi 1)) = true := rfl
  simp (disch := first | exact hR _ _ | exact x01a | exact x01b | (unfold x_r; omega) | assumption | omega) only [wK_delete_18, wK_delete_18n, wK_delete_19, wK_delete_20n, wK_delete_20, wK_delete_25, wK_delete_26, wK_delete_27, wK_delete_30, hc, xf, x_gi_int, x_ga_ref, x_ga_null, List.getElem?_cons_zero, List.getElem?_cons_succ, List.length_cons, List.length_nil, List.set_cons_zero, List.set_cons_succ, Nat.reduceAdd, Nat.reduceLT, xr_lt, xr_eq, xr_toInt, xr_0, xi_add, xi_sub, xi_mul, xr_div, xr_rm, Int.toNat_natCast, bd_t, true_and, and_true, not_false_eq_true, ↓reduceIte, ilt_t, ilt_f, ile_t, x_c1i, x_c1r, x_c1n, and_self, Option.toList_some, Option.toList_none, List.cons_append, List.nil_append, xr_01, xr_00, ieq_f, ieq_t]
  have h1 := h.mark (p := p) (by omega) hl (v := 1)
  have fr1 := h.frp (Fr.refl w) (us_cap (p := (p : Int)) (by omega) (by omega) (by rw [Int.toNat_natCast]; exact hl)) 7 (.int (xi 1))
  have hW1 : InvW (sset S 9 p 1) := hI.mark (hI.1.1.set ⟨by omega, by omega⟩) (fun j c => sset_o c) (fun q hq => by
    rw [sset_at]
    split
    next c => exact Or.inr ⟨rfl, by rw [c.2]; exact hl⟩
    · exact Or.inl (hI.2 q hq))
  have q0 : x_tg (x_put w (A 8 (p : Int)) 7 (.int (xi 1))) (A 12 0) = some (0, 4) := h1.tg (us_ker (i := 0) (by omega))
  refine wK_delete_31 q0 (by simp) rfl rfl (k_removeDoomed h1 hW1 (fun w2 h2 fr2 => ?_))
  simp (disch := first | exact hR _ _ | exact x01a | exact x01b | (unfold x_r; omega) | assumption | omega) only [wK_delete_34, wK_delete_35, x_gi_int, x_ga_ref, x_ga_null, List.getElem?_cons_zero, List.getElem?_cons_succ, List.length_cons, List.length_nil, List.set_cons_zero, List.set_cons_succ, Nat.reduceAdd, Nat.reduceLT, xr_lt, xr_eq, xr_toInt, xr_0, xi_add, xi_sub, xi_mul, xr_div, xr_rm, Int.toNat_natCast, bd_t, true_and, and_true, not_false_eq_true, ↓reduceIte, ilt_t, ilt_f, ile_t, x_c1i, x_c1r, x_c1n, and_self, Option.toList_some, Option.toList_none, List.cons_append, List.nil_append, xr_01, xr_00, ieq_f, ieq_t]
  exact hQ w2 h2 (fr1.trans fr2 (by omega))
theorem upL_cg {S S' : xS} (h4 : S' 4 = S 4) (s : Int) : ∀ (n : Nat) (up : Int), upL S' s n up = upL S s n up := by
  intro n
  induction n with
  | zero => intro up; rfl
  | succ n ih =>
    intro up
    unfold upL
    rw [ih, h4]
theorem rv_doo_cg {S S' : xS} (h0 : S' 0 = S 0) (h4 : S' 4 = S 4) (s : Int) (q : Nat) : rv_doo S' s q = rv_doo S s q := by
  unfold rv_doo
  rw [upL_cg h4, h0, h4]
theorem k_descendsFromW (h : Rel w A S ln) (hR : RgS S) (hT : TrS S) {s : Int} {q : Nat} (s0 : 0 ≤ s) (s1 : s < 128) (s2 : 0 ≤ S 0 s.toNat) (hq : q < 128) (ql : 0 ≤ S 0 q) {l2 : Option Value} (hQ : Q (some (.int (xi (rv_doo S s q)))) w) : WP P 41 0 [some (.ref (A 8 (q : Int))), some (.ref (A 8 s)), l2] [] w Q := by
  obtain ⟨r, r1, r2⟩ := hT.rank
  obtain ⟨ct, -, -, -, c3, -⟩ := h.cap (p := (q : Int)) (by omega) (by omega) (by rw [Int.toNat_natCast]; exact ql)
  rw [Int.toNat_natCast] at c3
  have hc : x_has w (A 8 (q : Int)) [1] := ⟨_, _, ct, by decide⟩
  unfold rv_doo at hQ
  rw [show (if S 0 q < 0 then -1 else S 4 q) = S 4 q from if_neg (by omega)] at hQ
  have i := k_df_loop (P := P) h hR (q := (q : Int)) s0 s1 s2 r r2 (l0 := some (.ref (A 8 (q : Int)))) 128 (S 4 q) (by
    rcases r2 q hq with g | g
    · exact Or.inl g
    · exact Or.inr ⟨g.1, g.2.1, g.2.2.1, by have := r1 q; omega⟩) hQ
  by_cases c4 : S 4 q < 0
  · rw [pv_n c4] at c3 i
    simp (disch := first | exact hR _ _ | exact x01a | exact x01b | (unfold x_r; omega) | assumption | omega) only [wK_descendsFrom_0, wK_descendsFrom_1, wK_descendsFrom_4, wK_descendsFrom_4n, hc, c3, x_gi_int, x_ga_ref, x_ga_null, List.getElem?_cons_zero, List.getElem?_cons_succ, List.length_cons, List.length_nil, List.set_cons_zero, List.set_cons_succ, Nat.reduceAdd, Nat.reduceLT, xr_lt, xr_eq, xr_toInt, xr_0, xi_add, xi_sub, xi_mul, xr_div, xr_rm, Int.toNat_natCast, bd_t, true_and, and_true, not_false_eq_true, ↓reduceIte, ilt_t, ilt_f, ile_t, x_c1i, x_c1r, x_c1n, and_self, Option.toList_some, Option.toList_none, List.cons_append, List.nil_append, xr_01, xr_00, ieq_f, ieq_t]
    exact i
  · rw [pv_r c4] at c3 i
    simp (disch := first | exact hR _ _ | exact x01a | exact x01b | (unfold x_r; omega) | assumption | omega) only [wK_descendsFrom_0, wK_descendsFrom_1, wK_descendsFrom_4, wK_descendsFrom_4n, hc, c3, x_gi_int, x_ga_ref, x_ga_null, List.getElem?_cons_zero, List.getElem?_cons_succ, List.length_cons, List.length_nil, List.set_cons_zero, List.set_cons_succ, Nat.reduceAdd, Nat.reduceLT, xr_lt, xr_eq, xr_toInt, xr_0, xi_add, xi_sub, xi_mul, xr_div, xr_rm, Int.toNat_natCast, bd_t, true_and, and_true, not_false_eq_true, ↓reduceIte, ilt_t, ilt_f, ile_t, x_c1i, x_c1r, x_c1n, and_self, Option.toList_some, Option.toList_none, List.cons_append, List.nil_append, xr_01, xr_00, ieq_f, ieq_t]
    exact i
set_option maxHeartbeats 4000000 in
theorem k_rv_loop (hI : Inv S) {s : Int} (s0 : 0 ≤ s) (s1 : s < 128) (s2 : 0 ≤ S 0 s.toNat) {w0 : xH} {l1 l2 : Option Value} (hQ : ∀ w' l5, Rel w' A (mapA S 9 128 (rv_doo S s)) (lid S) → Fr w0 w' 0 → WP P 40 71 [some (.ref (A 12 0)), l1, l2, some (.ref (A 8 s)), some (.int (xi 128)), l5] [] w' Q) : ∀ (d n : Nat) (w : xH) (l5 : Option Value), n + d = 128 → Rel w A (mapA S 9 n (rv_doo S s)) (lid S) → Fr w0 w 0 →
    WP P 40 28 [some (.ref (A 12 0)), l1, l2, some (.ref (A 8 s)), some (.int (xi n)), l5] [] w Q := by
  have hR : RgS s_zero := RgS.zero
  intro d
  induction d with
  | zero =>
    intro n w l5 hn h fr
    obtain rfl : n = 128 := by omega
    simp (disch := first | exact hR _ _ | exact x01a | exact x01b | (unfold x_r; omega) | assumption | omega) only [wK_revoke_28, wK_revoke_30, wK_revoke_33, x_gi_int, x_ga_ref, x_ga_null, List.getElem?_cons_zero, List.getElem?_cons_succ, List.length_cons, List.length_nil, List.set_cons_zero, List.set_cons_succ, Nat.reduceAdd, Nat.reduceLT, xr_lt, xr_eq, xr_toInt, xr_0, xi_add, xi_sub, xi_mul, xr_div, xr_rm, Int.toNat_natCast, bd_t, true_and, and_true, not_false_eq_true, ↓reduceIte, ilt_t, ilt_f, ile_t, x_c1i, x_c1r, x_c1n, and_self, Option.toList_some, Option.toList_none, List.cons_append, List.nil_append, xr_01, xr_00, ieq_f, ieq_t]
    exact hQ w l5 h fr
  | succ d ih =>
    intro n w l5 hn h fr
    obtain ⟨⟨t0, t1, t2, t3, t4⟩, f0, f1, f2, f3⟩ := h.ker
    have hk : x_has w (A 12 0) [0] := ⟨_, _, t0, by decide⟩
    have e0 : mapA S 9 n (rv_doo S s) 0 = S 0 := mapA_o (by omega)
    have e4 : mapA S 9 n (rv_doo S s) 4 = S 4 := mapA_o (by omega)
    have sl := h.sl (p := n) (by omega)
    rw [e0] at sl
    have ec : (xi (n : Int)).toNatClampNeg = n := by rw [x_cle (by omega) (by omega), Int.toNat_natCast]
    have nn := x_nn (e := (n : Int)) (by omega) (by omega)
    have nc := x_clt (e := (n : Int)) (n := 128) (by omega) (by omega) (by omega)
    have e1 : (n : Int) + 1 = ((n + 1 : Nat) : Int) := by omega
    have same : rv_doo S s n = 0 → mapA S 9 (n + 1) (rv_doo S s) = mapA S 9 n (rv_doo S s) := by
      intro z
      rw [← mapA_s (k := n) (v := 0) z.symm]
      funext j i
      rw [sset_at]
      split
      next c =>
        rw [mapA_at, c.1, c.2, if_neg (by omega)]
        exact (hI.2 n (by omega)).symm
      · rfl
    rw [wK_revoke_28]
    by_cases c1 : S 0 n < 0
    · rw [pv_n c1] at sl
      have z : rv_doo S s n = 0 := by
        unfold rv_doo
        rw [if_pos c1]
        have : upL S s 128 (-1) = -1 := by
          unfold upL
          rw [if_pos rfl]
        rw [this, if_neg (by omega)]
      simp (disch := first | exact hR _ _ | exact x01a | exact x01b | (unfold x_r; omega) | assumption | omega) only [wK_revoke_30, wK_revoke_33, wK_revoke_36, wK_revoke_37, wK_revoke_40, wK_revoke_42 t1 (by omega) nn nc, wK_revoke_43, wK_revoke_43n, wK_revoke_45, wK_revoke_47n, wK_revoke_47, wK_revoke_65, wK_revoke_68, hk, f0, ec, sl, e1, x_gi_int, x_ga_ref, x_ga_null, List.getElem?_cons_zero, List.getElem?_cons_succ, List.length_cons, List.length_nil, List.set_cons_zero, List.set_cons_succ, Nat.reduceAdd, Nat.reduceLT, xr_lt, xr_eq, xr_toInt, xr_0, xi_add, xi_sub, xi_mul, xr_div, xr_rm, Int.toNat_natCast, bd_t, true_and, and_true, not_false_eq_true, ↓reduceIte, ilt_t, ilt_f, ile_t, x_c1i, x_c1r, x_c1n, and_self, Option.toList_some, Option.toList_none, List.cons_append, List.nil_append, xr_01, xr_00, ieq_f, ieq_t]
      exact ih (n + 1) w _ (by omega) (by rw [same z]; exact h) fr
    · rw [pv_r c1] at sl
      have ct := (h.cap (p := (n : Int)) (by omega) (by omega) (by rw [Int.toNat_natCast, e0]; omega)).1
      have hc : x_has w (A 8 (n : Int)) [1] := ⟨_, _, ct, by decide⟩
      simp (disch := first | exact hR _ _ | exact x01a | exact x01b | (unfold x_r; omega) | assumption | omega) only [wK_revoke_30, wK_revoke_33, wK_revoke_36, wK_revoke_37, wK_revoke_40, wK_revoke_42 t1 (by omega) nn nc, wK_revoke_43, wK_revoke_43n, wK_revoke_45, wK_revoke_47n, wK_revoke_47, wK_revoke_50, wK_revoke_52, hk, hc, f0, ec, sl, e1, x_gi_int, x_ga_ref, x_ga_null, List.getElem?_cons_zero, List.getElem?_cons_succ, List.length_cons, List.length_nil, List.set_cons_zero, List.set_cons_succ, Nat.reduceAdd, Nat.reduceLT, xr_lt, xr_eq, xr_toInt, xr_0, xi_add, xi_sub, xi_mul, xr_div, xr_rm, Int.toNat_natCast, bd_t, true_and, and_true, not_false_eq_true, ↓reduceIte, ilt_t, ilt_f, ile_t, x_c1i, x_c1r, x_c1n, and_self, Option.toList_some, Option.toList_none, List.cons_append, List.nil_append, xr_01, xr_00, ieq_f, ieq_t]
      have hr : RgS (mapA S 9 n (rv_doo S s)) := hI.1.1.map fun i _ => by
        rcases rv_doo_in S s i with e | e <;> rw [e] <;> exact ⟨by omega, by omega⟩
      have hT : TrS (mapA S 9 n (rv_doo S s)) := by
        unfold TrS
        rw [e0, e4]
        exact hI.1.2.2.1.1
      refine wK_revoke_53 (by simp) rfl rfl (k_descendsFromW h hr hT s0 s1 (by rw [e0]; exact s2) (by omega) (by rw [e0]; omega) ?_)
      rw [rv_doo_cg e0 e4]
      rcases rv_doo_in S s n with z | z
      · simp (disch := first | exact hR _ _ | exact x01a | exact x01b | (unfold x_r; omega) | assumption | omega) only [wK_revoke_56, wK_revoke_65, wK_revoke_68, e1, z, x_gi_int, x_ga_ref, x_ga_null, List.getElem?_cons_zero, List.getElem?_cons_succ, List.length_cons, List.length_nil, List.set_cons_zero, List.set_cons_succ, Nat.reduceAdd, Nat.reduceLT, xr_lt, xr_eq, xr_toInt, xr_0, xi_add, xi_sub, xi_mul, xr_div, xr_rm, Int.toNat_natCast, bd_t, true_and, and_true, not_false_eq_true, ↓reduceIte, ilt_t, ilt_f, ile_t, x_c1i, x_c1r, x_c1n, and_self, Option.toList_some, Option.toList_none, List.cons_append, List.nil_append, xr_01, xr_00, ieq_f, ieq_t]
        exact ih (n + 1) w _ (by omega) (by rw [same z]; exact h) fr
      · have xf : x_fit 1 (.int (xi 1)) = true := rfl
        simp (disch := first | exact hR _ _ | exact x01a | exact x01b | (unfold x_r; omega) | assumption | omega) only [wK_revoke_56, wK_revoke_59, wK_revoke_61, wK_revoke_62, wK_revoke_65, wK_revoke_68, e1, z, hc, xf, x_gi_int, x_ga_ref, x_ga_null, List.getElem?_cons_zero, List.getElem?_cons_succ, List.length_cons, List.length_nil, List.set_cons_zero, List.set_cons_succ, Nat.reduceAdd, Nat.reduceLT, xr_lt, xr_eq, xr_toInt, xr_0, xi_add, xi_sub, xi_mul, xr_div, xr_rm, Int.toNat_natCast, bd_t, true_and, and_true, not_false_eq_true, ↓reduceIte, ilt_t, ilt_f, ile_t, x_c1i, x_c1r, x_c1n, and_self, Option.toList_some, Option.toList_none, List.cons_append, List.nil_append, xr_01, xr_00, ieq_f, ieq_t]
        have ls : 0 ≤ mapA S 9 n (rv_doo S s) 0 n := by rw [e0]; omega
        refine ih (n + 1) _ _ (by omega) ?_ (h.frp fr (us_cap (p := (n : Int)) (by omega) (by omega) (by rw [Int.toNat_natCast]; exact ls)) 7 _)
        rw [← mapA_s (k := n) (v := 1) z.symm]
        exact h.mark (by omega) ls
set_option maxHeartbeats 4000000 in
theorem k_revoke (h : Rel w A S (lid S)) (hI : Inv S) {a : Int} (ha : x_r a) {l2 l3 l4 l5 : Option Value} (hQ : ∀ w', Rel w' A (s_revoke S a).2 (lid (s_revoke S a).2) → Fr w w' 0 → Q (some (.int (xi (s_revoke S a).1))) w') : WP P 40 0 [some (.ref (A 12 0)), some (.int (xi a)), l2, l3, l4, l5] [] w Q := by
  unfold s_revoke at hQ
  obtain ⟨⟨t0, t1, t2, t3, t4⟩, f0, f1, f2, f3⟩ := h.ker
  have hR := hI.1.1
  have hn := s_now_in S
  simp (disch := first | exact hR _ _ | exact x01a | exact x01b | (unfold x_r; omega) | assumption | omega) only [wK_revoke_0, x_gi_int, x_ga_ref, x_ga_null, List.getElem?_cons_zero, List.getElem?_cons_succ, List.length_cons, List.length_nil, List.set_cons_zero, List.set_cons_succ, Nat.reduceAdd, Nat.reduceLT, xr_lt, xr_eq, xr_toInt, xr_0, xi_add, xi_sub, xi_mul, xr_div, xr_rm, Int.toNat_natCast, bd_t, true_and, and_true, not_false_eq_true, ↓reduceIte, ilt_t, ilt_f, ile_t, x_c1i, x_c1r, x_c1n, and_self, Option.toList_some, Option.toList_none, List.cons_append, List.nil_append, xr_01, xr_00, ieq_f, ieq_t]
  refine wK_revoke_1 t0 (by simp) rfl rfl (k_currentThread h hI ?_)
  by_cases c1 : s_now S < 0
  · rw [if_pos c1] at hQ
    rw [pv_n c1]
    simp (disch := first | exact hR _ _ | exact x01a | exact x01b | (unfold x_r; omega) | assumption | omega) only [wK_revoke_4, wK_revoke_4n, wK_revoke_5, wK_revoke_6n, wK_revoke_6, wK_revoke_9, wK_revoke_11, x_gi_int, x_ga_ref, x_ga_null, List.getElem?_cons_zero, List.getElem?_cons_succ, List.length_cons, List.length_nil, List.set_cons_zero, List.set_cons_succ, Nat.reduceAdd, Nat.reduceLT, xr_lt, xr_eq, xr_toInt, xr_0, xi_add, xi_sub, xi_mul, xr_div, xr_rm, Int.toNat_natCast, bd_t, true_and, and_true, not_false_eq_true, ↓reduceIte, ilt_t, ilt_f, ile_t, x_c1i, x_c1r, x_c1n, and_self, Option.toList_some, Option.toList_none, List.cons_append, List.nil_append, xr_01, xr_00, ieq_f, ieq_t]
    exact hQ w h (Fr.refl w)
  rw [if_neg c1] at hQ
  rw [pv_r c1]
  obtain ⟨n1, n2⟩ := now_is c1
  simp (disch := first | exact hR _ _ | exact x01a | exact x01b | (unfold x_r; omega) | assumption | omega) only [wK_revoke_4, wK_revoke_4n, wK_revoke_5, wK_revoke_6n, wK_revoke_6, wK_revoke_12, wK_revoke_13, wK_revoke_14, x_gi_int, x_ga_ref, x_ga_null, List.getElem?_cons_zero, List.getElem?_cons_succ, List.length_cons, List.length_nil, List.set_cons_zero, List.set_cons_succ, Nat.reduceAdd, Nat.reduceLT, xr_lt, xr_eq, xr_toInt, xr_0, xi_add, xi_sub, xi_mul, xr_div, xr_rm, Int.toNat_natCast, bd_t, true_and, and_true, not_false_eq_true, ↓reduceIte, ilt_t, ilt_f, ile_t, x_c1i, x_c1r, x_c1n, and_self, Option.toList_some, Option.toList_none, List.cons_append, List.nil_append, xr_01, xr_00, ieq_f, ieq_t]
  refine wK_revoke_15 t0 (by simp) rfl rfl (k_capabilityAt h hI (by omega) (by omega) (by omega) ha ?_)
  have hb := s_hv_is hI (t := (s_now S).toNat) n1 a
  have ehk := having_hv S a
  rw [← ehk] at hb ⊢
  by_cases d1 : s_having S a (-1) < 0
  · rw [if_pos d1] at hQ
    rw [pv_n d1]
    simp (disch := first | exact hR _ _ | exact x01a | exact x01b | (unfold x_r; omega) | assumption | omega) only [wK_revoke_18, wK_revoke_18n, wK_revoke_19, wK_revoke_20n, wK_revoke_20, wK_revoke_23, wK_revoke_24, x_gi_int, x_ga_ref, x_ga_null, List.getElem?_cons_zero, List.getElem?_cons_succ, List.length_cons, List.length_nil, List.set_cons_zero, List.set_cons_succ, Nat.reduceAdd, Nat.reduceLT, xr_lt, xr_eq, xr_toInt, xr_0, xi_add, xi_sub, xi_mul, xr_div, xr_rm, Int.toNat_natCast, bd_t, true_and, and_true, not_false_eq_true, ↓reduceIte, ilt_t, ilt_f, ile_t, x_c1i, x_c1r, x_c1n, and_self, Option.toList_some, Option.toList_none, List.cons_append, List.nil_append, xr_01, xr_00, ieq_f, ieq_t]
    exact hQ w h (Fr.refl w)
  rw [if_neg d1] at hQ
  rw [pv_r d1]
  have hl := hb.2.2 (by omega)
  generalize s_having S a (-1) = s at *
  simp (disch := first | exact hR _ _ | exact x01a | exact x01b | (unfold x_r; omega) | assumption | omega) only [wK_revoke_18, wK_revoke_18n, wK_revoke_19, wK_revoke_20n, wK_revoke_20, wK_revoke_25, wK_revoke_26, x_gi_int, x_ga_ref, x_ga_null, List.getElem?_cons_zero, List.getElem?_cons_succ, List.length_cons, List.length_nil, List.set_cons_zero, List.set_cons_succ, Nat.reduceAdd, Nat.reduceLT, xr_lt, xr_eq, xr_toInt, xr_0, xi_add, xi_sub, xi_mul, xr_div, xr_rm, Int.toNat_natCast, bd_t, true_and, and_true, not_false_eq_true, ↓reduceIte, ilt_t, ilt_f, ile_t, x_c1i, x_c1r, x_c1n, and_self, Option.toList_some, Option.toList_none, List.cons_append, List.nil_append, xr_01, xr_00, ieq_f, ieq_t]
  refine k_rv_loop (w0 := w) hI (by omega) (by omega) hl (fun w1 l5' h1 fr1 => ?_) 128 0 w l5 (by omega) (by rw [mapA_0]; exact h) (Fr.refl w)
  have q0 : x_tg w1 (A 12 0) = some (0, 4) := h1.tg (us_ker (i := 0) (by omega))
  have hr : RgS (mapA S 9 128 (rv_doo S s)) := hI.1.1.map fun i _ => by
    rcases rv_doo_in S s i with e | e <;> rw [e] <;> exact ⟨by omega, by omega⟩
  have hW1 : InvW (mapA S 9 128 (rv_doo S s)) := hI.mark hr (fun j c => mapA_o c) (fun p hp => by
    rw [mapA_at, if_pos ⟨rfl, hp⟩]
    rcases rv_doo_in S s p with e | e
    · exact Or.inl e
    · refine Or.inr ⟨e, ?_⟩
      by_cases c : S 0 p < 0
      · exfalso
        unfold rv_doo at e
        rw [if_pos c] at e
        have : upL S s 128 (-1) = -1 := by
          unfold upL
          rw [if_pos rfl]
        rw [this, if_neg (by omega)] at e
        omega
      · omega)
  have el : lid (mapA S 9 128 (rv_doo S s)) = lid S := lid_o (mapA_o (by omega)) (mapA_o (by omega)) (mapA_o (by omega))
  simp (disch := first | exact hR _ _ | exact x01a | exact x01b | (unfold x_r; omega) | assumption | omega) only [wK_revoke_71, x_gi_int, x_ga_ref, x_ga_null, List.getElem?_cons_zero, List.getElem?_cons_succ, List.length_cons, List.length_nil, List.set_cons_zero, List.set_cons_succ, Nat.reduceAdd, Nat.reduceLT, xr_lt, xr_eq, xr_toInt, xr_0, xi_add, xi_sub, xi_mul, xr_div, xr_rm, Int.toNat_natCast, bd_t, true_and, and_true, not_false_eq_true, ↓reduceIte, ilt_t, ilt_f, ile_t, x_c1i, x_c1r, x_c1n, and_self, Option.toList_some, Option.toList_none, List.cons_append, List.nil_append, xr_01, xr_00, ieq_f, ieq_t]
  refine wK_revoke_72 q0 (by simp) rfl rfl (k_removeDoomed (by rw [el]; exact h1) hW1 (fun w2 h2 fr2 => ?_))
  simp (disch := first | exact hR _ _ | exact x01a | exact x01b | (unfold x_r; omega) | assumption | omega) only [wK_revoke_75, wK_revoke_76, x_gi_int, x_ga_ref, x_ga_null, List.getElem?_cons_zero, List.getElem?_cons_succ, List.length_cons, List.length_nil, List.set_cons_zero, List.set_cons_succ, Nat.reduceAdd, Nat.reduceLT, xr_lt, xr_eq, xr_toInt, xr_0, xi_add, xi_sub, xi_mul, xr_div, xr_rm, Int.toNat_natCast, bd_t, true_and, and_true, not_false_eq_true, ↓reduceIte, ilt_t, ilt_f, ile_t, x_c1i, x_c1r, x_c1n, and_self, Option.toList_some, Option.toList_none, List.cons_append, List.nil_append, xr_01, xr_00, ieq_f, ieq_t]
  exact hQ w2 h2 (fr1.trans fr2 (by omega))
end RH3
