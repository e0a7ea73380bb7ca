section LB
variable {P : xP} {Q : Option Value → xH → Prop}
theorem law_sw {w : xH} {lo : List (Option Value)} {r : List Value} {y : Int} (y0 : 0 ≤ y) (y1 : y ≤ 31) (hd : WP P 119 872 lo r w Q) (hk : ∀ k : Nat, k < 20 → y = (k : Int) → WP P 119 ((32 + ([96, 149, 202, 235, 258, 281, 334, 383, 452, 511, 534, 583, 626, 649, 682, 705, 718, 731, 774, 807] : List Nat).getD k 0)) lo r w Q) : WP P 119 32 lo (.int (xi y) :: r) w Q := by
  have e : (xi y).toInt = y := xi_toInt (by omega) (by omega)
  by_cases c : y < 20
  · obtain ⟨k, ek⟩ : ∃ k : Nat, y = (k : Int) := ⟨y.toNat, by omega⟩
    have h := hk k (by omega) ek
    rw [W_tsw (pc := 32) (tgt := (32 + ([96, 149, 202, 235, 258, 281, 334, 383, 452, 511, 534, 583, 626, 649, 682, 705, 718, 731, 774, 807] : List Nat).getD k 0)) (o := (([96, 149, 202, 235, 258, 281, 334, 383, 452, 511, 534, 583, 626, 649, 682, 705, 718, 731, 774, 807] : List Nat).getD k 0 : Nat)) rfl (by rw [e]; omega) ?_ ?_]
    · exact h
    · rw [e, ek, show ((k : Int) - 0).toNat = k by omega]
      rcases (by omega : k = 0 ∨ k = 1 ∨ k = 2 ∨ k = 3 ∨ k = 4 ∨ k = 5 ∨ k = 6 ∨ k = 7 ∨ k = 8 ∨ k = 9 ∨ k = 10 ∨ k = 11 ∨ k = 12 ∨ k = 13 ∨ k = 14 ∨ k = 15 ∨ k = 16 ∨ k = 17 ∨ k = 18 ∨ k = 19) with rfl | rfl | rfl | rfl | rfl | rfl | rfl | rfl | rfl | rfl | rfl | rfl | rfl | rfl | rfl | rfl | rfl | rfl | rfl | rfl <;> rfl
    · omega
  · rw [W_tsd (pc := 32) (tgt := 872) rfl (by rw [e]; omega) (by omega)]
    exact hd
theorem and_31 (x : Int32) : ∃ y : Int, x &&& xi 31 = xi y ∧ 0 ≤ y ∧ y ≤ 31 := by
  refine ⟨(x &&& xi 31).toInt, xi_of _, ?_⟩
  have hb : (x &&& xi 31).toBitVec.toNat ≤ 31 := by
    rw [Int32.toBitVec_and]
    have : (xi 31).toBitVec = 31#32 := by decide
    rw [this, BitVec.toNat_and]
    exact Nat.and_le_right
  have e : (x &&& xi 31).toInt = ((x &&& xi 31).toBitVec.toNat : Int) := by
    show (x &&& xi 31).toBitVec.toInt = _
    rw [BitVec.toInt_eq_toNat_of_lt]
    omega
  rw [e]
  omega
set_option maxHeartbeats 4000000 in
theorem law_loop {N mo ko X0 Y0 : Nat} {g : Nat → Int32} (hP : P.1 P.2.2 = some (N, g)) (hN : N ≤ 1000000000) {szF : Nat → Int32} (hSZ : P.1 P.2.1 = some (8, szF)) (hsz : ∀ k b : Int, 1 ≤ k → k ≤ 7 → szF k.toNat = xi (s_size k b))
    (hQ : ∀ (w' : xH) (c : Nat), 5 * c ≤ N → x_sz w' ≤ X0 + 4 * c → x_sl w' ≤ Y0 + 64 * c → Q (some (.int (xi 1))) w') :
    ∀ (d c : Nat) (w : xH) (A : xA) (S : xS), N ≤ 5 * c + d → 5 * c ≤ N → A 12 0 = ko → Rel w A S (lid S) → Inv S → S 28 0 ≤ 1 + (c : Int) → putR w mo S = w → x_tg w P.2.2 = none → P.2.2 < x_sz w → x_tg w P.2.1 = none → P.2.1 < x_sz w → x_sz w ≤ X0 + 4 * c → x_sl w ≤ Y0 + 64 * c →
      WP P 119 18 [some (.ref P.2.2), some (.ref ko), some (.ref mo), some (.int (xi (5 * (c : Int))))] [] w Q := by
  have hR : RgS s_zero := RgS.zero
  intro d
  induction d with
  | zero =>
    intro c w A S hd hc ek h hI hC hx hp2 hb2 hp hb hz hl
    have nn : (N : Int) - 5 < 5 * (c : Int) := by omega
    simp (disch := first | exact hR _ _ | exact x01a | exact x01b | (unfold x_r; omega) | assumption | omega) only [wL_law_18, wL_law_19, wL_law_20 hp2 hP, wL_law_21, wL_law_22, wL_law_23, wL_law_878, nn, x_gi_int, x_ga_ref, x_ga_null, List.getElem?_cons_zero, List.getElem?_cons_succ, List.length_cons, List.length_nil, List.set_cons_zero, List.set_cons_succ, Nat.reduceAdd, Nat.reduceLT, xr_lt, xr_eq, xr_toInt, xr_0, xi_add, xi_sub, xi_mul, xr_div, xr_rm, Int.toNat_natCast, bd_t, true_and, and_true, not_false_eq_true, ↓reduceIte, ilt_t, ilt_f, ile_t, x_c1i, x_c1r, x_c1n, and_self, Option.toList_some, Option.toList_none, List.cons_append, List.nil_append, xr_01, xr_00, ieq_f, ieq_t]
    rw [wL_law_879 (x := xi 1) (Or.inr rfl)]
    exact hQ w c hc hz hl
  | succ d ih =>
    intro c w A S hd hc ek h hI hC hx hp2 hb2 hp hb hz hl
    by_cases nn : (N : Int) - 5 < 5 * (c : Int)
    · simp (disch := first | exact hR _ _ | exact x01a | exact x01b | (unfold x_r; omega) | assumption | omega) only [wL_law_18, wL_law_19, wL_law_20 hp2 hP, wL_law_21, wL_law_22, wL_law_23, wL_law_878, nn, x_gi_int, x_ga_ref, x_ga_null, List.getElem?_cons_zero, List.getElem?_cons_succ, List.length_cons, List.length_nil, List.set_cons_zero, List.set_cons_succ, Nat.reduceAdd, Nat.reduceLT, xr_lt, xr_eq, xr_toInt, xr_0, xi_add, xi_sub, xi_mul, xr_div, xr_rm, Int.toNat_natCast, bd_t, true_and, and_true, not_false_eq_true, ↓reduceIte, ilt_t, ilt_f, ile_t, x_c1i, x_c1r, x_c1n, and_self, Option.toList_some, Option.toList_none, List.cons_append, List.nil_append, xr_01, xr_00, ieq_f, ieq_t]
      rw [wL_law_879 (x := xi 1) (Or.inr rfl)]
      exact hQ w c hc hz hl
    obtain ⟨y, ey, y0, y1⟩ := and_31 (g (5 * (c : Int)).toNat)
    rw [wL_law_18]
    simp (disch := first | exact hR _ _ | exact x01a | exact x01b | (unfold x_r; omega) | assumption | omega) only [wL_law_19, wL_law_20 hp2 hP, wL_law_21, wL_law_22, wL_law_23, wL_law_26, wL_law_27, wL_law_28 hp2 hP, wL_law_29, wL_law_31, nn, ey, x_gi_int, x_ga_ref, x_ga_null, List.getElem?_cons_zero, List.getElem?_cons_succ, List.length_cons, List.length_nil, List.set_cons_zero, List.set_cons_succ, Nat.reduceAdd, Nat.reduceLT, xr_lt, xr_eq, xr_toInt, xr_0, xi_add, xi_sub, xi_mul, xr_div, xr_rm, Int.toNat_natCast, bd_t, true_and, and_true, not_false_eq_true, ↓reduceIte, ilt_t, ilt_f, ile_t, x_c1i, x_c1r, x_c1n, and_self, Option.toList_some, Option.toList_none, List.cons_append, List.nil_append, xr_01, xr_00, ieq_f, ieq_t]
    have i0 : (0 : Int) ≤ 5 * (c : Int) := by omega
    have i5 : 5 * (c : Int) + 5 ≤ (N : Int) := by omega
    have hN2 : (N : Int) < 2147483648 := by omega
    have hC2 : S 28 0 < 2000000000 := by omega
    have e5 : 5 * (c : Int) + 5 = 5 * ((c + 1 : Nat) : Int) := by omega
    have step : ∀ w1 A' S', A' 12 0 = A 12 0 → Rel w1 A' S' (lid S') → Fr w w1 4 → putR w1 mo S = w1 → Inv S' → S' 28 0 ≤ S 28 0 + 1 → WP P 119 872 [some (.ref P.2.2), some (.ref (A 12 0)), some (.ref mo), some (.int (xi (5 * (c : Int))))] [] (putR w1 mo S') Q := by
      intro w1 A' S' eA h1 fr hx1 hI1 hC1
      simp (disch := first | exact hR _ _ | exact x01a | exact x01b | (unfold x_r; omega) | assumption | omega) only [wL_law_872, wL_law_875, e5, x_gi_int, x_ga_ref, x_ga_null, List.getElem?_cons_zero, List.getElem?_cons_succ, List.length_cons, List.length_nil, List.set_cons_zero, List.set_cons_succ, Nat.reduceAdd, Nat.reduceLT, xr_lt, xr_eq, xr_toInt, xr_0, xi_add, xi_sub, xi_mul, xr_div, xr_rm, Int.toNat_natCast, bd_t, true_and, and_true, not_false_eq_true, ↓reduceIte, ilt_t, ilt_f, ile_t, x_c1i, x_c1r, x_c1n, and_self, Option.toList_some, Option.toList_none, List.cons_append, List.nil_append, xr_01, xr_00, ieq_f, ieq_t]
      obtain ⟨-, -, f3, f4, f5, f6⟩ := fr
      have h2 : Rel (putR w1 mo S') A' S' (lid S') := by
        rw [← hx1] at h1
        have := h1.reg (S' := S')
        exact this
      have eo : ∀ a, x_tg w a = none → a < x_sz w → x_tg (putR w1 mo S') a = none := by
        intro a ha hlt
        have e1 : x_tg w1 a = none := by rw [f6 a hlt]; exact ha
        have e2 : x_tg (putR w1 mo S') a = x_tg (putR w1 mo S) a := rfl
        rw [e2, hx1, e1]
      rw [ek]
      exact ih (c + 1) (putR w1 mo S') A' S' (by omega) (by omega) (eA.trans ek) h2 hI1 (by omega) putR_id (eo _ hp2 hb2) (by show P.2.2 < x_sz w1; omega) (eo _ hp hb) (by show P.2.1 < x_sz w1; omega) (by show x_sz w1 ≤ _; omega) (by show x_sl w1 ≤ _; omega)
    rw [← ek]
    refine law_sw y0 y1 ?_ (fun k hk ek2 => ?_)
    · have := step w A S rfl h ((Fr.refl w).le (by omega)) hx hI (by omega)
      rw [hx] at this
      exact this
    · rcases (by omega : k = 0 ∨ k = 1 ∨ k = 2 ∨ k = 3 ∨ k = 4 ∨ k = 5 ∨ k = 6 ∨ k = 7 ∨ k = 8 ∨ k = 9 ∨ k = 10 ∨ k = 11 ∨ k = 12 ∨ k = 13 ∨ k = 14 ∨ k = 15 ∨ k = 16 ∨ k = 17 ∨ k = 18 ∨ k = 19) with rfl | rfl | rfl | rfl | rfl | rfl | rfl | rfl | rfl | rfl | rfl | rfl | rfl | rfl | rfl | rfl | rfl | rfl | rfl | rfl
      · exact law_retype hP hN2 i0 i5 h hI hC2 hx hp2 hb2 hp hSZ hsz step
      · exact law_copy hP hN2 i0 i5 h hI hC2 hx hp2 hb2 hp hSZ hsz step
      · exact law_move hP hN2 i0 i5 h hI hC2 hx hp2 hb2 hp hSZ hsz step
      · exact law_delete hP hN2 i0 i5 h hI hC2 hx hp2 hb2 hp hSZ hsz step
      · exact law_revoke hP hN2 i0 i5 h hI hC2 hx hp2 hb2 hp hSZ hsz step
      · exact law_configure hP hN2 i0 i5 h hI hC2 hx hp2 hb2 hp hSZ hsz step
      · exact law_run hP hN2 i0 i5 h hI hC2 hx hp2 hb2 hp hSZ hsz step
      · exact law_send hP hN2 i0 i5 h hI hC2 hx hp2 hb2 hp hSZ hsz step
      · exact law_receive hP hN2 i0 i5 h hI hC2 hx hp2 hb2 hp hSZ hsz step
      · exact law_signal hP hN2 i0 i5 h hI hC2 hx hp2 hb2 hp hSZ hsz step
      · exact law_listen hP hN2 i0 i5 h hI hC2 hx hp2 hb2 hp hSZ hsz step
      · exact law_map hP hN2 i0 i5 h hI hC2 hx hp2 hb2 hp hSZ hsz step
      · exact law_unmap hP hN2 i0 i5 h hI hC2 hx hp2 hb2 hp hSZ hsz step
      · exact law_bind hP hN2 i0 i5 h hI hC2 hx hp2 hb2 hp hSZ hsz step
      · exact law_interrupt hP hN2 i0 i5 h hI hC2 hx hp2 hb2 hp hSZ hsz step
      · exact law_tick hP hN2 i0 i5 h hI hC2 hx hp2 hb2 hp hSZ hsz step
      · exact law_current hP hN2 i0 i5 h hI hC2 hx hp2 hb2 hp hSZ hsz step
      · exact law_slot hP hN2 i0 i5 h hI hC2 hx hp2 hb2 hp hSZ hsz step
      · exact law_thread hP hN2 i0 i5 h hI hC2 hx hp2 hb2 hp hSZ hsz step
      · exact law_page hP hN2 i0 i5 h hI hC2 hx hp2 hb2 hp hSZ hsz step
set_option maxHeartbeats 4000000 in
theorem law_all {N : Nat} {w : xH} {g : Nat → Int32} (hP : P.1 P.2.2 = some (N, g)) (hN : N ≤ 1000000000) {szF : Nat → Int32} (hSZ : P.1 P.2.1 = some (8, szF)) (hsz : ∀ k b : Int, 1 ≤ k → k ≤ 7 → szF k.toNat = xi (s_size k b))
    (hw : ∀ a, x_tg w a = none) (hb2 : P.2.2 < x_sz w) (hb : P.2.1 < x_sz w)
    (hQ : ∀ (w' : xH) (c : Nat), 5 * c ≤ N → x_sz w' ≤ x_sz w + 60 + 4 * c → x_sl w' ≤ x_sl w + 2100 + 64 * c → Q (some (.int (xi 1))) w') {l1 l2 l3 : Option Value} :
    WP P 119 0 [some (.ref P.2.2), l1, l2, l3] [] w Q := by
  have hR : RgS s_zero := RgS.zero
  simp (disch := first | exact hR _ _ | exact x01a | exact x01b | (unfold x_r; omega) | assumption | omega) only [wL_law_0, wL_law_3, x_gi_int, x_ga_ref, x_ga_null, List.getElem?_cons_zero, List.getElem?_cons_succ, List.length_cons, List.length_nil, List.set_cons_zero, List.set_cons_succ, Nat.reduceAdd, Nat.reduceLT, xr_lt, xr_eq, xr_toInt, xr_0, xi_add, xi_sub, xi_mul, xr_div, xr_rm, Int.toNat_natCast, bd_t, true_and, and_true, not_false_eq_true, ↓reduceIte, ilt_t, ilt_f, ile_t, x_c1i, x_c1r, x_c1n, and_self, Option.toList_some, Option.toList_none, List.cons_append, List.nil_append, xr_01, xr_00, ieq_f, ieq_t]
  refine wL_law_4 (by simp) rfl rfl (k_init (fun a _ => hw a) (fun w1 A eA h1 fr1 => ?_))
  obtain ⟨f1, f2, f3, f4, f5, f6⟩ := fr1
  simp (disch := first | exact hR _ _ | exact x01a | exact x01b | (unfold x_r; omega) | assumption | omega) only [wL_law_7, wL_law_7n, wL_law_8, wL_law_11, x_gi_int, x_ga_ref, x_ga_null, List.getElem?_cons_zero, List.getElem?_cons_succ, List.length_cons, List.length_nil, List.set_cons_zero, List.set_cons_succ, Nat.reduceAdd, Nat.reduceLT, xr_lt, xr_eq, xr_toInt, xr_0, xi_add, xi_sub, xi_mul, xr_div, xr_rm, Int.toNat_natCast, bd_t, true_and, and_true, not_false_eq_true, ↓reduceIte, ilt_t, ilt_f, ile_t, x_c1i, x_c1r, x_c1n, and_self, Option.toList_some, Option.toList_none, List.cons_append, List.nil_append, xr_01, xr_00, ieq_f, ieq_t]
  rw [bR_0]
  refine wL_law_12 (by simp) rfl rfl (m_init ?_)
  simp (disch := first | exact hR _ _ | exact x01a | exact x01b | (unfold x_r; omega) | assumption | omega) only [wL_law_15, wL_law_15n, wL_law_16, wL_law_17, x_gi_int, x_ga_ref, x_ga_null, List.getElem?_cons_zero, List.getElem?_cons_succ, List.length_cons, List.length_nil, List.set_cons_zero, List.set_cons_succ, Nat.reduceAdd, Nat.reduceLT, xr_lt, xr_eq, xr_toInt, xr_0, xi_add, xi_sub, xi_mul, xr_div, xr_rm, Int.toNat_natCast, bd_t, true_and, and_true, not_false_eq_true, ↓reduceIte, ilt_t, ilt_f, ile_t, x_c1i, x_c1r, x_c1n, and_self, Option.toList_some, Option.toList_none, List.cons_append, List.nil_append, xr_01, xr_00, ieq_f, ieq_t]
  have z0 : x_sz (x_new w 0 4 (x_df 0)) = x_sz w + 1 := rfl
  have z1 : x_sl (x_new w 0 4 (x_df 0)) = x_sl w + 4 := rfl
  rw [z0] at f3 f4 f6
  rw [z1] at f5
  have tn : ∀ a, a < x_sz w → x_tg w1 a = none := by
    intro a ha
    rw [f6 a (by omega), x_tg_new, if_neg (by omega)]
    exact hw a
  have out : ∀ a, a < x_sz w1 → x_tg (putR (wR w1) (x_sz w1) s_init) a = x_tg w1 a := fun a ha => putR_tgO (Or.inl ha)
  have h2 : Rel (putR (wR w1) (x_sz w1) s_init) A s_init (lid s_init) := by
    obtain ⟨g1, g2, g3, g4⟩ := id h1
    refine ⟨fun k i u => ?_, g2, fun k i f v u e => ?_, fun a ha => ?_⟩
    · rw [out _ (h1.lt u)]; exact g1 k i u
    · rw [putR_fdO (Or.inl (h1.lt u))]; exact g3 k i f v u e
    · have ha : x_sz w1 + 29 ≤ a := ha
      rw [putR_tgO (Or.inr ha)]
      exact g4 a (by omega)
  have := law_loop (Q := Q) (mo := x_sz w1) (ko := x_sz w) (X0 := x_sz w + 60) (Y0 := x_sl w + 2100) hP hN hSZ hsz hQ N 0 (putR (wR w1) (x_sz w1) s_init) A s_init (by omega) (by omega) eA h2 Inv.init (by show (1 : Int) ≤ _; omega) putR_id (by rw [out _ (by omega)]; exact tn _ hb2) (by show _ < x_sz w1 + 29; omega) (by rw [out _ (by omega)]; exact tn _ hb) (by show _ < x_sz w1 + 29; omega) (by show x_sz w1 + 29 ≤ _; omega) (by show x_sl w1 + 1665 ≤ _; omega)
  exact this
end LB
