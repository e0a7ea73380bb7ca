theorem lfL_in (S : xS) (u e : Int) : ∀ (d q : Nat), q + d = 32 → -1 ≤ lfL S u e d q ∧ lfL S u e d q < 128 := by
  intro d
  induction d with
  | zero => intro q _; exact ⟨by unfold lfL; omega, by unfold lfL; omega⟩
  | succ d ih =>
    intro q hq
    unfold lfL
    split
    · omega
    · exact ih (q + 1) (by omega)
theorem s_leafOf_in (S : xS) (u e : Int) : -1 ≤ s_leafOf S u e ∧ s_leafOf S u e < 128 := lfL_in S u e 32 0 rfl
theorem frL_in (S : xS) (l e : Int) : ∀ (d q : Nat), q + d = 128 → -1 ≤ frL S l e d q ∧ frL S l e d q < 128 ∧ (0 ≤ frL S l e d q → S 0 (frL S l e d q).toNat = 7) := by
  intro d
  induction d with
  | zero => intro q _; exact ⟨by unfold frL; omega, by unfold frL; omega, fun h => by unfold frL at h; omega⟩
  | succ d ih =>
    intro q hq
    unfold frL
    split
    next c => exact ⟨by omega, by omega, fun _ => by rw [Int.toNat_natCast]; exact c.1⟩
    · exact ih (q + 1) (by omega)
theorem s_frameOf_in (S : xS) (l e : Int) : -1 ≤ s_frameOf S l e ∧ s_frameOf S l e < 128 ∧ (0 ≤ s_frameOf S l e → S 0 (s_frameOf S l e).toNat = 7) := frL_in S l e 128 0 rfl
theorem s_mapped_in (S : xS) (s : Int) : s_mapped S s = 0 ∨ s_mapped S s = 1 := by
  unfold s_mapped
  (repeat' split) <;> omega
def s_unmap (S : xS) (c : Int) : Int × xS := if s_now S < 0 then (8, S) else if s_having S c (-1) < 0 then (1, S) else if S 0 (s_having S c (-1)).toNat < 6 then (1, S) else if s_mapped S (s_having S c (-1)) = 0 then (7, S) else
  if S 0 (s_having S c (-1)).toNat = 6 then (0, sset S 25 (S 1 (s_having S c (-1)).toNat / 4).toNat (-1)) else (0, sset S 7 (s_having S c (-1)).toNat (-1))
def s_page (S : xS) (t e : Int) : Int := if ¬ s_there S 2 t then -1 else if e < 0 then -1 else if 15 < e then -1 else if S 12 (t / 8).toNat = -1 then -1 else if s_leafOf S (S 12 (t / 8).toNat) (e / 4) < 0 then -1 else
  if s_frameOf S (s_leafOf S (S 12 (t / 8).toNat) (e / 4)) (e % 4) < 0 then -1 else S 1 (s_frameOf S (s_leafOf S (S 12 (t / 8).toNat) (e / 4)) (e % 4)).toNat + 128 * S 2 (s_frameOf S (s_leafOf S (S 12 (t / 8).toNat) (e / 4)) (e % 4)).toNat
def s_map (S : xS) (c sp e : Int) : Int × xS := if s_now S < 0 then (8, S) else if s_having S c (-1) < 0 then (1, S) else if S 0 (s_having S c (-1)).toNat < 6 then (1, S) else if s_having S sp 5 < 0 then (1, S) else if e < 0 then (4, S) else if 15 < e then (4, S) else
  if S 0 (s_having S c (-1)).toNat = 6 then (if S 25 (S 1 (s_having S c (-1)).toNat / 4).toNat = -1 then (if s_leafOf S (S 1 (s_having S sp 5).toNat) (e / 4) < 0 then (0, sset (sset S 25 (S 1 (s_having S c (-1)).toNat / 4).toNat (S 1 (s_having S sp 5).toNat)) 26 (S 1 (s_having S c (-1)).toNat / 4).toNat (e / 4)) else (7, S)) else (7, S))
  else if S 7 (s_having S c (-1)).toNat = -1 then (if s_leafOf S (S 1 (s_having S sp 5).toNat) (e / 4) < 0 then (7, S) else if s_frameOf S (s_leafOf S (S 1 (s_having S sp 5).toNat) (e / 4)) (e % 4) < 0 then (0, sset (sset S 7 (s_having S c (-1)).toNat (s_leafOf S (S 1 (s_having S sp 5).toNat) (e / 4))) 8 (s_having S c (-1)).toNat (e % 4)) else (7, S)) else (7, S)
def s_listen (S : xS) (b block : Int) : Int × xS := if s_now S < 0 then (8, S) else if s_having S b 4 < 0 then (1, S) else if s_and (S 2 (s_having S b 4).toNat) 1 = 0 then (2, S) else
  if S 24 (S 1 (s_having S b 4).toNat / 2).toNat = 0 then (if block = 0 then (6, S) else (10, s_waits S (s_now S) 5 (S 1 (s_having S b 4).toNat) (-1))) else (0, sset (s_hears S (s_now S) (S 24 (S 1 (s_having S b 4).toNat / 2).toNat)) 24 (S 1 (s_having S b 4).toNat / 2).toNat 0)
theorem RgS.ready {S : xS} (h : RgS S) (hC : 0 ≤ S 28 0 ∧ S 28 0 < 2000000000) (t : Int) : RgS (s_ready S t) := by
  unfold s_ready
  have h1 : x_r (S 28 0 + 1) := ⟨by omega, by omega⟩
  exact (((h.set ⟨by omega, by omega⟩).set ⟨by omega, by omega⟩).set h1).set h1
theorem RgS.waits {S : xS} (h : RgS S) (hC : 0 ≤ S 28 0 ∧ S 28 0 < 2000000000) {t how u a : Int} (h1 : x_r how) (h2 : x_r u) (h3 : x_r a) : RgS (s_waits S t how u a) := by
  unfold s_waits
  have h4 : x_r (S 28 0 + 1) := ⟨by omega, by omega⟩
  exact ((((h.set h1).set h2).set h3).set h4).set h4
section RI
variable {P : xP} {w : xH} {Q : Option Value → xH → Prop} {mo : Nat} {S : xS}
set_option maxHeartbeats 4000000 in
theorem m_bind {n b : Int} (hG : GS S) (hn' : x_r n) (hb : x_r b) (hQ : Q (some (.int (xi (s_bind S n b).1))) (putR w mo (s_bind S n b).2)) : WP P 112 0 [some (.ref mo), some (.int (xi n)), some (.int (xi b)), none] [] (putR w mo S) Q := by
  have hW := hG.1
  have hR := hW.1
  have hn := s_now_in S
  have g1 := hn'.1
  have g2 := hn'.2
  have g3 := hb.1
  have g4 := hb.2
  simp (disch := first | exact hR _ _ | exact x01a | exact x01b | (unfold x_r; omega) | assumption | omega) only [wM_bind_0, x_gi_int, x_ga_ref, x_ga_null, List.getElem?_cons_zero, List.getElem?_cons_succ, List.length_cons, List.length_nil, List.set_cons_zero, List.set_cons_succ, Nat.reduceAdd, Nat.reduceLT, xr_lt, xr_eq, xr_toInt, xr_0, xi_add, xi_sub, xi_mul, xr_div, xr_rm, Int.toNat_natCast, bd_t, true_and, and_true, not_false_eq_true, ↓reduceIte, ilt_t, ilt_f, ile_t, x_c1i, x_c1r, x_c1n, and_self, Option.toList_some, Option.toList_none, List.cons_append, List.nil_append, xr_01, xr_00, ieq_f, ieq_t]
  refine wM_bind_1 (by simp) rfl rfl (m_now hR ?_)
  unfold s_bind at hQ
  split at hQ
  next c1 =>
    simp (disch := first | exact hR _ _ | exact x01a | exact x01b | (unfold x_r; omega) | assumption | omega) only [wM_bind_4, wM_bind_7, wM_bind_9, x_gi_int, x_ga_ref, x_ga_null, List.getElem?_cons_zero, List.getElem?_cons_succ, List.length_cons, List.length_nil, List.set_cons_zero, List.set_cons_succ, Nat.reduceAdd, Nat.reduceLT, xr_lt, xr_eq, xr_toInt, xr_0, xi_add, xi_sub, xi_mul, xr_div, xr_rm, Int.toNat_natCast, bd_t, true_and, and_true, not_false_eq_true, ↓reduceIte, ilt_t, ilt_f, ile_t, x_c1i, x_c1r, x_c1n, and_self, Option.toList_some, Option.toList_none, List.cons_append, List.nil_append, xr_01, xr_00, ieq_f, ieq_t]
    exact hQ
  next c1 =>
    have hh := s_having_in hW (by omega) b 4
    split at hQ
    next c2 =>
      simp (disch := first | exact hR _ _ | exact x01a | exact x01b | (unfold x_r; omega) | assumption | omega) only [wM_bind_4, wM_bind_7, wM_bind_9, wM_bind_10, wM_bind_11, wM_bind_14, wM_bind_15, wM_bind_16, wM_bind_19, wM_bind_20, x_gi_int, x_ga_ref, x_ga_null, List.getElem?_cons_zero, List.getElem?_cons_succ, List.length_cons, List.length_nil, List.set_cons_zero, List.set_cons_succ, Nat.reduceAdd, Nat.reduceLT, xr_lt, xr_eq, xr_toInt, xr_0, xi_add, xi_sub, xi_mul, xr_div, xr_rm, Int.toNat_natCast, bd_t, true_and, and_true, not_false_eq_true, ↓reduceIte, ilt_t, ilt_f, ile_t, x_c1i, x_c1r, x_c1n, and_self, Option.toList_some, Option.toList_none, List.cons_append, List.nil_append, xr_01, xr_00, ieq_f, ieq_t]
      exact hQ
    next c2 =>
      split at hQ
      next c3 =>
        simp (disch := first | exact hR _ _ | exact x01a | exact x01b | (unfold x_r; omega) | assumption | omega) only [wM_bind_4, wM_bind_7, wM_bind_9, wM_bind_10, wM_bind_11, wM_bind_14, wM_bind_15, wM_bind_16, wM_bind_19, wM_bind_20, x_gi_int, x_ga_ref, x_ga_null, List.getElem?_cons_zero, List.getElem?_cons_succ, List.length_cons, List.length_nil, List.set_cons_zero, List.set_cons_succ, Nat.reduceAdd, Nat.reduceLT, xr_lt, xr_eq, xr_toInt, xr_0, xi_add, xi_sub, xi_mul, xr_div, xr_rm, Int.toNat_natCast, bd_t, true_and, and_true, not_false_eq_true, ↓reduceIte, ilt_t, ilt_f, ile_t, x_c1i, x_c1r, x_c1n, and_self, Option.toList_some, Option.toList_none, List.cons_append, List.nil_append, xr_01, xr_00, ieq_f, ieq_t]
        exact hQ
      next c3 =>
        simp (disch := first | exact hR _ _ | exact x01a | exact x01b | (unfold x_r; omega) | assumption | omega) only [wM_bind_4, wM_bind_7, wM_bind_9, wM_bind_10, wM_bind_11, wM_bind_14, wM_bind_15, wM_bind_16, wM_bind_19, wM_bind_20, wM_bind_21, wM_bind_22, wM_bind_23, x_gi_int, x_ga_ref, x_ga_null, List.getElem?_cons_zero, List.getElem?_cons_succ, List.length_cons, List.length_nil, List.set_cons_zero, List.set_cons_succ, Nat.reduceAdd, Nat.reduceLT, xr_lt, xr_eq, xr_toInt, xr_0, xi_add, xi_sub, xi_mul, xr_div, xr_rm, Int.toNat_natCast, bd_t, true_and, and_true, not_false_eq_true, ↓reduceIte, ilt_t, ilt_f, ile_t, x_c1i, x_c1r, x_c1n, and_self, Option.toList_some, Option.toList_none, List.cons_append, List.nil_append, xr_01, xr_00, ieq_f, ieq_t]
        refine wM_bind_24 (by simp) rfl rfl (m_having hW (by omega) hb ⟨by omega, by omega⟩ ?_)
        split at hQ
        · simp (disch := first | exact hR _ _ | exact x01a | exact x01b | (unfold x_r; omega) | assumption | omega) only [wM_bind_27, wM_bind_28, wM_bind_29, wM_bind_30, wM_bind_33, wM_bind_34, wM_bind_37, wM_bind_38, wM_bind_39, wM_bind_40, wM_bind_43, wM_bind_44, wM_bind_45, wM_bind_46, wM_bind_49, wM_bind_50, wM_bind_53, wM_bind_54, wM_bind_57, wM_bind_58, wM_bind_59, wM_bind_60, wM_bind_61, x_gi_int, x_ga_ref, x_ga_null, List.getElem?_cons_zero, List.getElem?_cons_succ, List.length_cons, List.length_nil, List.set_cons_zero, List.set_cons_succ, Nat.reduceAdd, Nat.reduceLT, xr_lt, xr_eq, xr_toInt, xr_0, xi_add, xi_sub, xi_mul, xr_div, xr_rm, Int.toNat_natCast, bd_t, true_and, and_true, not_false_eq_true, ↓reduceIte, ilt_t, ilt_f, ile_t, x_c1i, x_c1r, x_c1n, and_self, Option.toList_some, Option.toList_none, List.cons_append, List.nil_append, xr_01, xr_00, ieq_f, ieq_t]
          exact hQ
        · split at hQ
          · simp (disch := first | exact hR _ _ | exact x01a | exact x01b | (unfold x_r; omega) | assumption | omega) only [wM_bind_27, wM_bind_28, wM_bind_29, wM_bind_30, wM_bind_33, wM_bind_34, wM_bind_37, wM_bind_38, wM_bind_39, wM_bind_40, wM_bind_43, wM_bind_44, wM_bind_45, wM_bind_46, wM_bind_49, wM_bind_50, wM_bind_53, wM_bind_54, wM_bind_57, wM_bind_58, wM_bind_59, wM_bind_60, wM_bind_61, x_gi_int, x_ga_ref, x_ga_null, List.getElem?_cons_zero, List.getElem?_cons_succ, List.length_cons, List.length_nil, List.set_cons_zero, List.set_cons_succ, Nat.reduceAdd, Nat.reduceLT, xr_lt, xr_eq, xr_toInt, xr_0, xi_add, xi_sub, xi_mul, xr_div, xr_rm, Int.toNat_natCast, bd_t, true_and, and_true, not_false_eq_true, ↓reduceIte, ilt_t, ilt_f, ile_t, x_c1i, x_c1r, x_c1n, and_self, Option.toList_some, Option.toList_none, List.cons_append, List.nil_append, xr_01, xr_00, ieq_f, ieq_t]
            exact hQ
          · simp (disch := first | exact hR _ _ | exact x01a | exact x01b | (unfold x_r; omega) | assumption | omega) only [wM_bind_27, wM_bind_28, wM_bind_29, wM_bind_30, wM_bind_33, wM_bind_34, wM_bind_37, wM_bind_38, wM_bind_39, wM_bind_40, wM_bind_43, wM_bind_44, wM_bind_45, wM_bind_46, wM_bind_49, wM_bind_50, wM_bind_53, wM_bind_54, wM_bind_57, wM_bind_58, wM_bind_59, wM_bind_60, wM_bind_61, x_gi_int, x_ga_ref, x_ga_null, List.getElem?_cons_zero, List.getElem?_cons_succ, List.length_cons, List.length_nil, List.set_cons_zero, List.set_cons_succ, Nat.reduceAdd, Nat.reduceLT, xr_lt, xr_eq, xr_toInt, xr_0, xi_add, xi_sub, xi_mul, xr_div, xr_rm, Int.toNat_natCast, bd_t, true_and, and_true, not_false_eq_true, ↓reduceIte, ilt_t, ilt_f, ile_t, x_c1i, x_c1r, x_c1n, and_self, Option.toList_some, Option.toList_none, List.cons_append, List.nil_append, xr_01, xr_00, ieq_f, ieq_t]
            exact hQ
set_option maxHeartbeats 4000000 in
theorem m_interrupt {n : Int} (hG : GS S) (hn' : x_r n) (hQ : Q (some (.int (xi (s_interrupt S n).1))) (putR w mo (s_interrupt S n).2)) : WP P 113 0 [some (.ref mo), some (.int (xi n))] [] (putR w mo S) Q := by
  have hW := hG.1
  have hR := hW.1
  have g1 := hn'.1
  have g2 := hn'.2
  unfold s_interrupt at hQ
  split at hQ
  next c1 =>
    simp (disch := first | exact hR _ _ | exact x01a | exact x01b | (unfold x_r; omega) | assumption | omega) only [wM_interrupt_0, wM_interrupt_1, wM_interrupt_4, wM_interrupt_5, wM_interrupt_6, wM_interrupt_9, wM_interrupt_10, wM_interrupt_13, wM_interrupt_14, wM_interrupt_15, wM_interrupt_16, wM_interrupt_19, wM_interrupt_20, x_gi_int, x_ga_ref, x_ga_null, List.getElem?_cons_zero, List.getElem?_cons_succ, List.length_cons, List.length_nil, List.set_cons_zero, List.set_cons_succ, Nat.reduceAdd, Nat.reduceLT, xr_lt, xr_eq, xr_toInt, xr_0, xi_add, xi_sub, xi_mul, xr_div, xr_rm, Int.toNat_natCast, bd_t, true_and, and_true, not_false_eq_true, ↓reduceIte, ilt_t, ilt_f, ile_t, x_c1i, x_c1r, x_c1n, and_self, Option.toList_some, Option.toList_none, List.cons_append, List.nil_append, xr_01, xr_00, ieq_f, ieq_t]
    exact hQ
  next c1 =>
    split at hQ
    next c2 =>
      simp (disch := first | exact hR _ _ | exact x01a | exact x01b | (unfold x_r; omega) | assumption | omega) only [wM_interrupt_0, wM_interrupt_1, wM_interrupt_4, wM_interrupt_5, wM_interrupt_6, wM_interrupt_9, wM_interrupt_10, wM_interrupt_13, wM_interrupt_14, wM_interrupt_15, wM_interrupt_16, wM_interrupt_19, wM_interrupt_20, x_gi_int, x_ga_ref, x_ga_null, List.getElem?_cons_zero, List.getElem?_cons_succ, List.length_cons, List.length_nil, List.set_cons_zero, List.set_cons_succ, Nat.reduceAdd, Nat.reduceLT, xr_lt, xr_eq, xr_toInt, xr_0, xi_add, xi_sub, xi_mul, xr_div, xr_rm, Int.toNat_natCast, bd_t, true_and, and_true, not_false_eq_true, ↓reduceIte, ilt_t, ilt_f, ile_t, x_c1i, x_c1r, x_c1n, and_self, Option.toList_some, Option.toList_none, List.cons_append, List.nil_append, xr_01, xr_00, ieq_f, ieq_t]
      exact hQ
    next c2 =>
      split at hQ
      next c3 =>
        simp (disch := first | exact hR _ _ | exact x01a | exact x01b | (unfold x_r; omega) | assumption | omega) only [wM_interrupt_0, wM_interrupt_1, wM_interrupt_4, wM_interrupt_5, wM_interrupt_6, wM_interrupt_9, wM_interrupt_10, wM_interrupt_13, wM_interrupt_14, wM_interrupt_15, wM_interrupt_16, wM_interrupt_19, wM_interrupt_20, x_gi_int, x_ga_ref, x_ga_null, List.getElem?_cons_zero, List.getElem?_cons_succ, List.length_cons, List.length_nil, List.set_cons_zero, List.set_cons_succ, Nat.reduceAdd, Nat.reduceLT, xr_lt, xr_eq, xr_toInt, xr_0, xi_add, xi_sub, xi_mul, xr_div, xr_rm, Int.toNat_natCast, bd_t, true_and, and_true, not_false_eq_true, ↓reduceIte, ilt_t, ilt_f, ile_t, x_c1i, x_c1r, x_c1n, and_self, Option.toList_some, Option.toList_none, List.cons_append, List.nil_append, xr_01, xr_00, ieq_f, ieq_t]
        exact hQ
      next c3 =>
        have hl := (hG.2.2.2.2.2.2.1 n.toNat (by omega)).resolve_left c3
        have hbe := hG.2.2.2.2.2.1 (S 27 n.toNat / 2).toNat (by omega)
        have hp : 0 ≤ (2 : Int) ^ n.toNat ∧ (2 : Int) ^ n.toNat < 512 := by
          rcases (by omega : n = 0 ∨ n = 1 ∨ n = 2 ∨ n = 3) with rfl | rfl | rfl | rfl <;> decide
        simp (disch := first | exact hR _ _ | exact x01a | exact x01b | (unfold x_r; omega) | assumption | omega) only [wM_interrupt_0, wM_interrupt_1, wM_interrupt_4, wM_interrupt_5, wM_interrupt_6, wM_interrupt_9, wM_interrupt_10, wM_interrupt_13, wM_interrupt_14, wM_interrupt_15, wM_interrupt_16, wM_interrupt_19, wM_interrupt_20, wM_interrupt_21, wM_interrupt_22, wM_interrupt_23, wM_interrupt_26, wM_interrupt_27, wM_interrupt_28, wM_interrupt_29, wM_interrupt_30, x_gi_int, x_ga_ref, x_ga_null, List.getElem?_cons_zero, List.getElem?_cons_succ, List.length_cons, List.length_nil, List.set_cons_zero, List.set_cons_succ, Nat.reduceAdd, Nat.reduceLT, xr_lt, xr_eq, xr_toInt, xr_0, xi_add, xi_sub, xi_mul, xr_div, xr_rm, Int.toNat_natCast, bd_t, true_and, and_true, not_false_eq_true, ↓reduceIte, ilt_t, ilt_f, ile_t, x_c1i, x_c1r, x_c1n, and_self, Option.toList_some, Option.toList_none, List.cons_append, List.nil_append, xr_01, xr_00, ieq_f, ieq_t, xr_shl]
        refine wM_interrupt_31 (by simp) rfl rfl (m_ring hR (by omega) (by omega) hp.1 hp.2 hbe.1 ?_)
        simp (disch := first | exact hR _ _ | exact x01a | exact x01b | (unfold x_r; omega) | assumption | omega) only [wM_interrupt_34, wM_interrupt_35, x_gi_int, x_ga_ref, x_ga_null, List.getElem?_cons_zero, List.getElem?_cons_succ, List.length_cons, List.length_nil, List.set_cons_zero, List.set_cons_succ, Nat.reduceAdd, Nat.reduceLT, xr_lt, xr_eq, xr_toInt, xr_0, xi_add, xi_sub, xi_mul, xr_div, xr_rm, Int.toNat_natCast, bd_t, true_and, and_true, not_false_eq_true, ↓reduceIte, ilt_t, ilt_f, ile_t, x_c1i, x_c1r, x_c1n, and_self, Option.toList_some, Option.toList_none, List.cons_append, List.nil_append, xr_01, xr_00, ieq_f, ieq_t]
        exact hQ
set_option maxHeartbeats 4000000 in
theorem m_tick (hG : GS S) (hC : 0 ≤ S 28 0 ∧ S 28 0 < 2000000000) (hs : 0 ≤ S 14 (s_now S).toNat) (hQ : Q (some (.int (xi (s_tick S).1))) (putR w mo (s_tick S).2)) : WP P 114 0 [some (.ref mo), none] [] (putR w mo S) Q := by
  have hW := hG.1
  have hR := hW.1
  have hn := s_now_in S
  have h14 := hR 14 (s_now S).toNat
  have h14a := h14.1
  have h14b := h14.2
  simp (disch := first | exact hR _ _ | exact x01a | exact x01b | (unfold x_r; omega) | assumption | omega) only [wM_tick_0, x_gi_int, x_ga_ref, x_ga_null, List.getElem?_cons_zero, List.getElem?_cons_succ, List.length_cons, List.length_nil, List.set_cons_zero, List.set_cons_succ, Nat.reduceAdd, Nat.reduceLT, xr_lt, xr_eq, xr_toInt, xr_0, xi_add, xi_sub, xi_mul, xr_div, xr_rm, Int.toNat_natCast, bd_t, true_and, and_true, not_false_eq_true, ↓reduceIte, ilt_t, ilt_f, ile_t, x_c1i, x_c1r, x_c1n, and_self, Option.toList_some, Option.toList_none, List.cons_append, List.nil_append, xr_01, xr_00, ieq_f, ieq_t]
  refine wM_tick_1 (by simp) rfl rfl (m_now hR ?_)
  unfold s_tick at hQ
  split at hQ
  next c1 =>
    simp (disch := first | exact hR _ _ | exact x01a | exact x01b | (unfold x_r; omega) | assumption | omega) only [wM_tick_4, wM_tick_5, wM_tick_6, wM_tick_9, wM_tick_10, x_gi_int, x_ga_ref, x_ga_null, List.getElem?_cons_zero, List.getElem?_cons_succ, List.length_cons, List.length_nil, List.set_cons_zero, List.set_cons_succ, Nat.reduceAdd, Nat.reduceLT, xr_lt, xr_eq, xr_toInt, xr_0, xi_add, xi_sub, xi_mul, xr_div, xr_rm, Int.toNat_natCast, bd_t, true_and, and_true, not_false_eq_true, ↓reduceIte, ilt_t, ilt_f, ile_t, x_c1i, x_c1r, x_c1n, and_self, Option.toList_some, Option.toList_none, List.cons_append, List.nil_append, xr_01, xr_00, ieq_f, ieq_t]
    exact hQ
  next c1 =>
    have hR2 : RgS (sset S 14 (s_now S).toNat (S 14 (s_now S).toNat - 1)) := hR.set ⟨by omega, by omega⟩
    split at hQ
    next c2 =>
      simp (disch := first | exact hR _ _ | exact x01a | exact x01b | (unfold x_r; omega) | assumption | omega) only [wM_tick_4, wM_tick_5, wM_tick_6, wM_tick_9, wM_tick_10, wM_tick_11, wM_tick_12, wM_tick_15, wM_tick_16, wM_tick_17, wM_tick_18, wM_tick_19, wM_tick_20, wM_tick_21, wM_tick_22, wM_tick_25, wM_tick_26, wM_tick_27, wM_tick_30, wM_tick_31, x_gi_int, x_ga_ref, x_ga_null, List.getElem?_cons_zero, List.getElem?_cons_succ, List.length_cons, List.length_nil, List.set_cons_zero, List.set_cons_succ, Nat.reduceAdd, Nat.reduceLT, xr_lt, xr_eq, xr_toInt, xr_0, xi_add, xi_sub, xi_mul, xr_div, xr_rm, Int.toNat_natCast, bd_t, true_and, and_true, not_false_eq_true, ↓reduceIte, ilt_t, ilt_f, ile_t, x_c1i, x_c1r, x_c1n, and_self, Option.toList_some, Option.toList_none, List.cons_append, List.nil_append, xr_01, xr_00, ieq_f, ieq_t, sset_at, Nat.reduceEqDiff, false_and, and_false, eq_self, and_self, reduceCtorEq]
      refine wM_tick_32 (by simp) rfl rfl (m_ready hR2 (by omega) (by omega) ?_)
      have hR3 : RgS (s_ready (sset S 14 (s_now S).toNat (S 14 (s_now S).toNat - 1)) (s_now S)) := hR2.ready (by simpa [sset_at] using hC) _
      simp (disch := first | exact hR _ _ | exact x01a | exact x01b | (unfold x_r; omega) | assumption | omega) only [wM_tick_35, x_gi_int, x_ga_ref, x_ga_null, List.getElem?_cons_zero, List.getElem?_cons_succ, List.length_cons, List.length_nil, List.set_cons_zero, List.set_cons_succ, Nat.reduceAdd, Nat.reduceLT, xr_lt, xr_eq, xr_toInt, xr_0, xi_add, xi_sub, xi_mul, xr_div, xr_rm, Int.toNat_natCast, bd_t, true_and, and_true, not_false_eq_true, ↓reduceIte, ilt_t, ilt_f, ile_t, x_c1i, x_c1r, x_c1n, and_self, Option.toList_some, Option.toList_none, List.cons_append, List.nil_append, xr_01, xr_00, ieq_f, ieq_t]
      refine wM_tick_36 (by simp) rfl rfl (m_current hR3 ?_)
      simp (disch := first | exact hR _ _ | exact x01a | exact x01b | (unfold x_r; omega) | assumption | omega) only [wM_tick_39, x_gi_int, x_ga_ref, x_ga_null, List.getElem?_cons_zero, List.getElem?_cons_succ, List.length_cons, List.length_nil, List.set_cons_zero, List.set_cons_succ, Nat.reduceAdd, Nat.reduceLT, xr_lt, xr_eq, xr_toInt, xr_0, xi_add, xi_sub, xi_mul, xr_div, xr_rm, Int.toNat_natCast, bd_t, true_and, and_true, not_false_eq_true, ↓reduceIte, ilt_t, ilt_f, ile_t, x_c1i, x_c1r, x_c1n, and_self, Option.toList_some, Option.toList_none, List.cons_append, List.nil_append, xr_01, xr_00, ieq_f, ieq_t]
      exact hQ
    next c2 =>
      simp (disch := first | exact hR _ _ | exact x01a | exact x01b | (unfold x_r; omega) | assumption | omega) only [wM_tick_4, wM_tick_5, wM_tick_6, wM_tick_9, wM_tick_10, wM_tick_11, wM_tick_12, wM_tick_15, wM_tick_16, wM_tick_17, wM_tick_18, wM_tick_19, wM_tick_20, wM_tick_21, wM_tick_22, wM_tick_25, wM_tick_26, wM_tick_27, wM_tick_30, wM_tick_31, wM_tick_35, x_gi_int, x_ga_ref, x_ga_null, List.getElem?_cons_zero, List.getElem?_cons_succ, List.length_cons, List.length_nil, List.set_cons_zero, List.set_cons_succ, Nat.reduceAdd, Nat.reduceLT, xr_lt, xr_eq, xr_toInt, xr_0, xi_add, xi_sub, xi_mul, xr_div, xr_rm, Int.toNat_natCast, bd_t, true_and, and_true, not_false_eq_true, ↓reduceIte, ilt_t, ilt_f, ile_t, x_c1i, x_c1r, x_c1n, and_self, Option.toList_some, Option.toList_none, List.cons_append, List.nil_append, xr_01, xr_00, ieq_f, ieq_t, sset_at, Nat.reduceEqDiff, false_and, and_false, eq_self, and_self, reduceCtorEq]
      refine wM_tick_36 (by simp) rfl rfl (m_current hR2 ?_)
      simp (disch := first | exact hR _ _ | exact x01a | exact x01b | (unfold x_r; omega) | assumption | omega) only [wM_tick_39, x_gi_int, x_ga_ref, x_ga_null, List.getElem?_cons_zero, List.getElem?_cons_succ, List.length_cons, List.length_nil, List.set_cons_zero, List.set_cons_succ, Nat.reduceAdd, Nat.reduceLT, xr_lt, xr_eq, xr_toInt, xr_0, xi_add, xi_sub, xi_mul, xr_div, xr_rm, Int.toNat_natCast, bd_t, true_and, and_true, not_false_eq_true, ↓reduceIte, ilt_t, ilt_f, ile_t, x_c1i, x_c1r, x_c1n, and_self, Option.toList_some, Option.toList_none, List.cons_append, List.nil_append, xr_01, xr_00, ieq_f, ieq_t]
      exact hQ
set_option maxHeartbeats 4000000 in
theorem m_unmap {c : Int} (hG : GS S) (hc : x_r c) (hQ : Q (some (.int (xi (s_unmap S c).1))) (putR w mo (s_unmap S c).2)) : WP P 110 0 [some (.ref mo), some (.int (xi c)), none] [] (putR w mo S) Q := by
  have hW := hG.1
  have hR := hW.1
  have hn := s_now_in S
  simp (disch := first | exact hR _ _ | exact x01a | exact x01b | (unfold x_r; omega) | assumption | omega) only [wM_unmap_0, x_gi_int, x_ga_ref, x_ga_null, List.getElem?_cons_zero, List.getElem?_cons_succ, List.length_cons, List.length_nil, List.set_cons_zero, List.set_cons_succ, Nat.reduceAdd, Nat.reduceLT, xr_lt, xr_eq, xr_toInt, xr_0, xi_add, xi_sub, xi_mul, xr_div, xr_rm, Int.toNat_natCast, bd_t, true_and, and_true, not_false_eq_true, ↓reduceIte, ilt_t, ilt_f, ile_t, x_c1i, x_c1r, x_c1n, and_self, Option.toList_some, Option.toList_none, List.cons_append, List.nil_append, xr_01, xr_00, ieq_f, ieq_t]
  refine wM_unmap_1 (by simp) rfl rfl (m_now hR ?_)
  unfold s_unmap at hQ
  split at hQ
  next c1 =>
    simp (disch := first | exact hR _ _ | exact x01a | exact x01b | (unfold x_r; omega) | assumption | omega) only [wM_unmap_4, wM_unmap_7, wM_unmap_9, x_gi_int, x_ga_ref, x_ga_null, List.getElem?_cons_zero, List.getElem?_cons_succ, List.length_cons, List.length_nil, List.set_cons_zero, List.set_cons_succ, Nat.reduceAdd, Nat.reduceLT, xr_lt, xr_eq, xr_toInt, xr_0, xi_add, xi_sub, xi_mul, xr_div, xr_rm, Int.toNat_natCast, bd_t, true_and, and_true, not_false_eq_true, ↓reduceIte, ilt_t, ilt_f, ile_t, x_c1i, x_c1r, x_c1n, and_self, Option.toList_some, Option.toList_none, List.cons_append, List.nil_append, xr_01, xr_00, ieq_f, ieq_t]
    exact hQ
  next c1 =>
    have hh := s_having_in hW (by omega) c (-1)
    simp (disch := first | exact hR _ _ | exact x01a | exact x01b | (unfold x_r; omega) | assumption | omega) only [wM_unmap_4, wM_unmap_7, wM_unmap_9, wM_unmap_10, wM_unmap_11, wM_unmap_12, x_gi_int, x_ga_ref, x_ga_null, List.getElem?_cons_zero, List.getElem?_cons_succ, List.length_cons, List.length_nil, List.set_cons_zero, List.set_cons_succ, Nat.reduceAdd, Nat.reduceLT, xr_lt, xr_eq, xr_toInt, xr_0, xi_add, xi_sub, xi_mul, xr_div, xr_rm, Int.toNat_natCast, bd_t, true_and, and_true, not_false_eq_true, ↓reduceIte, ilt_t, ilt_f, ile_t, x_c1i, x_c1r, x_c1n, and_self, Option.toList_some, Option.toList_none, List.cons_append, List.nil_append, xr_01, xr_00, ieq_f, ieq_t]
    refine wM_unmap_13 (by simp) rfl rfl (m_having hW (by omega) hc ⟨by omega, by omega⟩ ?_)
    split at hQ
    next c2 =>
      simp (disch := first | exact hR _ _ | exact x01a | exact x01b | (unfold x_r; omega) | assumption | omega) only [wM_unmap_16, wM_unmap_17, wM_unmap_18, wM_unmap_21, wM_unmap_22, wM_unmap_25, wM_unmap_26, wM_unmap_27, wM_unmap_29, wM_unmap_32, wM_unmap_33, wM_unmap_37, wM_unmap_40, wM_unmap_41, wM_unmap_44, wM_unmap_45, wM_unmap_48, wM_unmap_49, wM_unmap_50, wM_unmap_52, wM_unmap_55, wM_unmap_56, wM_unmap_59, wM_unmap_61, x_gi_int, x_ga_ref, x_ga_null, List.getElem?_cons_zero, List.getElem?_cons_succ, List.length_cons, List.length_nil, List.set_cons_zero, List.set_cons_succ, Nat.reduceAdd, Nat.reduceLT, xr_lt, xr_eq, xr_toInt, xr_0, xi_add, xi_sub, xi_mul, xr_div, xr_rm, Int.toNat_natCast, bd_t, true_and, and_true, not_false_eq_true, ↓reduceIte, ilt_t, ilt_f, ile_t, x_c1i, x_c1r, x_c1n, and_self, Option.toList_some, Option.toList_none, List.cons_append, List.nil_append, xr_01, xr_00, ieq_f, ieq_t]
      exact hQ
    next c2 =>
      have hu := hG.2.1.2.1 (s_having S c (-1)).toNat (by omega)
      split at hQ
      next c3 =>
        simp (disch := first | exact hR _ _ | exact x01a | exact x01b | (unfold x_r; omega) | assumption | omega) only [wM_unmap_16, wM_unmap_17, wM_unmap_18, wM_unmap_21, wM_unmap_22, wM_unmap_25, wM_unmap_26, wM_unmap_27, wM_unmap_29, wM_unmap_32, wM_unmap_33, wM_unmap_37, wM_unmap_40, wM_unmap_41, wM_unmap_44, wM_unmap_45, wM_unmap_48, wM_unmap_49, wM_unmap_50, wM_unmap_52, wM_unmap_55, wM_unmap_56, wM_unmap_59, wM_unmap_61, x_gi_int, x_ga_ref, x_ga_null, List.getElem?_cons_zero, List.getElem?_cons_succ, List.length_cons, List.length_nil, List.set_cons_zero, List.set_cons_succ, Nat.reduceAdd, Nat.reduceLT, xr_lt, xr_eq, xr_toInt, xr_0, xi_add, xi_sub, xi_mul, xr_div, xr_rm, Int.toNat_natCast, bd_t, true_and, and_true, not_false_eq_true, ↓reduceIte, ilt_t, ilt_f, ile_t, x_c1i, x_c1r, x_c1n, and_self, Option.toList_some, Option.toList_none, List.cons_append, List.nil_append, xr_01, xr_00, ieq_f, ieq_t]
        exact hQ
      next c3 =>
        have hm := s_mapped_in S (s_having S c (-1))
        simp (disch := first | exact hR _ _ | exact x01a | exact x01b | (unfold x_r; omega) | assumption | omega) only [wM_unmap_16, wM_unmap_17, wM_unmap_18, wM_unmap_21, wM_unmap_22, wM_unmap_25, wM_unmap_26, wM_unmap_27, wM_unmap_29, wM_unmap_32, wM_unmap_33, x_gi_int, x_ga_ref, x_ga_null, List.getElem?_cons_zero, List.getElem?_cons_succ, List.length_cons, List.length_nil, List.set_cons_zero, List.set_cons_succ, Nat.reduceAdd, Nat.reduceLT, xr_lt, xr_eq, xr_toInt, xr_0, xi_add, xi_sub, xi_mul, xr_div, xr_rm, Int.toNat_natCast, bd_t, true_and, and_true, not_false_eq_true, ↓reduceIte, ilt_t, ilt_f, ile_t, x_c1i, x_c1r, x_c1n, and_self, Option.toList_some, Option.toList_none, List.cons_append, List.nil_append, xr_01, xr_00, ieq_f, ieq_t]
        refine wM_unmap_34 (by simp) rfl rfl (m_mapped hR (by omega) (by omega) (fun _ => hu) ?_)
        split at hQ
        · simp (disch := first | exact hR _ _ | exact x01a | exact x01b | (unfold x_r; omega) | assumption | omega) only [wM_unmap_37, wM_unmap_40, wM_unmap_41, wM_unmap_44, wM_unmap_45, wM_unmap_48, wM_unmap_49, wM_unmap_50, wM_unmap_52, wM_unmap_55, wM_unmap_56, wM_unmap_59, wM_unmap_61, x_gi_int, x_ga_ref, x_ga_null, List.getElem?_cons_zero, List.getElem?_cons_succ, List.length_cons, List.length_nil, List.set_cons_zero, List.set_cons_succ, Nat.reduceAdd, Nat.reduceLT, xr_lt, xr_eq, xr_toInt, xr_0, xi_add, xi_sub, xi_mul, xr_div, xr_rm, Int.toNat_natCast, bd_t, true_and, and_true, not_false_eq_true, ↓reduceIte, ilt_t, ilt_f, ile_t, x_c1i, x_c1r, x_c1n, and_self, Option.toList_some, Option.toList_none, List.cons_append, List.nil_append, xr_01, xr_00, ieq_f, ieq_t]
          exact hQ
        · split at hQ
          · simp (disch := first | exact hR _ _ | exact x01a | exact x01b | (unfold x_r; omega) | assumption | omega) only [wM_unmap_37, wM_unmap_40, wM_unmap_41, wM_unmap_44, wM_unmap_45, wM_unmap_48, wM_unmap_49, wM_unmap_50, wM_unmap_52, wM_unmap_55, wM_unmap_56, wM_unmap_59, wM_unmap_61, wM_unmap_62, wM_unmap_63, wM_unmap_66, wM_unmap_67, wM_unmap_68, wM_unmap_70, wM_unmap_73, wM_unmap_74, wM_unmap_77, wM_unmap_78, wM_unmap_81, wM_unmap_82, wM_unmap_83, wM_unmap_84, wM_unmap_85, wM_unmap_86, wM_unmap_87, wM_unmap_90, wM_unmap_91, wM_unmap_94, wM_unmap_95, wM_unmap_96, wM_unmap_97, wM_unmap_98, x_gi_int, x_ga_ref, x_ga_null, List.getElem?_cons_zero, List.getElem?_cons_succ, List.length_cons, List.length_nil, List.set_cons_zero, List.set_cons_succ, Nat.reduceAdd, Nat.reduceLT, xr_lt, xr_eq, xr_toInt, xr_0, xi_add, xi_sub, xi_mul, xr_div, xr_rm, Int.toNat_natCast, bd_t, true_and, and_true, not_false_eq_true, ↓reduceIte, ilt_t, ilt_f, ile_t, x_c1i, x_c1r, x_c1n, and_self, Option.toList_some, Option.toList_none, List.cons_append, List.nil_append, xr_01, xr_00, ieq_f, ieq_t]
            exact hQ
          · simp (disch := first | exact hR _ _ | exact x01a | exact x01b | (unfold x_r; omega) | assumption | omega) only [wM_unmap_37, wM_unmap_40, wM_unmap_41, wM_unmap_44, wM_unmap_45, wM_unmap_48, wM_unmap_49, wM_unmap_50, wM_unmap_52, wM_unmap_55, wM_unmap_56, wM_unmap_59, wM_unmap_61, wM_unmap_62, wM_unmap_63, wM_unmap_66, wM_unmap_67, wM_unmap_68, wM_unmap_70, wM_unmap_73, wM_unmap_74, wM_unmap_77, wM_unmap_78, wM_unmap_81, wM_unmap_82, wM_unmap_83, wM_unmap_84, wM_unmap_85, wM_unmap_86, wM_unmap_87, wM_unmap_90, wM_unmap_91, wM_unmap_94, wM_unmap_95, wM_unmap_96, wM_unmap_97, wM_unmap_98, x_gi_int, x_ga_ref, x_ga_null, List.getElem?_cons_zero, List.getElem?_cons_succ, List.length_cons, List.length_nil, List.set_cons_zero, List.set_cons_succ, Nat.reduceAdd, Nat.reduceLT, xr_lt, xr_eq, xr_toInt, xr_0, xi_add, xi_sub, xi_mul, xr_div, xr_rm, Int.toNat_natCast, bd_t, true_and, and_true, not_false_eq_true, ↓reduceIte, ilt_t, ilt_f, ile_t, x_c1i, x_c1r, x_c1n, and_self, Option.toList_some, Option.toList_none, List.cons_append, List.nil_append, xr_01, xr_00, ieq_f, ieq_t]
            exact hQ
end RI
