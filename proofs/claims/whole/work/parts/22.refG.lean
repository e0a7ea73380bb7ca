def s_or (a b : Int) : Int := ((a.toNat ||| b.toNat : Nat) : Int)
def s_and (a b : Int) : Int := ((a.toNat &&& b.toNat : Nat) : Int)
theorem xi_nat (n : Nat) : xi (n : Int) = Int32.ofNat n := Int32.ofInt_eq_ofNat
theorem xr_or {a b : Int} (ha : 0 ≤ a) (hb : 0 ≤ b) : xi a ||| xi b = xi (s_or a b) := by
  obtain ⟨m, rfl⟩ := Int.eq_ofNat_of_zero_le ha
  obtain ⟨n, rfl⟩ := Int.eq_ofNat_of_zero_le hb
  unfold s_or
  rw [xi_nat, xi_nat, xi_nat]
  apply Int32.toBitVec_inj.1
  show BitVec.ofNat 32 m ||| BitVec.ofNat 32 n = BitVec.ofNat 32 (m ||| n)
  rw [BitVec.ofNat_or]
theorem xr_and {a b : Int} (ha : 0 ≤ a) (hb : 0 ≤ b) : xi a &&& xi b = xi (s_and a b) := by
  obtain ⟨m, rfl⟩ := Int.eq_ofNat_of_zero_le ha
  obtain ⟨n, rfl⟩ := Int.eq_ofNat_of_zero_le hb
  unfold s_and
  rw [xi_nat, xi_nat, xi_nat]
  apply Int32.toBitVec_inj.1
  show BitVec.ofNat 32 m &&& BitVec.ofNat 32 n = BitVec.ofNat 32 (m &&& n)
  rw [BitVec.ofNat_and]
theorem s_and_in {a b : Int} (hb0 : 0 ≤ b) : 0 ≤ s_and a b ∧ s_and a b ≤ b := by
  unfold s_and
  have := Nat.and_le_right (n := a.toNat) (m := b.toNat)
  omega
theorem WfS.set {S : xS} (h : WfS S) {j i : Nat} {v : Int} (hv : x_r v) (h0 : j ≠ 0) (h1 : j ≠ 1) (h2 : j ≠ 11) : WfS (sset S j i v) := by
  obtain ⟨hR, g1, g2, g3⟩ := h
  refine ⟨hR.set hv, fun t ht => ?_, fun s hs => ?_, fun s hs => ?_⟩
  · rw [sset_at, if_neg (fun q => h2 q.1.symm)]; exact g1 t ht
  · rw [sset_at, if_neg (fun q => h0 q.1.symm), sset_at, if_neg (fun q => h1 q.1.symm)]; exact g2 s hs
  · rw [sset_at, if_neg (fun q => h0 q.1.symm), sset_at, if_neg (fun q => h1 q.1.symm)]; exact g3 s hs
theorem IW.set {S : xS} (h : IW S) {j i : Nat} {v : Int} (hv : x_r v) (h0 : j ≠ 0) (h1 : j ≠ 1) (h4 : j ≠ 4) : IW (sset S j i v) := by
  obtain ⟨hR, g1, rho, g2⟩ := h
  refine ⟨hR.set hv, fun t ht => ?_, rho, fun q hq => ?_⟩
  · rw [sset_at, if_neg (fun q => h1 q.1.symm)]; exact g1 t ht
  · rw [sset_at, if_neg (fun q => h4 q.1.symm), sset_at, if_neg (fun q => h0 q.1.symm)]; exact g2 q hq
theorem s_now_in (S : xS) : -1 ≤ s_now S ∧ s_now S < 16 := nowL_in S 16
theorem s_first_in (S : xS) (how u : Int) : -1 ≤ s_first S how u ∧ s_first S how u < 16 := firstL_in S how u 16
theorem s_having_in {S : xS} (hW : WfS S) (h0 : 0 ≤ s_now S) (a k : Int) : -1 ≤ s_having S a k ∧ s_having S a k < 128 ∧ (0 ≤ s_having S a k → 0 ≤ S 0 (s_having S a k).toNat ∧ (0 ≤ k → S 0 (s_having S a k).toNat = k)) := by
  have hn := s_now_in S
  have hf := s_find_in hW (t := (s_now S).toNat) (by omega) a
  unfold s_having
  split
  · exact ⟨by omega, by omega, fun h => by omega⟩
  · split
    · exact ⟨by omega, by omega, fun h => by omega⟩
    · split
      · exact ⟨by omega, by omega, fun h => ⟨by omega, fun h => by omega⟩⟩
      · split
        next hk => exact ⟨by omega, by omega, fun h => ⟨by omega, fun _ => hk⟩⟩
        · exact ⟨by omega, by omega, fun h => by omega⟩
theorem s_vacant_in {S : xS} (hW : WfS S) (h0 : 0 ≤ s_now S) (a : Int) : -1 ≤ s_vacant S a ∧ s_vacant S a < 128 ∧ (0 ≤ s_vacant S a → S 0 (s_vacant S a).toNat < 0) := by
  have hn := s_now_in S
  have hf := s_find_in hW (t := (s_now S).toNat) (by omega) a
  unfold s_vacant
  split
  · exact ⟨by omega, by omega, fun h => by omega⟩
  · split
    next hk => exact ⟨by omega, by omega, fun h => hk⟩
    · exact ⟨by omega, by omega, fun h => by omega⟩
/-- what all reference methods keep to -/
def GS (S : xS) : Prop := WfS S ∧ IW S ∧ (∀ s, s < 128 → -1 ≤ S 0 s ∧ S 0 s ≤ 7) ∧ (∀ s, s < 128 → 0 ≤ S 0 s → 0 ≤ S 2 s ∧ S 2 s ≤ 7 ∧ 0 ≤ S 3 s ∧ S 3 s ≤ 255 ∧ 0 ≤ S 6 s ∧ S 6 s ≤ 128) ∧ (∀ s, s < 128 → S 0 s = 0 → 1 ≤ S 5 s ∧ S 5 s ≤ 6) ∧ (∀ q, q < 64 → 0 ≤ S 24 q ∧ S 24 q < 512) ∧ (∀ q, q < 4 → S 27 q = -1 ∨ (0 ≤ S 27 q ∧ S 27 q < 128)) ∧ (∀ q, q < 128 → S 9 q = 0)
def s_ring (S : xS) (u n : Int) : xS := if s_first S 5 u < 0 then sset S 24 (u / 2).toNat (s_or (S 24 (u / 2).toNat) n) else s_ready (s_hears S (s_first S 5 u) n) (s_first S 5 u)
def s_delete (S : xS) (a : Int) : Int × xS := if s_now S < 0 then (8, S) else if s_having S a (-1) < 0 then (1, S) else (0, s_sweep (sset S 9 (s_having S a (-1)).toNat 1))
def s_run (S : xS) (t on : Int) : Int × xS := if s_now S < 0 then (8, S) else if s_having S t 2 < 0 then (1, S) else if on = 0 then (0, sset S 10 (S 1 (s_having S t 2).toNat / 8).toNat 1) else if S 10 (S 1 (s_having S t 2).toNat / 8).toNat = 1 then (0, s_ready S (S 1 (s_having S t 2).toNat / 8)) else (0, S)
def s_signal (S : xS) (b : Int) : Int × xS := if s_now S < 0 then (8, S) else if s_having S b 4 < 0 then (1, S) else if s_and (S 2 (s_having S b 4).toNat) 2 = 0 then (2, S) else (0, s_ring S (S 1 (s_having S b 4).toNat) (if S 3 (s_having S b 4).toNat = 0 then 256 else S 3 (s_having S b 4).toNat))
def s_bind (S : xS) (n b : Int) : Int × xS := if s_now S < 0 then (8, S) else if n < 0 then (4, S) else if 3 < n then (4, S) else if b = -1 then (0, sset S 27 n.toNat (-1)) else if s_having S b 4 < 0 then (1, S) else (0, sset S 27 n.toNat (S 1 (s_having S b 4).toNat))
def s_interrupt (S : xS) (n : Int) : Int × xS := if n < 0 then (0, S) else if 3 < n then (0, S) else if S 27 n.toNat = -1 then (0, S) else (1, s_ring S (S 27 n.toNat) (2 ^ n.toNat))
def s_current (S : xS) : Int := if s_now S < 0 then -1 else 8 * s_now S
def s_tick (S : xS) : Int × xS := if s_now S < 0 then (-1, S) else
  if S 14 (s_now S).toNat - 1 = 0 then (s_current (s_ready (sset S 14 (s_now S).toNat (S 14 (s_now S).toNat - 1)) (s_now S)), s_ready (sset S 14 (s_now S).toNat (S 14 (s_now S).toNat - 1)) (s_now S))
  else (s_current (sset S 14 (s_now S).toNat (S 14 (s_now S).toNat - 1)), sset S 14 (s_now S).toNat (S 14 (s_now S).toNat - 1))
section RH
variable {P : xP} {w : xH} {Q : Option Value → xH → Prop} {mo : Nat} {S : xS}
set_option maxHeartbeats 4000000 in
theorem m_ring {u n : Int} (hR : RgS S) (h0 : 0 ≤ u) (h1 : u < 128) (hn0 : 0 ≤ n) (hn1 : n < 512) (hb : 0 ≤ S 24 (u / 2).toNat) (hQ : Q none (putR w mo (s_ring S u n))) : WP P 103 0 [some (.ref mo), some (.int (xi u)), some (.int (xi n)), none] [] (putR w mo S) Q := by
  have hf := s_first_in S 5 u
  simp (disch := first | exact hR _ _ | exact x01a | exact x01b | (unfold x_r; omega) | assumption | omega) only [wM_ring_0, wM_ring_1, wM_ring_2, x_gi_int, x_ga_ref, x_ga_null, List.getElem?_cons_zero, List.getElem?_cons_succ, List.length_cons, List.length_nil, List.set_cons_zero, List.set_cons_succ, Nat.reduceAdd, Nat.reduceLT, xr_lt, xr_eq, xr_toInt, xr_0, xi_add, xi_sub, xi_mul, xr_div, xr_rm, Int.toNat_natCast, bd_t, true_and, and_true, not_false_eq_true, ↓reduceIte, ilt_t, ilt_f, ile_t, x_c1i, x_c1r, x_c1n, and_self, Option.toList_some, Option.toList_none, List.cons_append, List.nil_append, xr_01, xr_00, ieq_f, ieq_t]
  refine wM_ring_3 (by simp) rfl rfl (m_first hR ⟨by omega, by omega⟩ ⟨by omega, by omega⟩ ?_)
  unfold s_ring at hQ
  split at hQ
  next c =>
    simp (disch := first | exact hR _ _ | exact x01a | exact x01b | (unfold x_r; omega) | assumption | omega) only [wM_ring_6, wM_ring_7, wM_ring_8, wM_ring_11, wM_ring_12, wM_ring_15, wM_ring_16, wM_ring_17, wM_ring_18, wM_ring_19, wM_ring_22, wM_ring_23, wM_ring_24, wM_ring_25, wM_ring_26, wM_ring_27, wM_ring_28, wM_ring_29, x_gi_int, x_ga_ref, x_ga_null, List.getElem?_cons_zero, List.getElem?_cons_succ, List.length_cons, List.length_nil, List.set_cons_zero, List.set_cons_succ, Nat.reduceAdd, Nat.reduceLT, xr_lt, xr_eq, xr_toInt, xr_0, xi_add, xi_sub, xi_mul, xr_div, xr_rm, Int.toNat_natCast, bd_t, true_and, and_true, not_false_eq_true, ↓reduceIte, ilt_t, ilt_f, ile_t, x_c1i, x_c1r, x_c1n, and_self, Option.toList_some, Option.toList_none, List.cons_append, List.nil_append, xr_01, xr_00, ieq_f, ieq_t, xr_or]
    exact hQ
  next c =>
    simp (disch := first | exact hR _ _ | exact x01a | exact x01b | (unfold x_r; omega) | assumption | omega) only [wM_ring_6, wM_ring_7, wM_ring_8, wM_ring_11, wM_ring_12, wM_ring_15, wM_ring_16, wM_ring_17, wM_ring_18, wM_ring_19, wM_ring_22, wM_ring_23, wM_ring_24, wM_ring_25, wM_ring_26, wM_ring_27, wM_ring_28, wM_ring_29, wM_ring_30, wM_ring_31, wM_ring_32, x_gi_int, x_ga_ref, x_ga_null, List.getElem?_cons_zero, List.getElem?_cons_succ, List.length_cons, List.length_nil, List.set_cons_zero, List.set_cons_succ, Nat.reduceAdd, Nat.reduceLT, xr_lt, xr_eq, xr_toInt, xr_0, xi_add, xi_sub, xi_mul, xr_div, xr_rm, Int.toNat_natCast, bd_t, true_and, and_true, not_false_eq_true, ↓reduceIte, ilt_t, ilt_f, ile_t, x_c1i, x_c1r, x_c1n, and_self, Option.toList_some, Option.toList_none, List.cons_append, List.nil_append, xr_01, xr_00, ieq_f, ieq_t]
    refine wM_ring_33 (by simp) rfl rfl (m_hears hR (by omega) (by omega) ?_)
    have hR2 : RgS (s_hears S (s_first S 5 u) n) := ((hR.set ⟨by omega, by omega⟩).set x_r_0).set x_r_0
    simp (disch := first | exact hR _ _ | exact x01a | exact x01b | (unfold x_r; omega) | assumption | omega) only [wM_ring_36, wM_ring_37, x_gi_int, x_ga_ref, x_ga_null, List.getElem?_cons_zero, List.getElem?_cons_succ, List.length_cons, List.length_nil, List.set_cons_zero, List.set_cons_succ, Nat.reduceAdd, Nat.reduceLT, xr_lt, xr_eq, xr_toInt, xr_0, xi_add, xi_sub, xi_mul, xr_div, xr_rm, Int.toNat_natCast, bd_t, true_and, and_true, not_false_eq_true, ↓reduceIte, ilt_t, ilt_f, ile_t, x_c1i, x_c1r, x_c1n, and_self, Option.toList_some, Option.toList_none, List.cons_append, List.nil_append, xr_01, xr_00, ieq_f, ieq_t]
    refine wM_ring_38 (by simp) rfl rfl (m_ready hR2 (by omega) (by omega) ?_)
    simp (disch := first | exact hR _ _ | exact x01a | exact x01b | (unfold x_r; omega) | assumption | omega) only [wM_ring_41, x_gi_int, x_ga_ref, x_ga_null, List.getElem?_cons_zero, List.getElem?_cons_succ, List.length_cons, List.length_nil, List.set_cons_zero, List.set_cons_succ, Nat.reduceAdd, Nat.reduceLT, xr_lt, xr_eq, xr_toInt, xr_0, xi_add, xi_sub, xi_mul, xr_div, xr_rm, Int.toNat_natCast, bd_t, true_and, and_true, not_false_eq_true, ↓reduceIte, ilt_t, ilt_f, ile_t, x_c1i, x_c1r, x_c1n, and_self, Option.toList_some, Option.toList_none, List.cons_append, List.nil_append, xr_01, xr_00, ieq_f, ieq_t]
    exact hQ
set_option maxHeartbeats 4000000 in
theorem m_current (hR : RgS S) (hQ : Q (some (.int (xi (s_current S)))) (putR w mo S)) : WP P 115 0 [some (.ref mo), none] [] (putR w mo S) Q := by
  have hn := s_now_in S
  simp (disch := first | exact hR _ _ | exact x01a | exact x01b | (unfold x_r; omega) | assumption | omega) only [wM_current_0, x_gi_int, x_ga_ref, x_ga_null, List.getElem?_cons_zero, List.getElem?_cons_succ, List.length_cons, List.length_nil, List.set_cons_zero, List.set_cons_succ, Nat.reduceAdd, Nat.reduceLT, xr_lt, xr_eq, xr_toInt, xr_0, xi_add, xi_sub, xi_mul, xr_div, xr_rm, Int.toNat_natCast, bd_t, true_and, and_true, not_false_eq_true, ↓reduceIte, ilt_t, ilt_f, ile_t, x_c1i, x_c1r, x_c1n, and_self, Option.toList_some, Option.toList_none, List.cons_append, List.nil_append, xr_01, xr_00, ieq_f, ieq_t]
  refine wM_current_1 (by simp) rfl rfl (m_now hR ?_)
  unfold s_current at hQ
  split at hQ
  · simp (disch := first | exact hR _ _ | exact x01a | exact x01b | (unfold x_r; omega) | assumption | omega) only [wM_current_4, wM_current_5, wM_current_6, wM_current_9, wM_current_10, wM_current_13, wM_current_15, wM_current_16, wM_current_17, x_gi_int, x_ga_ref, x_ga_null, List.getElem?_cons_zero, List.getElem?_cons_succ, List.length_cons, List.length_nil, List.set_cons_zero, List.set_cons_succ, Nat.reduceAdd, Nat.reduceLT, xr_lt, xr_eq, xr_toInt, xr_0, xi_add, xi_sub, xi_mul, xr_div, xr_rm, Int.toNat_natCast, bd_t, true_and, and_true, not_false_eq_true, ↓reduceIte, ilt_t, ilt_f, ile_t, x_c1i, x_c1r, x_c1n, and_self, Option.toList_some, Option.toList_none, List.cons_append, List.nil_append, xr_01, xr_00, ieq_f, ieq_t]
    exact hQ
  · simp (disch := first | exact hR _ _ | exact x01a | exact x01b | (unfold x_r; omega) | assumption | omega) only [wM_current_4, wM_current_5, wM_current_6, wM_current_9, wM_current_10, wM_current_13, wM_current_15, wM_current_16, wM_current_17, x_gi_int, x_ga_ref, x_ga_null, List.getElem?_cons_zero, List.getElem?_cons_succ, List.length_cons, List.length_nil, List.set_cons_zero, List.set_cons_succ, Nat.reduceAdd, Nat.reduceLT, xr_lt, xr_eq, xr_toInt, xr_0, xi_add, xi_sub, xi_mul, xr_div, xr_rm, Int.toNat_natCast, bd_t, true_and, and_true, not_false_eq_true, ↓reduceIte, ilt_t, ilt_f, ile_t, x_c1i, x_c1r, x_c1n, and_self, Option.toList_some, Option.toList_none, List.cons_append, List.nil_append, xr_01, xr_00, ieq_f, ieq_t]
    exact hQ
set_option maxHeartbeats 4000000 in
theorem m_delete {a : Int} (hG : GS S) (ha : x_r a) (hQ : Q (some (.int (xi (s_delete S a).1))) (putR w mo (s_delete S a).2)) : WP P 90 0 [some (.ref mo), some (.int (xi a)), none] [] (putR w mo S) Q := by
  have hW := hG.1
  have hR := hW.1
  have hn := s_now_in S
  simp (disch := first | exact hR _ _ | exact x01a | exact x01b | (unfold x_r; omega) | assumption | omega) only [wM_delete_0, x_gi_int, x_ga_ref, x_ga_null, List.getElem?_cons_zero, List.getElem?_cons_succ, List.length_cons, List.length_nil, List.set_cons_zero, List.set_cons_succ, Nat.reduceAdd, Nat.reduceLT, xr_lt, xr_eq, xr_toInt, xr_0, xi_add, xi_sub, xi_mul, xr_div, xr_rm, Int.toNat_natCast, bd_t, true_and, and_true, not_false_eq_true, ↓reduceIte, ilt_t, ilt_f, ile_t, x_c1i, x_c1r, x_c1n, and_self, Option.toList_some, Option.toList_none, List.cons_append, List.nil_append, xr_01, xr_00, ieq_f, ieq_t]
  refine wM_delete_1 (by simp) rfl rfl (m_now hR ?_)
  unfold s_delete at hQ
  split at hQ
  next c1 =>
    simp (disch := first | exact hR _ _ | exact x01a | exact x01b | (unfold x_r; omega) | assumption | omega) only [wM_delete_4, wM_delete_7, wM_delete_9, x_gi_int, x_ga_ref, x_ga_null, List.getElem?_cons_zero, List.getElem?_cons_succ, List.length_cons, List.length_nil, List.set_cons_zero, List.set_cons_succ, Nat.reduceAdd, Nat.reduceLT, xr_lt, xr_eq, xr_toInt, xr_0, xi_add, xi_sub, xi_mul, xr_div, xr_rm, Int.toNat_natCast, bd_t, true_and, and_true, not_false_eq_true, ↓reduceIte, ilt_t, ilt_f, ile_t, x_c1i, x_c1r, x_c1n, and_self, Option.toList_some, Option.toList_none, List.cons_append, List.nil_append, xr_01, xr_00, ieq_f, ieq_t]
    exact hQ
  next c1 =>
    have hh := s_having_in hW (by omega) a (-1)
    simp (disch := first | exact hR _ _ | exact x01a | exact x01b | (unfold x_r; omega) | assumption | omega) only [wM_delete_4, wM_delete_7, wM_delete_9, wM_delete_10, wM_delete_11, wM_delete_12, x_gi_int, x_ga_ref, x_ga_null, List.getElem?_cons_zero, List.getElem?_cons_succ, List.length_cons, List.length_nil, List.set_cons_zero, List.set_cons_succ, Nat.reduceAdd, Nat.reduceLT, xr_lt, xr_eq, xr_toInt, xr_0, xi_add, xi_sub, xi_mul, xr_div, xr_rm, Int.toNat_natCast, bd_t, true_and, and_true, not_false_eq_true, ↓reduceIte, ilt_t, ilt_f, ile_t, x_c1i, x_c1r, x_c1n, and_self, Option.toList_some, Option.toList_none, List.cons_append, List.nil_append, xr_01, xr_00, ieq_f, ieq_t]
    refine wM_delete_13 (by simp) rfl rfl (m_having hW (by omega) ha ⟨by omega, by omega⟩ ?_)
    split at hQ
    next c2 =>
      simp (disch := first | exact hR _ _ | exact x01a | exact x01b | (unfold x_r; omega) | assumption | omega) only [wM_delete_16, wM_delete_17, wM_delete_18, wM_delete_21, wM_delete_22, x_gi_int, x_ga_ref, x_ga_null, List.getElem?_cons_zero, List.getElem?_cons_succ, List.length_cons, List.length_nil, List.set_cons_zero, List.set_cons_succ, Nat.reduceAdd, Nat.reduceLT, xr_lt, xr_eq, xr_toInt, xr_0, xi_add, xi_sub, xi_mul, xr_div, xr_rm, Int.toNat_natCast, bd_t, true_and, and_true, not_false_eq_true, ↓reduceIte, ilt_t, ilt_f, ile_t, x_c1i, x_c1r, x_c1n, and_self, Option.toList_some, Option.toList_none, List.cons_append, List.nil_append, xr_01, xr_00, ieq_f, ieq_t]
      exact hQ
    next c2 =>
      simp (disch := first | exact hR _ _ | exact x01a | exact x01b | (unfold x_r; omega) | assumption | omega) only [wM_delete_16, wM_delete_17, wM_delete_18, wM_delete_21, wM_delete_22, wM_delete_23, wM_delete_24, wM_delete_27, wM_delete_28, wM_delete_29, wM_delete_30, x_gi_int, x_ga_ref, x_ga_null, List.getElem?_cons_zero, List.getElem?_cons_succ, List.length_cons, List.length_nil, List.set_cons_zero, List.set_cons_succ, Nat.reduceAdd, Nat.reduceLT, xr_lt, xr_eq, xr_toInt, xr_0, xi_add, xi_sub, xi_mul, xr_div, xr_rm, Int.toNat_natCast, bd_t, true_and, and_true, not_false_eq_true, ↓reduceIte, ilt_t, ilt_f, ile_t, x_c1i, x_c1r, x_c1n, and_self, Option.toList_some, Option.toList_none, List.cons_append, List.nil_append, xr_01, xr_00, ieq_f, ieq_t, true_or, or_true]
      refine wM_delete_31 (by simp) rfl rfl (m_sweep (hG.2.1.set x_r_1 (by omega) (by omega) (by omega)) ?_)
      simp (disch := first | exact hR _ _ | exact x01a | exact x01b | (unfold x_r; omega) | assumption | omega) only [wM_delete_34, wM_delete_35, x_gi_int, x_ga_ref, x_ga_null, List.getElem?_cons_zero, List.getElem?_cons_succ, List.length_cons, List.length_nil, List.set_cons_zero, List.set_cons_succ, Nat.reduceAdd, Nat.reduceLT, xr_lt, xr_eq, xr_toInt, xr_0, xi_add, xi_sub, xi_mul, xr_div, xr_rm, Int.toNat_natCast, bd_t, true_and, and_true, not_false_eq_true, ↓reduceIte, ilt_t, ilt_f, ile_t, x_c1i, x_c1r, x_c1n, and_self, Option.toList_some, Option.toList_none, List.cons_append, List.nil_append, xr_01, xr_00, ieq_f, ieq_t]
      exact hQ
set_option maxHeartbeats 4000000 in
theorem m_run {t on : Int} (hG : GS S) (ht : x_r t) (hon : on = 0 ∨ on = 1) (hQ : Q (some (.int (xi (s_run S t on).1))) (putR w mo (s_run S t on).2)) : WP P 96 0 [some (.ref mo), some (.int (xi t)), some (.int (xi on)), none, none] [] (putR w mo S) Q := by
  have hW := hG.1
  have hR := hW.1
  have hn := s_now_in S
  simp (disch := first | exact hR _ _ | exact x01a | exact x01b | (unfold x_r; omega) | assumption | omega) only [wM_run_0, x_gi_int, x_ga_ref, x_ga_null, List.getElem?_cons_zero, List.getElem?_cons_succ, List.length_cons, List.length_nil, List.set_cons_zero, List.set_cons_succ, Nat.reduceAdd, Nat.reduceLT, xr_lt, xr_eq, xr_toInt, xr_0, xi_add, xi_sub, xi_mul, xr_div, xr_rm, Int.toNat_natCast, bd_t, true_and, and_true, not_false_eq_true, ↓reduceIte, ilt_t, ilt_f, ile_t, x_c1i, x_c1r, x_c1n, and_self, Option.toList_some, Option.toList_none, List.cons_append, List.nil_append, xr_01, xr_00, ieq_f, ieq_t]
  refine wM_run_1 (by simp) rfl rfl (m_now hR ?_)
  unfold s_run at hQ
  split at hQ
  next c1 =>
    simp (disch := first | exact hR _ _ | exact x01a | exact x01b | (unfold x_r; omega) | assumption | omega) only [wM_run_4, wM_run_7, wM_run_9, x_gi_int, x_ga_ref, x_ga_null, List.getElem?_cons_zero, List.getElem?_cons_succ, List.length_cons, List.length_nil, List.set_cons_zero, List.set_cons_succ, Nat.reduceAdd, Nat.reduceLT, xr_lt, xr_eq, xr_toInt, xr_0, xi_add, xi_sub, xi_mul, xr_div, xr_rm, Int.toNat_natCast, bd_t, true_and, and_true, not_false_eq_true, ↓reduceIte, ilt_t, ilt_f, ile_t, x_c1i, x_c1r, x_c1n, and_self, Option.toList_some, Option.toList_none, List.cons_append, List.nil_append, xr_01, xr_00, ieq_f, ieq_t]
    exact hQ
  next c1 =>
    have hh := s_having_in hW (by omega) t 2
    simp (disch := first | exact hR _ _ | exact x01a | exact x01b | (unfold x_r; omega) | assumption | omega) only [wM_run_4, wM_run_7, wM_run_9, wM_run_10, wM_run_11, wM_run_12, x_gi_int, x_ga_ref, x_ga_null, List.getElem?_cons_zero, List.getElem?_cons_succ, List.length_cons, List.length_nil, List.set_cons_zero, List.set_cons_succ, Nat.reduceAdd, Nat.reduceLT, xr_lt, xr_eq, xr_toInt, xr_0, xi_add, xi_sub, xi_mul, xr_div, xr_rm, Int.toNat_natCast, bd_t, true_and, and_true, not_false_eq_true, ↓reduceIte, ilt_t, ilt_f, ile_t, x_c1i, x_c1r, x_c1n, and_self, Option.toList_some, Option.toList_none, List.cons_append, List.nil_append, xr_01, xr_00, ieq_f, ieq_t]
    refine wM_run_13 (by simp) rfl rfl (m_having hW (by omega) ht ⟨by omega, by omega⟩ ?_)
    split at hQ
    next c2 =>
      simp (disch := first | exact hR _ _ | exact x01a | exact x01b | (unfold x_r; omega) | assumption | omega) only [wM_run_16, wM_run_17, wM_run_18, wM_run_21, wM_run_22, x_gi_int, x_ga_ref, x_ga_null, List.getElem?_cons_zero, List.getElem?_cons_succ, List.length_cons, List.length_nil, List.set_cons_zero, List.set_cons_succ, Nat.reduceAdd, Nat.reduceLT, xr_lt, xr_eq, xr_toInt, xr_0, xi_add, xi_sub, xi_mul, xr_div, xr_rm, Int.toNat_natCast, bd_t, true_and, and_true, not_false_eq_true, ↓reduceIte, ilt_t, ilt_f, ile_t, x_c1i, x_c1r, x_c1n, and_self, Option.toList_some, Option.toList_none, List.cons_append, List.nil_append, xr_01, xr_00, ieq_f, ieq_t]
      exact hQ
    next c2 =>
      have hu := hG.2.1.2.1 (s_having S t 2).toNat (by omega)
      split at hQ
      · simp (disch := first | exact hR _ _ | exact x01a | exact x01b | (unfold x_r; omega) | assumption | omega) only [wM_run_16, wM_run_17, wM_run_18, wM_run_21, wM_run_22, wM_run_23, wM_run_24, wM_run_27, wM_run_28, wM_run_29, wM_run_31, wM_run_32, wM_run_34, wM_run_35, wM_run_38, wM_run_39, wM_run_42, wM_run_44, wM_run_45, wM_run_46, wM_run_49, wM_run_50, wM_run_53, wM_run_55, wM_run_56, wM_run_57, wM_run_60, wM_run_61, wM_run_66, wM_run_67, x_gi_int, x_ga_ref, x_ga_null, List.getElem?_cons_zero, List.getElem?_cons_succ, List.length_cons, List.length_nil, List.set_cons_zero, List.set_cons_succ, Nat.reduceAdd, Nat.reduceLT, xr_lt, xr_eq, xr_toInt, xr_0, xi_add, xi_sub, xi_mul, xr_div, xr_rm, Int.toNat_natCast, bd_t, true_and, and_true, not_false_eq_true, ↓reduceIte, ilt_t, ilt_f, ile_t, x_c1i, x_c1r, x_c1n, and_self, Option.toList_some, Option.toList_none, List.cons_append, List.nil_append, xr_01, xr_00, ieq_f, ieq_t]
        exact hQ
      · split at hQ
        · simp (disch := first | exact hR _ _ | exact x01a | exact x01b | (unfold x_r; omega) | assumption | omega) only [wM_run_16, wM_run_17, wM_run_18, wM_run_21, wM_run_22, wM_run_23, wM_run_24, wM_run_27, wM_run_28, wM_run_29, wM_run_31, wM_run_32, wM_run_34, wM_run_35, wM_run_38, wM_run_39, wM_run_42, wM_run_44, wM_run_45, wM_run_46, wM_run_49, wM_run_50, wM_run_53, wM_run_55, wM_run_56, wM_run_57, wM_run_60, wM_run_61, x_gi_int, x_ga_ref, x_ga_null, List.getElem?_cons_zero, List.getElem?_cons_succ, List.length_cons, List.length_nil, List.set_cons_zero, List.set_cons_succ, Nat.reduceAdd, Nat.reduceLT, xr_lt, xr_eq, xr_toInt, xr_0, xi_add, xi_sub, xi_mul, xr_div, xr_rm, Int.toNat_natCast, bd_t, true_and, and_true, not_false_eq_true, ↓reduceIte, ilt_t, ilt_f, ile_t, x_c1i, x_c1r, x_c1n, and_self, Option.toList_some, Option.toList_none, List.cons_append, List.nil_append, xr_01, xr_00, ieq_f, ieq_t]
          refine wM_run_63 (by simp) rfl rfl (m_ready hR (by omega) (by omega) ?_)
          simp (disch := first | exact hR _ _ | exact x01a | exact x01b | (unfold x_r; omega) | assumption | omega) only [wM_run_66, wM_run_67, x_gi_int, x_ga_ref, x_ga_null, List.getElem?_cons_zero, List.getElem?_cons_succ, List.length_cons, List.length_nil, List.set_cons_zero, List.set_cons_succ, Nat.reduceAdd, Nat.reduceLT, xr_lt, xr_eq, xr_toInt, xr_0, xi_add, xi_sub, xi_mul, xr_div, xr_rm, Int.toNat_natCast, bd_t, true_and, and_true, not_false_eq_true, ↓reduceIte, ilt_t, ilt_f, ile_t, x_c1i, x_c1r, x_c1n, and_self, Option.toList_some, Option.toList_none, List.cons_append, List.nil_append, xr_01, xr_00, ieq_f, ieq_t]
          exact hQ
        · simp (disch := first | exact hR _ _ | exact x01a | exact x01b | (unfold x_r; omega) | assumption | omega) only [wM_run_16, wM_run_17, wM_run_18, wM_run_21, wM_run_22, wM_run_23, wM_run_24, wM_run_27, wM_run_28, wM_run_29, wM_run_31, wM_run_32, wM_run_34, wM_run_35, wM_run_38, wM_run_39, wM_run_42, wM_run_44, wM_run_45, wM_run_46, wM_run_49, wM_run_50, wM_run_53, wM_run_55, wM_run_56, wM_run_57, wM_run_60, wM_run_61, wM_run_66, wM_run_67, x_gi_int, x_ga_ref, x_ga_null, List.getElem?_cons_zero, List.getElem?_cons_succ, List.length_cons, List.length_nil, List.set_cons_zero, List.set_cons_succ, Nat.reduceAdd, Nat.reduceLT, xr_lt, xr_eq, xr_toInt, xr_0, xi_add, xi_sub, xi_mul, xr_div, xr_rm, Int.toNat_natCast, bd_t, true_and, and_true, not_false_eq_true, ↓reduceIte, ilt_t, ilt_f, ile_t, x_c1i, x_c1r, x_c1n, and_self, Option.toList_some, Option.toList_none, List.cons_append, List.nil_append, xr_01, xr_00, ieq_f, ieq_t]
          exact hQ
set_option maxHeartbeats 4000000 in
theorem m_signal {b : Int} (hG : GS S) (hb : x_r b) (hQ : Q (some (.int (xi (s_signal S b).1))) (putR w mo (s_signal S b).2)) : WP P 102 0 [some (.ref mo), some (.int (xi b)), none] [] (putR w mo S) Q := by
  have hW := hG.1
  have hR := hW.1
  have hn := s_now_in S
  simp (disch := first | exact hR _ _ | exact x01a | exact x01b | (unfold x_r; omega) | assumption | omega) only [wM_signal_0, x_gi_int, x_ga_ref, x_ga_null, List.getElem?_cons_zero, List.getElem?_cons_succ, List.length_cons, List.length_nil, List.set_cons_zero, List.set_cons_succ, Nat.reduceAdd, Nat.reduceLT, xr_lt, xr_eq, xr_toInt, xr_0, xi_add, xi_sub, xi_mul, xr_div, xr_rm, Int.toNat_natCast, bd_t, true_and, and_true, not_false_eq_true, ↓reduceIte, ilt_t, ilt_f, ile_t, x_c1i, x_c1r, x_c1n, and_self, Option.toList_some, Option.toList_none, List.cons_append, List.nil_append, xr_01, xr_00, ieq_f, ieq_t]
  refine wM_signal_1 (by simp) rfl rfl (m_now hR ?_)
  unfold s_signal at hQ
  split at hQ
  next c1 =>
    simp (disch := first | exact hR _ _ | exact x01a | exact x01b | (unfold x_r; omega) | assumption | omega) only [wM_signal_4, wM_signal_7, wM_signal_9, x_gi_int, x_ga_ref, x_ga_null, List.getElem?_cons_zero, List.getElem?_cons_succ, List.length_cons, List.length_nil, List.set_cons_zero, List.set_cons_succ, Nat.reduceAdd, Nat.reduceLT, xr_lt, xr_eq, xr_toInt, xr_0, xi_add, xi_sub, xi_mul, xr_div, xr_rm, Int.toNat_natCast, bd_t, true_and, and_true, not_false_eq_true, ↓reduceIte, ilt_t, ilt_f, ile_t, x_c1i, x_c1r, x_c1n, and_self, Option.toList_some, Option.toList_none, List.cons_append, List.nil_append, xr_01, xr_00, ieq_f, ieq_t]
    exact hQ
  next c1 =>
    have hh := s_having_in hW (by omega) b 4
    simp (disch := first | exact hR _ _ | exact x01a | exact x01b | (unfold x_r; omega) | assumption | omega) only [wM_signal_4, wM_signal_7, wM_signal_9, wM_signal_10, wM_signal_11, wM_signal_12, x_gi_int, x_ga_ref, x_ga_null, List.getElem?_cons_zero, List.getElem?_cons_succ, List.length_cons, List.length_nil, List.set_cons_zero, List.set_cons_succ, Nat.reduceAdd, Nat.reduceLT, xr_lt, xr_eq, xr_toInt, xr_0, xi_add, xi_sub, xi_mul, xr_div, xr_rm, Int.toNat_natCast, bd_t, true_and, and_true, not_false_eq_true, ↓reduceIte, ilt_t, ilt_f, ile_t, x_c1i, x_c1r, x_c1n, and_self, Option.toList_some, Option.toList_none, List.cons_append, List.nil_append, xr_01, xr_00, ieq_f, ieq_t]
    refine wM_signal_13 (by simp) rfl rfl (m_having hW (by omega) hb ⟨by omega, by omega⟩ ?_)
    split at hQ
    next c2 =>
      simp (disch := first | exact hR _ _ | exact x01a | exact x01b | (unfold x_r; omega) | assumption | omega) only [wM_signal_16, wM_signal_17, wM_signal_18, wM_signal_21, wM_signal_22, wM_signal_25, wM_signal_26, wM_signal_27, wM_signal_28, wM_signal_29, wM_signal_32, wM_signal_33, wM_signal_36, wM_signal_37, wM_signal_40, wM_signal_41, x_gi_int, x_ga_ref, x_ga_null, List.getElem?_cons_zero, List.getElem?_cons_succ, List.length_cons, List.length_nil, List.set_cons_zero, List.set_cons_succ, Nat.reduceAdd, Nat.reduceLT, xr_lt, xr_eq, xr_toInt, xr_0, xi_add, xi_sub, xi_mul, xr_div, xr_rm, Int.toNat_natCast, bd_t, true_and, and_true, not_false_eq_true, ↓reduceIte, ilt_t, ilt_f, ile_t, x_c1i, x_c1r, x_c1n, and_self, Option.toList_some, Option.toList_none, List.cons_append, List.nil_append, xr_01, xr_00, ieq_f, ieq_t]
      exact hQ
    next c2 =>
      have hu := hG.2.1.2.1 (s_having S b 4).toNat (by omega)
      have hr := hG.2.2.2.1 (s_having S b 4).toNat (by omega) (by omega)
      have ha := s_and_in (a := S 2 (s_having S b 4).toNat) (b := 2) (by omega)
      split at hQ
      next c3 =>
        simp (disch := first | exact hR _ _ | exact x01a | exact x01b | (unfold x_r; omega) | assumption | omega) only [wM_signal_16, wM_signal_17, wM_signal_18, wM_signal_21, wM_signal_22, wM_signal_25, wM_signal_26, wM_signal_27, wM_signal_28, wM_signal_29, wM_signal_32, wM_signal_33, wM_signal_36, wM_signal_37, wM_signal_40, wM_signal_41, x_gi_int, x_ga_ref, x_ga_null, List.getElem?_cons_zero, List.getElem?_cons_succ, List.length_cons, List.length_nil, List.set_cons_zero, List.set_cons_succ, Nat.reduceAdd, Nat.reduceLT, xr_lt, xr_eq, xr_toInt, xr_0, xi_add, xi_sub, xi_mul, xr_div, xr_rm, Int.toNat_natCast, bd_t, true_and, and_true, not_false_eq_true, ↓reduceIte, ilt_t, ilt_f, ile_t, x_c1i, x_c1r, x_c1n, and_self, Option.toList_some, Option.toList_none, List.cons_append, List.nil_append, xr_01, xr_00, ieq_f, ieq_t, xr_and]
        exact hQ
      next c3 =>
        have hbe := hG.2.2.2.2.2.1 (S 1 (s_having S b 4).toNat / 2).toNat (by omega)
        by_cases c4 : S 3 (s_having S b 4).toNat = 0
        · rw [if_pos c4] at hQ
          simp (disch := first | exact hR _ _ | exact x01a | exact x01b | (unfold x_r; omega) | assumption | omega) only [wM_signal_16, wM_signal_17, wM_signal_18, wM_signal_21, wM_signal_22, wM_signal_25, wM_signal_26, wM_signal_27, wM_signal_28, wM_signal_29, wM_signal_32, wM_signal_33, wM_signal_36, wM_signal_37, wM_signal_40, wM_signal_41, wM_signal_42, wM_signal_43, wM_signal_44, wM_signal_47, wM_signal_48, wM_signal_49, wM_signal_50, wM_signal_53, wM_signal_54, wM_signal_55, wM_signal_58, wM_signal_61, wM_signal_64, wM_signal_65, wM_signal_68, wM_signal_69, x_gi_int, x_ga_ref, x_ga_null, List.getElem?_cons_zero, List.getElem?_cons_succ, List.length_cons, List.length_nil, List.set_cons_zero, List.set_cons_succ, Nat.reduceAdd, Nat.reduceLT, xr_lt, xr_eq, xr_toInt, xr_0, xi_add, xi_sub, xi_mul, xr_div, xr_rm, Int.toNat_natCast, bd_t, true_and, and_true, not_false_eq_true, ↓reduceIte, ilt_t, ilt_f, ile_t, x_c1i, x_c1r, x_c1n, and_self, Option.toList_some, Option.toList_none, List.cons_append, List.nil_append, xr_01, xr_00, ieq_f, ieq_t, xr_and]
          refine wM_signal_70 (by simp) rfl rfl (m_ring hR (by omega) (by omega) (by omega) (by omega) hbe.1 ?_)
          simp (disch := first | exact hR _ _ | exact x01a | exact x01b | (unfold x_r; omega) | assumption | omega) only [wM_signal_73, wM_signal_74, x_gi_int, x_ga_ref, x_ga_null, List.getElem?_cons_zero, List.getElem?_cons_succ, List.length_cons, List.length_nil, List.set_cons_zero, List.set_cons_succ, Nat.reduceAdd, Nat.reduceLT, xr_lt, xr_eq, xr_toInt, xr_0, xi_add, xi_sub, xi_mul, xr_div, xr_rm, Int.toNat_natCast, bd_t, true_and, and_true, not_false_eq_true, ↓reduceIte, ilt_t, ilt_f, ile_t, x_c1i, x_c1r, x_c1n, and_self, Option.toList_some, Option.toList_none, List.cons_append, List.nil_append, xr_01, xr_00, ieq_f, ieq_t]
          exact hQ
        · rw [if_neg c4] at hQ
          simp (disch := first | exact hR _ _ | exact x01a | exact x01b | (unfold x_r; omega) | assumption | omega) only [wM_signal_16, wM_signal_17, wM_signal_18, wM_signal_21, wM_signal_22, wM_signal_25, wM_signal_26, wM_signal_27, wM_signal_28, wM_signal_29, wM_signal_32, wM_signal_33, wM_signal_36, wM_signal_37, wM_signal_40, wM_signal_41, wM_signal_42, wM_signal_43, wM_signal_44, wM_signal_47, wM_signal_48, wM_signal_49, wM_signal_50, wM_signal_53, wM_signal_54, wM_signal_55, wM_signal_58, wM_signal_61, wM_signal_64, wM_signal_65, wM_signal_68, wM_signal_69, x_gi_int, x_ga_ref, x_ga_null, List.getElem?_cons_zero, List.getElem?_cons_succ, List.length_cons, List.length_nil, List.set_cons_zero, List.set_cons_succ, Nat.reduceAdd, Nat.reduceLT, xr_lt, xr_eq, xr_toInt, xr_0, xi_add, xi_sub, xi_mul, xr_div, xr_rm, Int.toNat_natCast, bd_t, true_and, and_true, not_false_eq_true, ↓reduceIte, ilt_t, ilt_f, ile_t, x_c1i, x_c1r, x_c1n, and_self, Option.toList_some, Option.toList_none, List.cons_append, List.nil_append, xr_01, xr_00, ieq_f, ieq_t, xr_and]
          refine wM_signal_70 (by simp) rfl rfl (m_ring hR (by omega) (by omega) (by omega) (by omega) hbe.1 ?_)
          simp (disch := first | exact hR _ _ | exact x01a | exact x01b | (unfold x_r; omega) | assumption | omega) only [wM_signal_73, wM_signal_74, x_gi_int, x_ga_ref, x_ga_null, List.getElem?_cons_zero, List.getElem?_cons_succ, List.length_cons, List.length_nil, List.set_cons_zero, List.set_cons_succ, Nat.reduceAdd, Nat.reduceLT, xr_lt, xr_eq, xr_toInt, xr_0, xi_add, xi_sub, xi_mul, xr_div, xr_rm, Int.toNat_natCast, bd_t, true_and, and_true, not_false_eq_true, ↓reduceIte, ilt_t, ilt_f, ile_t, x_c1i, x_c1r, x_c1n, and_self, Option.toList_some, Option.toList_none, List.cons_append, List.nil_append, xr_01, xr_00, ieq_f, ieq_t]
          exact hQ
end RH
