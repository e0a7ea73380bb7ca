def s_having (S : xS) (a k : Int) : Int := if s_find S (s_now S).toNat a < 0 then -1 else if S 0 (s_find S (s_now S).toNat a).toNat < 0 then -1 else if k < 0 then s_find S (s_now S).toNat a else if S 0 (s_find S (s_now S).toNat a).toNat = k then s_find S (s_now S).toNat a else -1
def s_vacant (S : xS) (a : Int) : Int := if s_find S (s_now S).toNat a < 0 then -1 else if S 0 (s_find S (s_now S).toNat a).toNat < 0 then s_find S (s_now S).toNat a else -1
def s_freePoint (S : xS) (s : Int) : Int := if s_children S s = 0 then S 1 s.toNat else S 6 s.toNat
def firstL (S : xS) (how u : Int) : Nat → Int
  | 0 => -1
  | t + 1 => if S 10 t = how ∧ S 19 t = u ∧ (firstL S how u t < 0 ∨ S 18 t < S 18 (firstL S how u t).toNat) then (t : Int) else firstL S how u t
def s_first (S : xS) (how u : Int) : Int := firstL S how u 16
theorem firstL_in (S : xS) (how u : Int) : ∀ n, -1 ≤ firstL S how u n ∧ firstL S how u n < n := by
  intro n
  induction n with
  | zero => exact ⟨by unfold firstL; omega, by unfold firstL; omega⟩
  | succ n ih =>
    unfold firstL
    split <;> omega
def lfL (S : xS) (u e : Int) : Nat → Nat → Int
  | 0, _ => -1
  | n + 1, q => if s_there S 6 (4 * q) ∧ S 25 q = u ∧ S 26 q = e then 4 * (q : Int) else lfL S u e n (q + 1)
def s_leafOf (S : xS) (u e : Int) : Int := lfL S u e 32 0
def frL (S : xS) (l e : Int) : Nat → Nat → Int
  | 0, _ => -1
  | n + 1, s => if S 0 s = 7 ∧ S 7 s = l ∧ S 8 s = e then (s : Int) else frL S l e n (s + 1)
def s_frameOf (S : xS) (l e : Int) : Int := frL S l e 128 0
/-- what the arrays' numbers keep to, so that no index leaves its array -/
def WfS (S : xS) : Prop := RgS S ∧ (∀ t, t < 16 → S 11 t = -1 ∨ (0 ≤ S 11 t ∧ S 11 t ≤ 112)) ∧ (∀ s, s < 128 → 0 ≤ S 0 s → 0 ≤ S 1 s ∧ S 1 s < 128) ∧ (∀ s, s < 128 → S 0 s = 1 → S 1 s ≤ 112)
theorem s_find_in {S : xS} (hW : WfS S) {t : Nat} (ht : t < 16) (a : Int) : -1 ≤ s_find S t a ∧ s_find S t a < 128 := by
  obtain ⟨hR, h1, h2, h3⟩ := hW
  have g1 := h1 t ht
  unfold s_find
  split
  · omega
  · split
    · omega
    · split
      · omega
      · split
        · omega
        · split
          next hk =>
            have hb : (S 11 t + a / 16 - 1).toNat < 128 := by omega
            have g2 := h2 _ hb (by omega)
            have g3 := h3 _ hb hk
            omega
          · omega
section RB
variable {P : xP} {w : xH} {Q : Option Value → xH → Prop} {mo : Nat} {S : xS}
theorem m_findI {t a : Int} (hR : RgS S) (h0 : 0 ≤ t) (ht : t < 16) (ha : x_r a) (hT : S 11 t.toNat = -1 ∨ (0 ≤ S 11 t.toNat ∧ S 11 t.toNat ≤ 112)) (hQ : Q (some (.int (xi (s_find S t.toNat a)))) (putR w mo S)) : WP P 83 0 [some (.ref mo), some (.int (xi t)), some (.int (xi a)), none] [] (putR w mo S) Q := by
  have := m_find (P := P) (w := w) (mo := mo) (Q := Q) (t := t.toNat) (a := a) hR (by omega) ha hT hQ
  rwa [Int.toNat_of_nonneg h0] at this
set_option maxHeartbeats 4000000 in
theorem m_having {a k : Int} (hW : WfS S) (h0 : 0 ≤ s_now S) (ha : x_r a) (hk : x_r k) (hQ : Q (some (.int (xi (s_having S a k)))) (putR w mo S)) : WP P 82 0 [some (.ref mo), some (.int (xi a)), some (.int (xi k)), none] [] (putR w mo S) Q := by
  have hR := hW.1
  have hk1 := hk.1
  have hk2 := hk.2
  have hn := nowL_in S 16
  have hn2 : s_now S < 16 := hn.2
  have hf := s_find_in hW (t := (s_now S).toNat) (by omega) a
  simp (disch := first | exact hR _ _ | exact x01a | exact x01b | (unfold x_r; omega) | assumption | omega) only [wM_having_0, wM_having_1, x_gi_int, x_ga_ref, x_ga_null, List.getElem?_cons_zero, List.getElem?_cons_succ, List.length_cons, List.length_nil, List.set_cons_zero, List.set_cons_succ, Nat.reduceAdd, Nat.reduceLT, xr_lt, xr_eq, xr_toInt, xr_0, xi_add, xi_sub, xi_mul, xr_div, xr_rm, Int.toNat_natCast, bd_t, true_and, and_true, not_false_eq_true, ↓reduceIte, ilt_t, ilt_f, ile_t, x_c1i, x_c1r, x_c1n, and_self, Option.toList_some, Option.toList_none, List.cons_append, List.nil_append, xr_01, xr_00, ieq_f, ieq_t]
  refine wM_having_2 (by simp) rfl rfl (m_now hR ?_)
  simp (disch := first | exact hR _ _ | exact x01a | exact x01b | (unfold x_r; omega) | assumption | omega) only [wM_having_5, x_gi_int, x_ga_ref, x_ga_null, List.getElem?_cons_zero, List.getElem?_cons_succ, List.length_cons, List.length_nil, List.set_cons_zero, List.set_cons_succ, Nat.reduceAdd, Nat.reduceLT, xr_lt, xr_eq, xr_toInt, xr_0, xi_add, xi_sub, xi_mul, xr_div, xr_rm, Int.toNat_natCast, bd_t, true_and, and_true, not_false_eq_true, ↓reduceIte, ilt_t, ilt_f, ile_t, x_c1i, x_c1r, x_c1n, and_self, Option.toList_some, Option.toList_none, List.cons_append, List.nil_append, xr_01, xr_00, ieq_f, ieq_t]
  refine wM_having_6 (by simp) rfl rfl (m_findI hR h0 hn2 ha (hW.2.1 _ (by omega)) ?_)
  unfold s_having at hQ
  (repeat' split at hQ) <;> (simp (disch := first | exact hR _ _ | exact x01a | exact x01b | (unfold x_r; omega) | assumption | omega) only [wM_having_9, wM_having_10, wM_having_11, wM_having_14, wM_having_15, wM_having_18, wM_having_19, wM_having_20, wM_having_23, wM_having_24, wM_having_27, wM_having_28, wM_having_31, wM_having_32, wM_having_33, wM_having_34, wM_having_37, wM_having_38, wM_having_41, wM_having_42, x_gi_int, x_ga_ref, x_ga_null, List.getElem?_cons_zero, List.getElem?_cons_succ, List.length_cons, List.length_nil, List.set_cons_zero, List.set_cons_succ, Nat.reduceAdd, Nat.reduceLT, xr_lt, xr_eq, xr_toInt, xr_0, xi_add, xi_sub, xi_mul, xr_div, xr_rm, Int.toNat_natCast, bd_t, true_and, and_true, not_false_eq_true, ↓reduceIte, ilt_t, ilt_f, ile_t, x_c1i, x_c1r, x_c1n, and_self, Option.toList_some, Option.toList_none, List.cons_append, List.nil_append, xr_01, xr_00, ieq_f, ieq_t]; exact hQ)
set_option maxHeartbeats 4000000 in
theorem m_vacant {a : Int} (hW : WfS S) (h0 : 0 ≤ s_now S) (ha : x_r a) (hQ : Q (some (.int (xi (s_vacant S a)))) (putR w mo S)) : WP P 84 0 [some (.ref mo), some (.int (xi a)), none] [] (putR w mo S) Q := by
  have hR := hW.1
  have hn := nowL_in S 16
  have hn2 : s_now S < 16 := hn.2
  have hf := s_find_in hW (t := (s_now S).toNat) (by omega) a
  simp (disch := first | exact hR _ _ | exact x01a | exact x01b | (unfold x_r; omega) | assumption | omega) only [wM_vacant_0, wM_vacant_1, x_gi_int, x_ga_ref, x_ga_null, List.getElem?_cons_zero, List.getElem?_cons_succ, List.length_cons, List.length_nil, List.set_cons_zero, List.set_cons_succ, Nat.reduceAdd, Nat.reduceLT, xr_lt, xr_eq, xr_toInt, xr_0, xi_add, xi_sub, xi_mul, xr_div, xr_rm, Int.toNat_natCast, bd_t, true_and, and_true, not_false_eq_true, ↓reduceIte, ilt_t, ilt_f, ile_t, x_c1i, x_c1r, x_c1n, and_self, Option.toList_some, Option.toList_none, List.cons_append, List.nil_append, xr_01, xr_00, ieq_f, ieq_t]
  refine wM_vacant_2 (by simp) rfl rfl (m_now hR ?_)
  simp (disch := first | exact hR _ _ | exact x01a | exact x01b | (unfold x_r; omega) | assumption | omega) only [wM_vacant_5, x_gi_int, x_ga_ref, x_ga_null, List.getElem?_cons_zero, List.getElem?_cons_succ, List.length_cons, List.length_nil, List.set_cons_zero, List.set_cons_succ, Nat.reduceAdd, Nat.reduceLT, xr_lt, xr_eq, xr_toInt, xr_0, xi_add, xi_sub, xi_mul, xr_div, xr_rm, Int.toNat_natCast, bd_t, true_and, and_true, not_false_eq_true, ↓reduceIte, ilt_t, ilt_f, ile_t, x_c1i, x_c1r, x_c1n, and_self, Option.toList_some, Option.toList_none, List.cons_append, List.nil_append, xr_01, xr_00, ieq_f, ieq_t]
  refine wM_vacant_6 (by simp) rfl rfl (m_findI hR h0 hn2 ha (hW.2.1 _ (by omega)) ?_)
  unfold s_vacant at hQ
  (repeat' split at hQ) <;> (simp (disch := first | exact hR _ _ | exact x01a | exact x01b | (unfold x_r; omega) | assumption | omega) only [wM_vacant_9, wM_vacant_10, wM_vacant_11, wM_vacant_14, wM_vacant_15, wM_vacant_18, wM_vacant_19, wM_vacant_20, wM_vacant_23, wM_vacant_24, wM_vacant_27, wM_vacant_28, x_gi_int, x_ga_ref, x_ga_null, List.getElem?_cons_zero, List.getElem?_cons_succ, List.length_cons, List.length_nil, List.set_cons_zero, List.set_cons_succ, Nat.reduceAdd, Nat.reduceLT, xr_lt, xr_eq, xr_toInt, xr_0, xi_add, xi_sub, xi_mul, xr_div, xr_rm, Int.toNat_natCast, bd_t, true_and, and_true, not_false_eq_true, ↓reduceIte, ilt_t, ilt_f, ile_t, x_c1i, x_c1r, x_c1n, and_self, Option.toList_some, Option.toList_none, List.cons_append, List.nil_append, xr_01, xr_00, ieq_f, ieq_t]; exact hQ)
set_option maxHeartbeats 4000000 in
theorem m_children_loop {s : Int} (hR : RgS S) (hs : x_r s) (hQ : Q (some (.int (xi (s_children S s)))) (putR w mo S)) : ∀ (d k : Nat), k + d = 128 → WP P 87 4 [some (.ref mo), some (.int (xi s)), some (.int (xi (cntL (fun k => 0 ≤ S 0 k ∧ S 4 k = s) k))), some (.int (xi k))] [] (putR w mo S) Q := by
  intro d
  induction d with
  | zero =>
    intro k hk
    obtain rfl : k = 128 := by omega
    simp (disch := first | exact hR _ _ | exact x01a | exact x01b | (unfold x_r; omega) | assumption | omega) only [wM_children_4, wM_children_5, wM_children_8, wM_children_44, wM_children_45, x_gi_int, x_ga_ref, x_ga_null, List.getElem?_cons_zero, List.getElem?_cons_succ, List.length_cons, List.length_nil, List.set_cons_zero, List.set_cons_succ, Nat.reduceAdd, Nat.reduceLT, xr_lt, xr_eq, xr_toInt, xr_0, xi_add, xi_sub, xi_mul, xr_div, xr_rm, Int.toNat_natCast, bd_t, true_and, and_true, not_false_eq_true, ↓reduceIte, ilt_t, ilt_f, ile_t, x_c1i, x_c1r, x_c1n, and_self, Option.toList_some, Option.toList_none, List.cons_append, List.nil_append, xr_01, xr_00, ieq_f, ieq_t]
    exact hQ
  | succ d ih =>
    intro k hk
    have i1 := ih (k + 1) (by omega)
    have h1 := cntL_in (fun k => 0 ≤ S 0 k ∧ S 4 k = s) k
    rw [show cntL (fun k => 0 ≤ S 0 k ∧ S 4 k = s) (k + 1) = cntL (fun k => 0 ≤ S 0 k ∧ S 4 k = s) k + (if 0 ≤ S 0 k ∧ S 4 k = s then 1 else 0) from rfl] at i1
    rw [wM_children_4]
    by_cases c1 : S 0 k < 0
    · rw [if_neg (by omega)] at i1
      simp (disch := first | exact hR _ _ | exact x01a | exact x01b | (unfold x_r; omega) | assumption | omega) only [wM_children_5, wM_children_8, wM_children_11, wM_children_12, wM_children_13, wM_children_16, wM_children_17, wM_children_18, wM_children_21, wM_children_22, wM_children_25, wM_children_26, wM_children_27, wM_children_28, wM_children_31, wM_children_32, wM_children_35, wM_children_36, wM_children_37, wM_children_38, wM_children_41, x_gi_int, x_ga_ref, x_ga_null, List.getElem?_cons_zero, List.getElem?_cons_succ, List.length_cons, List.length_nil, List.set_cons_zero, List.set_cons_succ, Nat.reduceAdd, Nat.reduceLT, xr_lt, xr_eq, xr_toInt, xr_0, xi_add, xi_sub, xi_mul, xr_div, xr_rm, Int.toNat_natCast, bd_t, true_and, and_true, not_false_eq_true, ↓reduceIte, ilt_t, ilt_f, ile_t, x_c1i, x_c1r, x_c1n, and_self, Option.toList_some, Option.toList_none, List.cons_append, List.nil_append, xr_01, xr_00, ieq_f, ieq_t]
      exact i1
    · by_cases c2 : S 4 k = s
      · rw [if_pos ⟨by omega, c2⟩] at i1
        simp (disch := first | exact hR _ _ | exact x01a | exact x01b | (unfold x_r; omega) | assumption | omega) only [wM_children_5, wM_children_8, wM_children_11, wM_children_12, wM_children_13, wM_children_16, wM_children_17, wM_children_18, wM_children_21, wM_children_22, wM_children_25, wM_children_26, wM_children_27, wM_children_28, wM_children_31, wM_children_32, wM_children_35, wM_children_36, wM_children_37, wM_children_38, wM_children_41, x_gi_int, x_ga_ref, x_ga_null, List.getElem?_cons_zero, List.getElem?_cons_succ, List.length_cons, List.length_nil, List.set_cons_zero, List.set_cons_succ, Nat.reduceAdd, Nat.reduceLT, xr_lt, xr_eq, xr_toInt, xr_0, xi_add, xi_sub, xi_mul, xr_div, xr_rm, Int.toNat_natCast, bd_t, true_and, and_true, not_false_eq_true, ↓reduceIte, ilt_t, ilt_f, ile_t, x_c1i, x_c1r, x_c1n, and_self, Option.toList_some, Option.toList_none, List.cons_append, List.nil_append, xr_01, xr_00, ieq_f, ieq_t]
        exact i1
      · rw [if_neg (by omega)] at i1
        simp (disch := first | exact hR _ _ | exact x01a | exact x01b | (unfold x_r; omega) | assumption | omega) only [wM_children_5, wM_children_8, wM_children_11, wM_children_12, wM_children_13, wM_children_16, wM_children_17, wM_children_18, wM_children_21, wM_children_22, wM_children_25, wM_children_26, wM_children_27, wM_children_28, wM_children_31, wM_children_32, wM_children_35, wM_children_36, wM_children_37, wM_children_38, wM_children_41, x_gi_int, x_ga_ref, x_ga_null, List.getElem?_cons_zero, List.getElem?_cons_succ, List.length_cons, List.length_nil, List.set_cons_zero, List.set_cons_succ, Nat.reduceAdd, Nat.reduceLT, xr_lt, xr_eq, xr_toInt, xr_0, xi_add, xi_sub, xi_mul, xr_div, xr_rm, Int.toNat_natCast, bd_t, true_and, and_true, not_false_eq_true, ↓reduceIte, ilt_t, ilt_f, ile_t, x_c1i, x_c1r, x_c1n, and_self, Option.toList_some, Option.toList_none, List.cons_append, List.nil_append, xr_01, xr_00, ieq_f, ieq_t]
        exact i1
theorem m_children {s : Int} (hR : RgS S) (hs : x_r s) (hQ : Q (some (.int (xi (s_children S s)))) (putR w mo S)) : WP P 87 0 [some (.ref mo), some (.int (xi s)), none, none] [] (putR w mo S) Q := by
  simp (disch := first | exact hR _ _ | exact x01a | exact x01b | (unfold x_r; omega) | assumption | omega) only [wM_children_0, wM_children_1, wM_children_2, wM_children_3, x_gi_int, x_ga_ref, x_ga_null, List.getElem?_cons_zero, List.getElem?_cons_succ, List.length_cons, List.length_nil, List.set_cons_zero, List.set_cons_succ, Nat.reduceAdd, Nat.reduceLT, xr_lt, xr_eq, xr_toInt, xr_0, xi_add, xi_sub, xi_mul, xr_div, xr_rm, Int.toNat_natCast, bd_t, true_and, and_true, not_false_eq_true, ↓reduceIte, ilt_t, ilt_f, ile_t, x_c1i, x_c1r, x_c1n, and_self, Option.toList_some, Option.toList_none, List.cons_append, List.nil_append, xr_01, xr_00, ieq_f, ieq_t]
  exact m_children_loop hR hs hQ 128 0 rfl
set_option maxHeartbeats 4000000 in
theorem m_hold_loop {k u : Int} (hR : RgS S) (hk : x_r k) (hu : x_r u) (hQ : Q (some (.int (xi (s_holders S k u)))) (putR w mo S)) : ∀ (d i : Nat), i + d = 128 → WP P 93 5 [some (.ref mo), some (.int (xi k)), some (.int (xi u)), some (.int (xi (cntL (fun s => S 0 s = k ∧ S 1 s = u) i))), some (.int (xi i))] [] (putR w mo S) Q := by
  intro d
  have hk1 := hk.1
  have hk2 := hk.2
  induction d with
  | zero =>
    intro i hi
    obtain rfl : i = 128 := by omega
    unfold s_holders s_hold at hQ
    by_cases c : k = 0
    · rw [if_pos c] at hQ
      simp (disch := first | exact hR _ _ | exact x01a | exact x01b | (unfold x_r; omega) | assumption | omega) only [wM_holders_5, wM_holders_7, wM_holders_10, wM_holders_49, wM_holders_50, wM_holders_53, wM_holders_54, wM_holders_57, wM_holders_58, x_gi_int, x_ga_ref, x_ga_null, List.getElem?_cons_zero, List.getElem?_cons_succ, List.length_cons, List.length_nil, List.set_cons_zero, List.set_cons_succ, Nat.reduceAdd, Nat.reduceLT, xr_lt, xr_eq, xr_toInt, xr_0, xi_add, xi_sub, xi_mul, xr_div, xr_rm, Int.toNat_natCast, bd_t, true_and, and_true, not_false_eq_true, ↓reduceIte, ilt_t, ilt_f, ile_t, x_c1i, x_c1r, x_c1n, and_self, Option.toList_some, Option.toList_none, List.cons_append, List.nil_append, xr_01, xr_00, ieq_f, ieq_t]
      exact hQ
    · rw [if_neg c] at hQ
      simp (disch := first | exact hR _ _ | exact x01a | exact x01b | (unfold x_r; omega) | assumption | omega) only [wM_holders_5, wM_holders_7, wM_holders_10, wM_holders_49, wM_holders_50, wM_holders_53, wM_holders_54, wM_holders_57, wM_holders_58, x_gi_int, x_ga_ref, x_ga_null, List.getElem?_cons_zero, List.getElem?_cons_succ, List.length_cons, List.length_nil, List.set_cons_zero, List.set_cons_succ, Nat.reduceAdd, Nat.reduceLT, xr_lt, xr_eq, xr_toInt, xr_0, xi_add, xi_sub, xi_mul, xr_div, xr_rm, Int.toNat_natCast, bd_t, true_and, and_true, not_false_eq_true, ↓reduceIte, ilt_t, ilt_f, ile_t, x_c1i, x_c1r, x_c1n, and_self, Option.toList_some, Option.toList_none, List.cons_append, List.nil_append, xr_01, xr_00, ieq_f, ieq_t]
      exact hQ
  | succ d ih =>
    intro i hi
    have i1 := ih (i + 1) (by omega)
    have h1 := cntL_in (fun s => S 0 s = k ∧ S 1 s = u) i
    rw [show cntL (fun s => S 0 s = k ∧ S 1 s = u) (i + 1) = cntL (fun s => S 0 s = k ∧ S 1 s = u) i + (if S 0 i = k ∧ S 1 i = u then 1 else 0) from rfl] at i1
    by_cases c1 : S 0 i = k
    · by_cases c2 : S 1 i = u
      · rw [if_pos ⟨c1, c2⟩] at i1
        rw [wM_holders_5]
        simp (disch := first | exact hR _ _ | exact x01a | exact x01b | (unfold x_r; omega) | assumption | omega) only [wM_holders_7, wM_holders_10, wM_holders_13, wM_holders_14, wM_holders_15, wM_holders_18, wM_holders_20, wM_holders_21, wM_holders_22, wM_holders_25, wM_holders_26, wM_holders_29, wM_holders_31, wM_holders_32, wM_holders_33, wM_holders_36, wM_holders_37, wM_holders_40, wM_holders_41, wM_holders_42, wM_holders_43, wM_holders_46, x_gi_int, x_ga_ref, x_ga_null, List.getElem?_cons_zero, List.getElem?_cons_succ, List.length_cons, List.length_nil, List.set_cons_zero, List.set_cons_succ, Nat.reduceAdd, Nat.reduceLT, xr_lt, xr_eq, xr_toInt, xr_0, xi_add, xi_sub, xi_mul, xr_div, xr_rm, Int.toNat_natCast, bd_t, true_and, and_true, not_false_eq_true, ↓reduceIte, ilt_t, ilt_f, ile_t, x_c1i, x_c1r, x_c1n, and_self, Option.toList_some, Option.toList_none, List.cons_append, List.nil_append, xr_01, xr_00, ieq_f, ieq_t]
        exact i1
      · rw [if_neg (fun q => c2 q.2)] at i1
        rw [wM_holders_5]
        simp (disch := first | exact hR _ _ | exact x01a | exact x01b | (unfold x_r; omega) | assumption | omega) only [wM_holders_7, wM_holders_10, wM_holders_13, wM_holders_14, wM_holders_15, wM_holders_18, wM_holders_20, wM_holders_21, wM_holders_22, wM_holders_25, wM_holders_26, wM_holders_29, wM_holders_31, wM_holders_32, wM_holders_33, wM_holders_36, wM_holders_37, wM_holders_40, wM_holders_41, wM_holders_42, wM_holders_43, wM_holders_46, x_gi_int, x_ga_ref, x_ga_null, List.getElem?_cons_zero, List.getElem?_cons_succ, List.length_cons, List.length_nil, List.set_cons_zero, List.set_cons_succ, Nat.reduceAdd, Nat.reduceLT, xr_lt, xr_eq, xr_toInt, xr_0, xi_add, xi_sub, xi_mul, xr_div, xr_rm, Int.toNat_natCast, bd_t, true_and, and_true, not_false_eq_true, ↓reduceIte, ilt_t, ilt_f, ile_t, x_c1i, x_c1r, x_c1n, and_self, Option.toList_some, Option.toList_none, List.cons_append, List.nil_append, xr_01, xr_00, ieq_f, ieq_t]
        exact i1
    · rw [if_neg (fun q => c1 q.1)] at i1
      rw [wM_holders_5]
      simp (disch := first | exact hR _ _ | exact x01a | exact x01b | (unfold x_r; omega) | assumption | omega) only [wM_holders_7, wM_holders_10, wM_holders_13, wM_holders_14, wM_holders_15, wM_holders_18, wM_holders_20, wM_holders_21, wM_holders_22, wM_holders_25, wM_holders_26, wM_holders_29, wM_holders_31, wM_holders_32, wM_holders_33, wM_holders_36, wM_holders_37, wM_holders_40, wM_holders_41, wM_holders_42, wM_holders_43, wM_holders_46, x_gi_int, x_ga_ref, x_ga_null, List.getElem?_cons_zero, List.getElem?_cons_succ, List.length_cons, List.length_nil, List.set_cons_zero, List.set_cons_succ, Nat.reduceAdd, Nat.reduceLT, xr_lt, xr_eq, xr_toInt, xr_0, xi_add, xi_sub, xi_mul, xr_div, xr_rm, Int.toNat_natCast, bd_t, true_and, and_true, not_false_eq_true, ↓reduceIte, ilt_t, ilt_f, ile_t, x_c1i, x_c1r, x_c1n, and_self, Option.toList_some, Option.toList_none, List.cons_append, List.nil_append, xr_01, xr_00, ieq_f, ieq_t]
      exact i1
theorem m_holders {k u : Int} (hR : RgS S) (hk : x_r k) (hu : x_r u) (hQ : Q (some (.int (xi (s_holders S k u)))) (putR w mo S)) : WP P 93 0 [some (.ref mo), some (.int (xi k)), some (.int (xi u)), none, none] [] (putR w mo S) Q := by
  simp (disch := first | exact hR _ _ | exact x01a | exact x01b | (unfold x_r; omega) | assumption | omega) only [wM_holders_0, wM_holders_1, wM_holders_2, wM_holders_3, x_gi_int, x_ga_ref, x_ga_null, List.getElem?_cons_zero, List.getElem?_cons_succ, List.length_cons, List.length_nil, List.set_cons_zero, List.set_cons_succ, Nat.reduceAdd, Nat.reduceLT, xr_lt, xr_eq, xr_toInt, xr_0, xi_add, xi_sub, xi_mul, xr_div, xr_rm, Int.toNat_natCast, bd_t, true_and, and_true, not_false_eq_true, ↓reduceIte, ilt_t, ilt_f, ile_t, x_c1i, x_c1r, x_c1n, and_self, Option.toList_some, Option.toList_none, List.cons_append, List.nil_append, xr_01, xr_00, ieq_f, ieq_t]
  exact m_hold_loop hR hk hu hQ 128 0 rfl
theorem s_holders_in (S : xS) (k u : Int) : 0 ≤ s_holders S k u ∧ s_holders S k u ≤ 128 := by
  unfold s_holders s_hold
  split
  · omega
  · exact cntL_in _ 128
set_option maxHeartbeats 4000000 in
theorem m_there {k u : Int} (hR : RgS S) (hk : x_r k) (hu : x_r u) (hQ : Q (some (.int (xi (if s_there S k u then 1 else 0)))) (putR w mo S)) : WP P 108 0 [some (.ref mo), some (.int (xi k)), some (.int (xi u))] [] (putR w mo S) Q := by
  have hu1 := hu.1
  have hu2 := hu.2
  have hh := s_holders_in S k u
  by_cases c1 : u < 0
  · rw [if_neg (by omega)] at hQ
    simp (disch := first | exact hR _ _ | exact x01a | exact x01b | (unfold x_r; omega) | assumption | omega) only [wM_there_0, wM_there_1, wM_there_4, wM_there_5, wM_there_8, wM_there_11, wM_there_12, wM_there_13, wM_there_17, wM_there_20, wM_there_21, wM_there_24, wM_there_25, x_gi_int, x_ga_ref, x_ga_null, List.getElem?_cons_zero, List.getElem?_cons_succ, List.length_cons, List.length_nil, List.set_cons_zero, List.set_cons_succ, Nat.reduceAdd, Nat.reduceLT, xr_lt, xr_eq, xr_toInt, xr_0, xi_add, xi_sub, xi_mul, xr_div, xr_rm, Int.toNat_natCast, bd_t, true_and, and_true, not_false_eq_true, ↓reduceIte, ilt_t, ilt_f, ile_t, x_c1i, x_c1r, x_c1n, and_self, Option.toList_some, Option.toList_none, List.cons_append, List.nil_append, xr_01, xr_00, ieq_f, ieq_t]
    exact hQ
  · by_cases c2 : u < 128
    · simp (disch := first | exact hR _ _ | exact x01a | exact x01b | (unfold x_r; omega) | assumption | omega) only [wM_there_0, wM_there_1, wM_there_4, wM_there_5, wM_there_8, wM_there_11, wM_there_12, wM_there_13, x_gi_int, x_ga_ref, x_ga_null, List.getElem?_cons_zero, List.getElem?_cons_succ, List.length_cons, List.length_nil, List.set_cons_zero, List.set_cons_succ, Nat.reduceAdd, Nat.reduceLT, xr_lt, xr_eq, xr_toInt, xr_0, xi_add, xi_sub, xi_mul, xr_div, xr_rm, Int.toNat_natCast, bd_t, true_and, and_true, not_false_eq_true, ↓reduceIte, ilt_t, ilt_f, ile_t, x_c1i, x_c1r, x_c1n, and_self, Option.toList_some, Option.toList_none, List.cons_append, List.nil_append, xr_01, xr_00, ieq_f, ieq_t]
      refine wM_there_14 (by simp) rfl rfl (m_holders hR hk hu ?_)
      by_cases c3 : 0 < s_holders S k u
      · rw [if_pos ⟨by omega, c2, c3⟩] at hQ
        simp (disch := first | exact hR _ _ | exact x01a | exact x01b | (unfold x_r; omega) | assumption | omega) only [wM_there_17, wM_there_20, wM_there_21, wM_there_24, wM_there_25, x_gi_int, x_ga_ref, x_ga_null, List.getElem?_cons_zero, List.getElem?_cons_succ, List.length_cons, List.length_nil, List.set_cons_zero, List.set_cons_succ, Nat.reduceAdd, Nat.reduceLT, xr_lt, xr_eq, xr_toInt, xr_0, xi_add, xi_sub, xi_mul, xr_div, xr_rm, Int.toNat_natCast, bd_t, true_and, and_true, not_false_eq_true, ↓reduceIte, ilt_t, ilt_f, ile_t, x_c1i, x_c1r, x_c1n, and_self, Option.toList_some, Option.toList_none, List.cons_append, List.nil_append, xr_01, xr_00, ieq_f, ieq_t]
        exact hQ
      · rw [if_neg (fun q => c3 q.2.2)] at hQ
        simp (disch := first | exact hR _ _ | exact x01a | exact x01b | (unfold x_r; omega) | assumption | omega) only [wM_there_17, wM_there_20, wM_there_21, wM_there_24, wM_there_25, x_gi_int, x_ga_ref, x_ga_null, List.getElem?_cons_zero, List.getElem?_cons_succ, List.length_cons, List.length_nil, List.set_cons_zero, List.set_cons_succ, Nat.reduceAdd, Nat.reduceLT, xr_lt, xr_eq, xr_toInt, xr_0, xi_add, xi_sub, xi_mul, xr_div, xr_rm, Int.toNat_natCast, bd_t, true_and, and_true, not_false_eq_true, ↓reduceIte, ilt_t, ilt_f, ile_t, x_c1i, x_c1r, x_c1n, and_self, Option.toList_some, Option.toList_none, List.cons_append, List.nil_append, xr_01, xr_00, ieq_f, ieq_t]
        exact hQ
    · rw [if_neg (by omega)] at hQ
      simp (disch := first | exact hR _ _ | exact x01a | exact x01b | (unfold x_r; omega) | assumption | omega) only [wM_there_0, wM_there_1, wM_there_4, wM_there_5, wM_there_8, wM_there_11, wM_there_12, wM_there_13, wM_there_17, wM_there_20, wM_there_21, wM_there_24, wM_there_25, x_gi_int, x_ga_ref, x_ga_null, List.getElem?_cons_zero, List.getElem?_cons_succ, List.length_cons, List.length_nil, List.set_cons_zero, List.set_cons_succ, Nat.reduceAdd, Nat.reduceLT, xr_lt, xr_eq, xr_toInt, xr_0, xi_add, xi_sub, xi_mul, xr_div, xr_rm, Int.toNat_natCast, bd_t, true_and, and_true, not_false_eq_true, ↓reduceIte, ilt_t, ilt_f, ile_t, x_c1i, x_c1r, x_c1n, and_self, Option.toList_some, Option.toList_none, List.cons_append, List.nil_append, xr_01, xr_00, ieq_f, ieq_t]
      exact hQ
set_option maxHeartbeats 4000000 in
theorem m_freePoint {s : Int} (hR : RgS S) (h0 : 0 ≤ s) (hs : s < 128) (hQ : Q (some (.int (xi (s_freePoint S s)))) (putR w mo S)) : WP P 86 0 [some (.ref mo), some (.int (xi s))] [] (putR w mo S) Q := by
  have hc := cntL_in (fun k => 0 ≤ S 0 k ∧ S 4 k = s) 128
  simp (disch := first | exact hR _ _ | exact x01a | exact x01b | (unfold x_r; omega) | assumption | omega) only [wM_freePoint_0, wM_freePoint_1, x_gi_int, x_ga_ref, x_ga_null, List.getElem?_cons_zero, List.getElem?_cons_succ, List.length_cons, List.length_nil, List.set_cons_zero, List.set_cons_succ, Nat.reduceAdd, Nat.reduceLT, xr_lt, xr_eq, xr_toInt, xr_0, xi_add, xi_sub, xi_mul, xr_div, xr_rm, Int.toNat_natCast, bd_t, true_and, and_true, not_false_eq_true, ↓reduceIte, ilt_t, ilt_f, ile_t, x_c1i, x_c1r, x_c1n, and_self, Option.toList_some, Option.toList_none, List.cons_append, List.nil_append, xr_01, xr_00, ieq_f, ieq_t]
  refine wM_freePoint_2 (by simp) rfl rfl (m_children hR ⟨by omega, by omega⟩ ?_)
  unfold s_freePoint at hQ
  have hc : 0 ≤ s_children S s ∧ s_children S s ≤ 128 := hc
  split at hQ
  · simp (disch := first | exact hR _ _ | exact x01a | exact x01b | (unfold x_r; omega) | assumption | omega) only [wM_freePoint_5, wM_freePoint_8, wM_freePoint_9, wM_freePoint_12, wM_freePoint_13, wM_freePoint_14, wM_freePoint_17, wM_freePoint_18, wM_freePoint_21, wM_freePoint_22, wM_freePoint_23, x_gi_int, x_ga_ref, x_ga_null, List.getElem?_cons_zero, List.getElem?_cons_succ, List.length_cons, List.length_nil, List.set_cons_zero, List.set_cons_succ, Nat.reduceAdd, Nat.reduceLT, xr_lt, xr_eq, xr_toInt, xr_0, xi_add, xi_sub, xi_mul, xr_div, xr_rm, Int.toNat_natCast, bd_t, true_and, and_true, not_false_eq_true, ↓reduceIte, ilt_t, ilt_f, ile_t, x_c1i, x_c1r, x_c1n, and_self, Option.toList_some, Option.toList_none, List.cons_append, List.nil_append, xr_01, xr_00, ieq_f, ieq_t]
    exact hQ
  · simp (disch := first | exact hR _ _ | exact x01a | exact x01b | (unfold x_r; omega) | assumption | omega) only [wM_freePoint_5, wM_freePoint_8, wM_freePoint_9, wM_freePoint_12, wM_freePoint_13, wM_freePoint_14, wM_freePoint_17, wM_freePoint_18, wM_freePoint_21, wM_freePoint_22, wM_freePoint_23, x_gi_int, x_ga_ref, x_ga_null, List.getElem?_cons_zero, List.getElem?_cons_succ, List.length_cons, List.length_nil, List.set_cons_zero, List.set_cons_succ, Nat.reduceAdd, Nat.reduceLT, xr_lt, xr_eq, xr_toInt, xr_0, xi_add, xi_sub, xi_mul, xr_div, xr_rm, Int.toNat_natCast, bd_t, true_and, and_true, not_false_eq_true, ↓reduceIte, ilt_t, ilt_f, ile_t, x_c1i, x_c1r, x_c1n, and_self, Option.toList_some, Option.toList_none, List.cons_append, List.nil_append, xr_01, xr_00, ieq_f, ieq_t]
    exact hQ
set_option maxHeartbeats 4000000 in
theorem m_first_loop {how u : Int} (hR : RgS S) (hh : x_r how) (hu : x_r u) (hQ : Q (some (.int (xi (s_first S how u)))) (putR w mo S)) : ∀ (d k : Nat), k + d = 16 → WP P 98 5 [some (.ref mo), some (.int (xi how)), some (.int (xi u)), some (.int (xi (firstL S how u k))), some (.int (xi k))] [] (putR w mo S) Q := by
  intro d
  induction d with
  | zero =>
    intro k hk
    obtain rfl : k = 16 := by omega
    simp (disch := first | exact hR _ _ | exact x01a | exact x01b | (unfold x_r; omega) | assumption | omega) only [wM_first_5, wM_first_7, wM_first_9, wM_first_63, wM_first_64, x_gi_int, x_ga_ref, x_ga_null, List.getElem?_cons_zero, List.getElem?_cons_succ, List.length_cons, List.length_nil, List.set_cons_zero, List.set_cons_succ, Nat.reduceAdd, Nat.reduceLT, xr_lt, xr_eq, xr_toInt, xr_0, xi_add, xi_sub, xi_mul, xr_div, xr_rm, Int.toNat_natCast, bd_t, true_and, and_true, not_false_eq_true, ↓reduceIte, ilt_t, ilt_f, ile_t, x_c1i, x_c1r, x_c1n, and_self, Option.toList_some, Option.toList_none, List.cons_append, List.nil_append, xr_01, xr_00, ieq_f, ieq_t]
    exact hQ
  | succ d ih =>
    intro k hk
    have i1 := ih (k + 1) (by omega)
    have h1 := firstL_in S how u k
    rw [show firstL S how u (k + 1) = if S 10 k = how ∧ S 19 k = u ∧ (firstL S how u k < 0 ∨ S 18 k < S 18 (firstL S how u k).toNat) then (k : Int) else firstL S how u k from rfl] at i1
    rw [wM_first_5]
    by_cases c1 : S 10 k = how
    · by_cases c2 : S 19 k = u
      · by_cases c3 : firstL S how u k < 0
        · rw [if_pos ⟨c1, c2, Or.inl c3⟩] at i1
          simp (disch := first | exact hR _ _ | exact x01a | exact x01b | (unfold x_r; omega) | assumption | omega) only [wM_first_7, wM_first_9, wM_first_12, wM_first_13, wM_first_16, wM_first_18, wM_first_19, wM_first_20, wM_first_23, wM_first_24, wM_first_27, wM_first_29, wM_first_30, wM_first_31, wM_first_34, wM_first_35, wM_first_38, wM_first_39, wM_first_42, wM_first_44, wM_first_45, wM_first_46, wM_first_49, wM_first_50, wM_first_51, wM_first_54, wM_first_56, wM_first_57, wM_first_60, x_gi_int, x_ga_ref, x_ga_null, List.getElem?_cons_zero, List.getElem?_cons_succ, List.length_cons, List.length_nil, List.set_cons_zero, List.set_cons_succ, Nat.reduceAdd, Nat.reduceLT, xr_lt, xr_eq, xr_toInt, xr_0, xi_add, xi_sub, xi_mul, xr_div, xr_rm, Int.toNat_natCast, bd_t, true_and, and_true, not_false_eq_true, ↓reduceIte, ilt_t, ilt_f, ile_t, x_c1i, x_c1r, x_c1n, and_self, Option.toList_some, Option.toList_none, List.cons_append, List.nil_append, xr_01, xr_00, ieq_f, ieq_t]
          exact i1
        · by_cases c4 : S 18 k < S 18 (firstL S how u k).toNat
          · rw [if_pos ⟨c1, c2, Or.inr c4⟩] at i1
            simp (disch := first | exact hR _ _ | exact x01a | exact x01b | (unfold x_r; omega) | assumption | omega) only [wM_first_7, wM_first_9, wM_first_12, wM_first_13, wM_first_16, wM_first_18, wM_first_19, wM_first_20, wM_first_23, wM_first_24, wM_first_27, wM_first_29, wM_first_30, wM_first_31, wM_first_34, wM_first_35, wM_first_38, wM_first_39, wM_first_42, wM_first_44, wM_first_45, wM_first_46, wM_first_49, wM_first_50, wM_first_51, wM_first_54, wM_first_56, wM_first_57, wM_first_60, x_gi_int, x_ga_ref, x_ga_null, List.getElem?_cons_zero, List.getElem?_cons_succ, List.length_cons, List.length_nil, List.set_cons_zero, List.set_cons_succ, Nat.reduceAdd, Nat.reduceLT, xr_lt, xr_eq, xr_toInt, xr_0, xi_add, xi_sub, xi_mul, xr_div, xr_rm, Int.toNat_natCast, bd_t, true_and, and_true, not_false_eq_true, ↓reduceIte, ilt_t, ilt_f, ile_t, x_c1i, x_c1r, x_c1n, and_self, Option.toList_some, Option.toList_none, List.cons_append, List.nil_append, xr_01, xr_00, ieq_f, ieq_t]
            exact i1
          · rw [if_neg (fun q => q.2.2.elim c3 c4)] at i1
            simp (disch := first | exact hR _ _ | exact x01a | exact x01b | (unfold x_r; omega) | assumption | omega) only [wM_first_7, wM_first_9, wM_first_12, wM_first_13, wM_first_16, wM_first_18, wM_first_19, wM_first_20, wM_first_23, wM_first_24, wM_first_27, wM_first_29, wM_first_30, wM_first_31, wM_first_34, wM_first_35, wM_first_38, wM_first_39, wM_first_42, wM_first_44, wM_first_45, wM_first_46, wM_first_49, wM_first_50, wM_first_51, wM_first_54, wM_first_56, wM_first_57, wM_first_60, x_gi_int, x_ga_ref, x_ga_null, List.getElem?_cons_zero, List.getElem?_cons_succ, List.length_cons, List.length_nil, List.set_cons_zero, List.set_cons_succ, Nat.reduceAdd, Nat.reduceLT, xr_lt, xr_eq, xr_toInt, xr_0, xi_add, xi_sub, xi_mul, xr_div, xr_rm, Int.toNat_natCast, bd_t, true_and, and_true, not_false_eq_true, ↓reduceIte, ilt_t, ilt_f, ile_t, x_c1i, x_c1r, x_c1n, and_self, Option.toList_some, Option.toList_none, List.cons_append, List.nil_append, xr_01, xr_00, ieq_f, ieq_t]
            exact i1
      · rw [if_neg (fun q => c2 q.2.1)] at i1
        simp (disch := first | exact hR _ _ | exact x01a | exact x01b | (unfold x_r; omega) | assumption | omega) only [wM_first_7, wM_first_9, wM_first_12, wM_first_13, wM_first_16, wM_first_18, wM_first_19, wM_first_20, wM_first_23, wM_first_24, wM_first_27, wM_first_29, wM_first_30, wM_first_31, wM_first_34, wM_first_35, wM_first_38, wM_first_39, wM_first_42, wM_first_44, wM_first_45, wM_first_46, wM_first_49, wM_first_50, wM_first_51, wM_first_54, wM_first_56, wM_first_57, wM_first_60, x_gi_int, x_ga_ref, x_ga_null, List.getElem?_cons_zero, List.getElem?_cons_succ, List.length_cons, List.length_nil, List.set_cons_zero, List.set_cons_succ, Nat.reduceAdd, Nat.reduceLT, xr_lt, xr_eq, xr_toInt, xr_0, xi_add, xi_sub, xi_mul, xr_div, xr_rm, Int.toNat_natCast, bd_t, true_and, and_true, not_false_eq_true, ↓reduceIte, ilt_t, ilt_f, ile_t, x_c1i, x_c1r, x_c1n, and_self, Option.toList_some, Option.toList_none, List.cons_append, List.nil_append, xr_01, xr_00, ieq_f, ieq_t]
        exact i1
    · rw [if_neg (fun q => c1 q.1)] at i1
      simp (disch := first | exact hR _ _ | exact x01a | exact x01b | (unfold x_r; omega) | assumption | omega) only [wM_first_7, wM_first_9, wM_first_12, wM_first_13, wM_first_16, wM_first_18, wM_first_19, wM_first_20, wM_first_23, wM_first_24, wM_first_27, wM_first_29, wM_first_30, wM_first_31, wM_first_34, wM_first_35, wM_first_38, wM_first_39, wM_first_42, wM_first_44, wM_first_45, wM_first_46, wM_first_49, wM_first_50, wM_first_51, wM_first_54, wM_first_56, wM_first_57, wM_first_60, x_gi_int, x_ga_ref, x_ga_null, List.getElem?_cons_zero, List.getElem?_cons_succ, List.length_cons, List.length_nil, List.set_cons_zero, List.set_cons_succ, Nat.reduceAdd, Nat.reduceLT, xr_lt, xr_eq, xr_toInt, xr_0, xi_add, xi_sub, xi_mul, xr_div, xr_rm, Int.toNat_natCast, bd_t, true_and, and_true, not_false_eq_true, ↓reduceIte, ilt_t, ilt_f, ile_t, x_c1i, x_c1r, x_c1n, and_self, Option.toList_some, Option.toList_none, List.cons_append, List.nil_append, xr_01, xr_00, ieq_f, ieq_t]
      exact i1
theorem m_first {how u : Int} (hR : RgS S) (hh : x_r how) (hu : x_r u) (hQ : Q (some (.int (xi (s_first S how u)))) (putR w mo S)) : WP P 98 0 [some (.ref mo), some (.int (xi how)), some (.int (xi u)), none, none] [] (putR w mo S) Q := by
  simp (disch := first | exact hR _ _ | exact x01a | exact x01b | (unfold x_r; omega) | assumption | omega) only [wM_first_0, wM_first_1, wM_first_2, wM_first_3, x_gi_int, x_ga_ref, x_ga_null, List.getElem?_cons_zero, List.getElem?_cons_succ, List.length_cons, List.length_nil, List.set_cons_zero, List.set_cons_succ, Nat.reduceAdd, Nat.reduceLT, xr_lt, xr_eq, xr_toInt, xr_0, xi_add, xi_sub, xi_mul, xr_div, xr_rm, Int.toNat_natCast, bd_t, true_and, and_true, not_false_eq_true, ↓reduceIte, ilt_t, ilt_f, ile_t, x_c1i, x_c1r, x_c1n, and_self, Option.toList_some, Option.toList_none, List.cons_append, List.nil_append, xr_01, xr_00, ieq_f, ieq_t]
  exact m_first_loop hR hh hu hQ 16 0 rfl
set_option maxHeartbeats 4000000 in
theorem m_leafOf_loop {u e : Int} (hR : RgS S) (hu : x_r u) (he : x_r e) : ∀ (d q : Nat), q + d = 32 → Q (some (.int (xi (lfL S u e d q)))) (putR w mo S) → WP P 107 2 [some (.ref mo), some (.int (xi u)), some (.int (xi e)), some (.int (xi (4 * (q : Int))))] [] (putR w mo S) Q := by
  intro d
  induction d with
  | zero =>
    intro q hq hQ
    obtain rfl : q = 32 := by omega
    simp (disch := first | exact hR _ _ | exact x01a | exact x01b | (unfold x_r; omega) | assumption | omega) only [wM_leafOf_2, wM_leafOf_3, wM_leafOf_6, wM_leafOf_51, wM_leafOf_52, x_gi_int, x_ga_ref, x_ga_null, List.getElem?_cons_zero, List.getElem?_cons_succ, List.length_cons, List.length_nil, List.set_cons_zero, List.set_cons_succ, Nat.reduceAdd, Nat.reduceLT, xr_lt, xr_eq, xr_toInt, xr_0, xi_add, xi_sub, xi_mul, xr_div, xr_rm, Int.toNat_natCast, bd_t, true_and, and_true, not_false_eq_true, ↓reduceIte, ilt_t, ilt_f, ile_t, x_c1i, x_c1r, x_c1n, and_self, Option.toList_some, Option.toList_none, List.cons_append, List.nil_append, xr_01, xr_00, ieq_f, ieq_t]
    exact hQ
  | succ d ih =>
    intro q hq hQ
    have i1 := ih (q + 1) (by omega)
    have e1 : 4 * ((q + 1 : Nat) : Int) = 4 * (q : Int) + 4 := by omega
    have e2 : (4 * (q : Int)) / 4 = q := by omega
    rw [e1] at i1
    unfold lfL at hQ
    rw [wM_leafOf_2]
    simp (disch := first | exact hR _ _ | exact x01a | exact x01b | (unfold x_r; omega) | assumption | omega) only [wM_leafOf_3, wM_leafOf_6, wM_leafOf_9, wM_leafOf_10, wM_leafOf_12, x_gi_int, x_ga_ref, x_ga_null, List.getElem?_cons_zero, List.getElem?_cons_succ, List.length_cons, List.length_nil, List.set_cons_zero, List.set_cons_succ, Nat.reduceAdd, Nat.reduceLT, xr_lt, xr_eq, xr_toInt, xr_0, xi_add, xi_sub, xi_mul, xr_div, xr_rm, Int.toNat_natCast, bd_t, true_and, and_true, not_false_eq_true, ↓reduceIte, ilt_t, ilt_f, ile_t, x_c1i, x_c1r, x_c1n, and_self, Option.toList_some, Option.toList_none, List.cons_append, List.nil_append, xr_01, xr_00, ieq_f, ieq_t]
    refine wM_leafOf_13 (by simp) rfl rfl (m_there hR ⟨by omega, by omega⟩ ⟨by omega, by omega⟩ ?_)
    by_cases c1 : s_there S 6 (4 * (q : Int))
    · rw [if_pos c1]
      by_cases c2 : S 25 q = u
      · by_cases c3 : S 26 q = e
        · rw [if_pos ⟨c1, c2, c3⟩] at hQ
          simp (disch := first | exact hR _ _ | exact x01a | exact x01b | (unfold x_r; omega) | assumption | omega) only [wM_leafOf_16, wM_leafOf_19, wM_leafOf_20, wM_leafOf_23, wM_leafOf_24, wM_leafOf_25, wM_leafOf_26, wM_leafOf_27, wM_leafOf_28, wM_leafOf_31, wM_leafOf_32, wM_leafOf_35, wM_leafOf_36, wM_leafOf_37, wM_leafOf_38, wM_leafOf_39, wM_leafOf_40, wM_leafOf_43, wM_leafOf_44, wM_leafOf_45, wM_leafOf_48, x_gi_int, x_ga_ref, x_ga_null, List.getElem?_cons_zero, List.getElem?_cons_succ, List.length_cons, List.length_nil, List.set_cons_zero, List.set_cons_succ, Nat.reduceAdd, Nat.reduceLT, xr_lt, xr_eq, xr_toInt, xr_0, xi_add, xi_sub, xi_mul, xr_div, xr_rm, Int.toNat_natCast, bd_t, true_and, and_true, not_false_eq_true, ↓reduceIte, ilt_t, ilt_f, ile_t, x_c1i, x_c1r, x_c1n, and_self, Option.toList_some, Option.toList_none, List.cons_append, List.nil_append, xr_01, xr_00, ieq_f, ieq_t, e2]
          exact hQ
        · rw [if_neg (fun z => c3 z.2.2)] at hQ
          simp (disch := first | exact hR _ _ | exact x01a | exact x01b | (unfold x_r; omega) | assumption | omega) only [wM_leafOf_16, wM_leafOf_19, wM_leafOf_20, wM_leafOf_23, wM_leafOf_24, wM_leafOf_25, wM_leafOf_26, wM_leafOf_27, wM_leafOf_28, wM_leafOf_31, wM_leafOf_32, wM_leafOf_35, wM_leafOf_36, wM_leafOf_37, wM_leafOf_38, wM_leafOf_39, wM_leafOf_40, wM_leafOf_43, wM_leafOf_44, wM_leafOf_45, wM_leafOf_48, x_gi_int, x_ga_ref, x_ga_null, List.getElem?_cons_zero, List.getElem?_cons_succ, List.length_cons, List.length_nil, List.set_cons_zero, List.set_cons_succ, Nat.reduceAdd, Nat.reduceLT, xr_lt, xr_eq, xr_toInt, xr_0, xi_add, xi_sub, xi_mul, xr_div, xr_rm, Int.toNat_natCast, bd_t, true_and, and_true, not_false_eq_true, ↓reduceIte, ilt_t, ilt_f, ile_t, x_c1i, x_c1r, x_c1n, and_self, Option.toList_some, Option.toList_none, List.cons_append, List.nil_append, xr_01, xr_00, ieq_f, ieq_t, e2]
          exact i1 hQ
      · rw [if_neg (fun z => c2 z.2.1)] at hQ
        simp (disch := first | exact hR _ _ | exact x01a | exact x01b | (unfold x_r; omega) | assumption | omega) only [wM_leafOf_16, wM_leafOf_19, wM_leafOf_20, wM_leafOf_23, wM_leafOf_24, wM_leafOf_25, wM_leafOf_26, wM_leafOf_27, wM_leafOf_28, wM_leafOf_31, wM_leafOf_32, wM_leafOf_35, wM_leafOf_36, wM_leafOf_37, wM_leafOf_38, wM_leafOf_39, wM_leafOf_40, wM_leafOf_43, wM_leafOf_44, wM_leafOf_45, wM_leafOf_48, x_gi_int, x_ga_ref, x_ga_null, List.getElem?_cons_zero, List.getElem?_cons_succ, List.length_cons, List.length_nil, List.set_cons_zero, List.set_cons_succ, Nat.reduceAdd, Nat.reduceLT, xr_lt, xr_eq, xr_toInt, xr_0, xi_add, xi_sub, xi_mul, xr_div, xr_rm, Int.toNat_natCast, bd_t, true_and, and_true, not_false_eq_true, ↓reduceIte, ilt_t, ilt_f, ile_t, x_c1i, x_c1r, x_c1n, and_self, Option.toList_some, Option.toList_none, List.cons_append, List.nil_append, xr_01, xr_00, ieq_f, ieq_t, e2]
        exact i1 hQ
    · rw [if_neg c1]
      rw [if_neg (fun z => c1 z.1)] at hQ
      simp (disch := first | exact hR _ _ | exact x01a | exact x01b | (unfold x_r; omega) | assumption | omega) only [wM_leafOf_16, wM_leafOf_19, wM_leafOf_20, wM_leafOf_23, wM_leafOf_24, wM_leafOf_25, wM_leafOf_26, wM_leafOf_27, wM_leafOf_28, wM_leafOf_31, wM_leafOf_32, wM_leafOf_35, wM_leafOf_36, wM_leafOf_37, wM_leafOf_38, wM_leafOf_39, wM_leafOf_40, wM_leafOf_43, wM_leafOf_44, wM_leafOf_45, wM_leafOf_48, x_gi_int, x_ga_ref, x_ga_null, List.getElem?_cons_zero, List.getElem?_cons_succ, List.length_cons, List.length_nil, List.set_cons_zero, List.set_cons_succ, Nat.reduceAdd, Nat.reduceLT, xr_lt, xr_eq, xr_toInt, xr_0, xi_add, xi_sub, xi_mul, xr_div, xr_rm, Int.toNat_natCast, bd_t, true_and, and_true, not_false_eq_true, ↓reduceIte, ilt_t, ilt_f, ile_t, x_c1i, x_c1r, x_c1n, and_self, Option.toList_some, Option.toList_none, List.cons_append, List.nil_append, xr_01, xr_00, ieq_f, ieq_t, e2]
      exact i1 hQ
theorem m_leafOf {u e : Int} (hR : RgS S) (hu : x_r u) (he : x_r e) (hQ : Q (some (.int (xi (s_leafOf S u e)))) (putR w mo S)) : WP P 107 0 [some (.ref mo), some (.int (xi u)), some (.int (xi e)), none] [] (putR w mo S) Q := by
  simp (disch := first | exact hR _ _ | exact x01a | exact x01b | (unfold x_r; omega) | assumption | omega) only [wM_leafOf_0, wM_leafOf_1, x_gi_int, x_ga_ref, x_ga_null, List.getElem?_cons_zero, List.getElem?_cons_succ, List.length_cons, List.length_nil, List.set_cons_zero, List.set_cons_succ, Nat.reduceAdd, Nat.reduceLT, xr_lt, xr_eq, xr_toInt, xr_0, xi_add, xi_sub, xi_mul, xr_div, xr_rm, Int.toNat_natCast, bd_t, true_and, and_true, not_false_eq_true, ↓reduceIte, ilt_t, ilt_f, ile_t, x_c1i, x_c1r, x_c1n, and_self, Option.toList_some, Option.toList_none, List.cons_append, List.nil_append, xr_01, xr_00, ieq_f, ieq_t]
  exact m_leafOf_loop hR hu he 32 0 rfl hQ
set_option maxHeartbeats 4000000 in
theorem m_frameOf_loop {l e : Int} (hR : RgS S) (hl : x_r l) (he : x_r e) : ∀ (d s : Nat), s + d = 128 → Q (some (.int (xi (frL S l e d s)))) (putR w mo S) → WP P 109 2 [some (.ref mo), some (.int (xi l)), some (.int (xi e)), some (.int (xi s))] [] (putR w mo S) Q := by
  intro d
  induction d with
  | zero =>
    intro s hs hQ
    obtain rfl : s = 128 := by omega
    simp (disch := first | exact hR _ _ | exact x01a | exact x01b | (unfold x_r; omega) | assumption | omega) only [wM_frameOf_2, wM_frameOf_3, wM_frameOf_6, wM_frameOf_48, wM_frameOf_49, x_gi_int, x_ga_ref, x_ga_null, List.getElem?_cons_zero, List.getElem?_cons_succ, List.length_cons, List.length_nil, List.set_cons_zero, List.set_cons_succ, Nat.reduceAdd, Nat.reduceLT, xr_lt, xr_eq, xr_toInt, xr_0, xi_add, xi_sub, xi_mul, xr_div, xr_rm, Int.toNat_natCast, bd_t, true_and, and_true, not_false_eq_true, ↓reduceIte, ilt_t, ilt_f, ile_t, x_c1i, x_c1r, x_c1n, and_self, Option.toList_some, Option.toList_none, List.cons_append, List.nil_append, xr_01, xr_00, ieq_f, ieq_t]
    exact hQ
  | succ d ih =>
    intro s hs hQ
    have i1 := ih (s + 1) (by omega)
    unfold frL at hQ
    rw [wM_frameOf_2]
    by_cases c1 : S 0 s = 7
    · by_cases c2 : S 7 s = l
      · by_cases c3 : S 8 s = e
        · rw [if_pos ⟨c1, c2, c3⟩] at hQ
          simp (disch := first | exact hR _ _ | exact x01a | exact x01b | (unfold x_r; omega) | assumption | omega) only [wM_frameOf_3, wM_frameOf_6, wM_frameOf_9, wM_frameOf_10, wM_frameOf_13, wM_frameOf_14, wM_frameOf_15, wM_frameOf_17, wM_frameOf_20, wM_frameOf_21, wM_frameOf_24, wM_frameOf_25, wM_frameOf_26, wM_frameOf_27, wM_frameOf_30, wM_frameOf_31, wM_frameOf_34, wM_frameOf_35, wM_frameOf_36, wM_frameOf_37, wM_frameOf_40, wM_frameOf_41, wM_frameOf_42, wM_frameOf_45, x_gi_int, x_ga_ref, x_ga_null, List.getElem?_cons_zero, List.getElem?_cons_succ, List.length_cons, List.length_nil, List.set_cons_zero, List.set_cons_succ, Nat.reduceAdd, Nat.reduceLT, xr_lt, xr_eq, xr_toInt, xr_0, xi_add, xi_sub, xi_mul, xr_div, xr_rm, Int.toNat_natCast, bd_t, true_and, and_true, not_false_eq_true, ↓reduceIte, ilt_t, ilt_f, ile_t, x_c1i, x_c1r, x_c1n, and_self, Option.toList_some, Option.toList_none, List.cons_append, List.nil_append, xr_01, xr_00, ieq_f, ieq_t]
          exact hQ
        · rw [if_neg (fun z => c3 z.2.2)] at hQ
          simp (disch := first | exact hR _ _ | exact x01a | exact x01b | (unfold x_r; omega) | assumption | omega) only [wM_frameOf_3, wM_frameOf_6, wM_frameOf_9, wM_frameOf_10, wM_frameOf_13, wM_frameOf_14, wM_frameOf_15, wM_frameOf_17, wM_frameOf_20, wM_frameOf_21, wM_frameOf_24, wM_frameOf_25, wM_frameOf_26, wM_frameOf_27, wM_frameOf_30, wM_frameOf_31, wM_frameOf_34, wM_frameOf_35, wM_frameOf_36, wM_frameOf_37, wM_frameOf_40, wM_frameOf_41, wM_frameOf_42, wM_frameOf_45, x_gi_int, x_ga_ref, x_ga_null, List.getElem?_cons_zero, List.getElem?_cons_succ, List.length_cons, List.length_nil, List.set_cons_zero, List.set_cons_succ, Nat.reduceAdd, Nat.reduceLT, xr_lt, xr_eq, xr_toInt, xr_0, xi_add, xi_sub, xi_mul, xr_div, xr_rm, Int.toNat_natCast, bd_t, true_and, and_true, not_false_eq_true, ↓reduceIte, ilt_t, ilt_f, ile_t, x_c1i, x_c1r, x_c1n, and_self, Option.toList_some, Option.toList_none, List.cons_append, List.nil_append, xr_01, xr_00, ieq_f, ieq_t]
          exact i1 hQ
      · rw [if_neg (fun z => c2 z.2.1)] at hQ
        simp (disch := first | exact hR _ _ | exact x01a | exact x01b | (unfold x_r; omega) | assumption | omega) only [wM_frameOf_3, wM_frameOf_6, wM_frameOf_9, wM_frameOf_10, wM_frameOf_13, wM_frameOf_14, wM_frameOf_15, wM_frameOf_17, wM_frameOf_20, wM_frameOf_21, wM_frameOf_24, wM_frameOf_25, wM_frameOf_26, wM_frameOf_27, wM_frameOf_30, wM_frameOf_31, wM_frameOf_34, wM_frameOf_35, wM_frameOf_36, wM_frameOf_37, wM_frameOf_40, wM_frameOf_41, wM_frameOf_42, wM_frameOf_45, x_gi_int, x_ga_ref, x_ga_null, List.getElem?_cons_zero, List.getElem?_cons_succ, List.length_cons, List.length_nil, List.set_cons_zero, List.set_cons_succ, Nat.reduceAdd, Nat.reduceLT, xr_lt, xr_eq, xr_toInt, xr_0, xi_add, xi_sub, xi_mul, xr_div, xr_rm, Int.toNat_natCast, bd_t, true_and, and_true, not_false_eq_true, ↓reduceIte, ilt_t, ilt_f, ile_t, x_c1i, x_c1r, x_c1n, and_self, Option.toList_some, Option.toList_none, List.cons_append, List.nil_append, xr_01, xr_00, ieq_f, ieq_t]
        exact i1 hQ
    · rw [if_neg (fun z => c1 z.1)] at hQ
      simp (disch := first | exact hR _ _ | exact x01a | exact x01b | (unfold x_r; omega) | assumption | omega) only [wM_frameOf_3, wM_frameOf_6, wM_frameOf_9, wM_frameOf_10, wM_frameOf_13, wM_frameOf_14, wM_frameOf_15, wM_frameOf_17, wM_frameOf_20, wM_frameOf_21, wM_frameOf_24, wM_frameOf_25, wM_frameOf_26, wM_frameOf_27, wM_frameOf_30, wM_frameOf_31, wM_frameOf_34, wM_frameOf_35, wM_frameOf_36, wM_frameOf_37, wM_frameOf_40, wM_frameOf_41, wM_frameOf_42, wM_frameOf_45, x_gi_int, x_ga_ref, x_ga_null, List.getElem?_cons_zero, List.getElem?_cons_succ, List.length_cons, List.length_nil, List.set_cons_zero, List.set_cons_succ, Nat.reduceAdd, Nat.reduceLT, xr_lt, xr_eq, xr_toInt, xr_0, xi_add, xi_sub, xi_mul, xr_div, xr_rm, Int.toNat_natCast, bd_t, true_and, and_true, not_false_eq_true, ↓reduceIte, ilt_t, ilt_f, ile_t, x_c1i, x_c1r, x_c1n, and_self, Option.toList_some, Option.toList_none, List.cons_append, List.nil_append, xr_01, xr_00, ieq_f, ieq_t]
      exact i1 hQ
theorem m_frameOf {l e : Int} (hR : RgS S) (hl : x_r l) (he : x_r e) (hQ : Q (some (.int (xi (s_frameOf S l e)))) (putR w mo S)) : WP P 109 0 [some (.ref mo), some (.int (xi l)), some (.int (xi e)), none] [] (putR w mo S) Q := by
  simp (disch := first | exact hR _ _ | exact x01a | exact x01b | (unfold x_r; omega) | assumption | omega) only [wM_frameOf_0, wM_frameOf_1, x_gi_int, x_ga_ref, x_ga_null, List.getElem?_cons_zero, List.getElem?_cons_succ, List.length_cons, List.length_nil, List.set_cons_zero, List.set_cons_succ, Nat.reduceAdd, Nat.reduceLT, xr_lt, xr_eq, xr_toInt, xr_0, xi_add, xi_sub, xi_mul, xr_div, xr_rm, Int.toNat_natCast, bd_t, true_and, and_true, not_false_eq_true, ↓reduceIte, ilt_t, ilt_f, ile_t, x_c1i, x_c1r, x_c1n, and_self, Option.toList_some, Option.toList_none, List.cons_append, List.nil_append, xr_01, xr_00, ieq_f, ieq_t]
  exact m_frameOf_loop hR hl he 128 0 rfl hQ
end RB
