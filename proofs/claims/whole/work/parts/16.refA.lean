def x_r (e : Int) : Prop := -2147483648 ≤ e ∧ e < 2147483648
theorem xr_lt {a b : Int} (ha : x_r a) (hb : x_r b) : xi a < xi b ↔ a < b := xi_lt ha.1 ha.2 hb.1 hb.2
theorem xr_eq {a b : Int} (ha : x_r a) (hb : x_r b) : xi a = xi b ↔ a = b := xi_eq ha.1 ha.2 hb.1 hb.2
theorem xr_toInt {a : Int} (ha : x_r a) : (xi a).toInt = a := xi_toInt ha.1 ha.2
theorem xr_0 {b : Int} (hb : x_r b) : xi b = 0 ↔ b = 0 := by
  rw [show (0 : Int32) = xi 0 from rfl]; exact xr_eq hb ⟨by omega, by omega⟩
theorem xr_div {a b : Int} (h1 : 0 ≤ a) (h2 : a < 2147483648) (h3 : 0 < b) (h4 : b < 2147483648) : xi a / xi b = xi (a / b) := xi_div h1 h2 h3 h4
theorem xr_rm {a b : Int} (h1 : 0 ≤ a) (h2 : a < 2147483648) (h3 : 0 < b) (h4 : b < 2147483648) : x_rmd (xi a) (xi b) = xi (a % b) := xi_rem h1 h2 h3 h4
theorem bd_t {e n : Int} (h1 : 0 ≤ e) (h2 : e < n) : (0 ≤ e ∧ e < n) ↔ True := ⟨fun _ => trivial, fun _ => ⟨h1, h2⟩⟩
theorem x_c1i (x : Int32) : (x_cat1 (.int x) = true) ↔ True := ⟨fun _ => trivial, fun _ => rfl⟩
theorem x_c1r (x : Nat) : (x_cat1 (.ref x) = true) ↔ True := ⟨fun _ => trivial, fun _ => rfl⟩
theorem x_c1n : (x_cat1 .null = true) ↔ True := ⟨fun _ => trivial, fun _ => rfl⟩
theorem x01a : xi 0 = 0 ∨ xi 0 = 1 := Or.inl rfl
theorem x01b : xi 1 = 0 ∨ xi 1 = 1 := Or.inr rfl
theorem xr_00 : (xi 0 = xi 0 ∨ xi 0 = xi 1) ↔ True := ⟨fun _ => trivial, fun _ => Or.inl rfl⟩
theorem xr_01 : (xi 1 = xi 0 ∨ xi 1 = xi 1) ↔ True := ⟨fun _ => trivial, fun _ => Or.inr rfl⟩
theorem ilt_f {a b : Int} (h : ¬ a < b) : (a < b) ↔ False := ⟨fun q => h q, fun q => q.elim⟩
theorem ilt_t {a b : Int} (h : a < b) : (a < b) ↔ True := ⟨fun _ => trivial, fun _ => h⟩
theorem ile_t {a b : Int} (h : a ≤ b) : (a ≤ b) ↔ True := ⟨fun _ => trivial, fun _ => h⟩
theorem ieq_f {a b : Int} (h : ¬ a = b) : (a = b) ↔ False := ⟨fun q => h q, fun q => q.elim⟩
theorem ieq_t {a b : Int} (h : a = b) : (a = b) ↔ True := ⟨fun _ => trivial, fun _ => h⟩
abbrev RgS (S : xS) : Prop := ∀ j i, x_r (S j i)
theorem RgS.set {S : xS} (h : RgS S) {j i : Nat} {v : Int} (hv : x_r v) : RgS (sset S j i v) := fun j' i' => by
  rw [sset_at]
  split
  · exact hv
  · exact h j' i'
def s_find (S : xS) (t : Nat) (a : Int) : Int := if S 11 t = -1 then -1 else if a < 0 then -1 else if 271 < a then -1 else if a < 16 then S 11 t + a else if S 0 (S 11 t + a / 16 - 1).toNat = 1 then S 1 (S 11 t + a / 16 - 1).toNat + a % 16 else -1
def nowL (S : xS) : Nat → Int
  | 0 => -1
  | t + 1 => if S 10 t = 2 ∧ (nowL S t < 0 ∨ S 13 (nowL S t).toNat < S 13 t ∨ (S 13 t = S 13 (nowL S t).toNat ∧ S 18 t < S 18 (nowL S t).toNat)) then (t : Int) else nowL S t
def s_now (S : xS) : Int := nowL S 16
theorem nowL_in (S : xS) : ∀ n, -1 ≤ nowL S n ∧ nowL S n < n := by
  intro n
  induction n with
  | zero => exact ⟨by unfold nowL; omega, by unfold nowL; omega⟩
  | succ n ih =>
    unfold nowL
    split <;> omega
/-- the number of k < n with p k -/
def cntL (p : Nat → Prop) [DecidablePred p] : Nat → Int
  | 0 => 0
  | k + 1 => cntL p k + (if p k then 1 else 0)
theorem cntL_in (p : Nat → Prop) [DecidablePred p] : ∀ n : Nat, 0 ≤ cntL p n ∧ cntL p n ≤ n := by
  intro n
  induction n with
  | zero => exact ⟨by unfold cntL; omega, by unfold cntL; omega⟩
  | succ n ih =>
    unfold cntL
    split <;> omega
def s_children (S : xS) (s : Int) : Int := cntL (fun k => 0 ≤ S 0 k ∧ S 4 k = s) 128
def s_hold (S : xS) (k u : Int) : Int := cntL (fun s => S 0 s = k ∧ S 1 s = u) 128
def s_holders (S : xS) (k u : Int) : Int := if k = 0 then 1 else s_hold S k u
abbrev s_there (S : xS) (k u : Int) : Prop := 0 ≤ u ∧ u < 128 ∧ 0 < s_holders S k u
section RA
variable {P : xP} {w : xH} {Q : Option Value → xH → Prop} {mo : Nat} {S : xS}
set_option maxHeartbeats 4000000 in
theorem m_find {t : Nat} {a : Int} (hR : RgS S) (ht : t < 16) (ha : x_r a) (hT : S 11 t = -1 ∨ (0 ≤ S 11 t ∧ S 11 t ≤ 112)) (hQ : Q (some (.int (xi (s_find S t a)))) (putR w mo S)) : WP P 83 0 [some (.ref mo), some (.int (xi t)), some (.int (xi a)), none] [] (putR w mo S) Q := by
  have ha1 := ha.1
  have ha2 := ha.2
  unfold s_find at hQ
  (repeat' split at hQ) <;> (simp (disch := first | exact hR _ _ | exact x01a | exact x01b | (unfold x_r; omega) | assumption | omega) only [wM_find_0, wM_find_1, wM_find_4, wM_find_5, wM_find_6, wM_find_7, wM_find_10, wM_find_11, wM_find_14, wM_find_15, wM_find_18, wM_find_21, wM_find_22, wM_find_23, wM_find_24, wM_find_26, wM_find_29, wM_find_30, wM_find_33, wM_find_34, wM_find_35, wM_find_36, wM_find_37, wM_find_38, wM_find_39, wM_find_42, wM_find_43, wM_find_44, wM_find_45, wM_find_47, wM_find_48, wM_find_49, wM_find_50, wM_find_51, wM_find_52, wM_find_53, wM_find_56, wM_find_57, wM_find_58, wM_find_59, wM_find_62, wM_find_63, wM_find_66, wM_find_67, wM_find_68, wM_find_69, wM_find_71, wM_find_72, wM_find_73, wM_find_76, wM_find_77, x_gi_int, x_ga_ref, x_ga_null, List.getElem?_cons_zero, List.getElem?_cons_succ, List.length_cons, List.length_nil, List.set_cons_zero, List.set_cons_succ, Nat.reduceAdd, Nat.reduceLT, xr_lt, xr_eq, xr_toInt, xr_0, xi_add, xi_sub, xi_mul, xr_div, xr_rm, Int.toNat_natCast, bd_t, true_and, and_true, not_false_eq_true, ↓reduceIte, ilt_t, ilt_f, ile_t, x_c1i, x_c1r, x_c1n, and_self, Option.toList_some, Option.toList_none, List.cons_append, List.nil_append, xr_01, xr_00, ieq_f, ieq_t]; exact hQ)
set_option maxHeartbeats 4000000 in
theorem m_now_loop (hR : RgS S) (hQ : Q (some (.int (xi (s_now S)))) (putR w mo S)) : ∀ (d k : Nat) (b : Option Value), k + d = 16 → WP P 81 4 [some (.ref mo), some (.int (xi (nowL S k))), some (.int (xi k)), b] [] (putR w mo S) Q := by
  intro d
  induction d with
  | zero =>
    intro k b hk
    obtain rfl : k = 16 := by omega
    have h1 := nowL_in S 16
    simp (disch := first | exact hR _ _ | exact x01a | exact x01b | (unfold x_r; omega) | assumption | omega) only [wM_now_4, wM_now_5, wM_now_7, wM_now_87, wM_now_88, x_gi_int, x_ga_ref, x_ga_null, List.getElem?_cons_zero, List.getElem?_cons_succ, List.length_cons, List.length_nil, List.set_cons_zero, List.set_cons_succ, Nat.reduceAdd, Nat.reduceLT, xr_lt, xr_eq, xr_toInt, xr_0, xi_add, xi_sub, xi_mul, xr_div, xr_rm, Int.toNat_natCast, bd_t, true_and, and_true, not_false_eq_true, ↓reduceIte, ilt_t, ilt_f, ile_t, x_c1i, x_c1r, x_c1n, and_self, Option.toList_some, Option.toList_none, List.cons_append, List.nil_append, xr_01, xr_00, ieq_f, ieq_t]
    exact hQ
  | succ d ih =>
    intro k b hk
    have h1 := nowL_in S k
    have i1 := fun b => ih (k + 1) b (by omega)
    have e1 : nowL S (k + 1) = if S 10 k = 2 ∧ (nowL S k < 0 ∨ S 13 (nowL S k).toNat < S 13 k ∨ (S 13 k = S 13 (nowL S k).toNat ∧ S 18 k < S 18 (nowL S k).toNat)) then (k : Int) else nowL S k := rfl
    rw [e1] at i1
    have k1 : ∀ (be : Int), ((be = 1 ∧ (nowL S k < 0 ∨ S 13 (nowL S k).toNat < S 13 k ∨ (S 13 k = S 13 (nowL S k).toNat ∧ S 18 k < S 18 (nowL S k).toNat))) ∨ (be = 0 ∧ ¬ (nowL S k < 0 ∨ S 13 (nowL S k).toNat < S 13 k ∨ (S 13 k = S 13 (nowL S k).toNat ∧ S 18 k < S 18 (nowL S k).toNat)))) → WP P 81 64 [some (.ref mo), some (.int (xi (nowL S k))), some (.int (xi k)), b] [.int (xi be)] (putR w mo S) Q := by
      intro be hbe
      by_cases c0 : S 10 k = 2 <;> rcases hbe with ⟨rfl, hB⟩ | ⟨rfl, hB⟩
      · rw [if_pos ⟨c0, hB⟩] at i1
        simp (disch := first | exact hR _ _ | exact x01a | exact x01b | (unfold x_r; omega) | assumption | omega) only [wM_now_64, wM_now_65, wM_now_66, wM_now_69, wM_now_70, wM_now_71, wM_now_72, wM_now_75, wM_now_76, wM_now_79, wM_now_80, wM_now_81, wM_now_84, x_gi_int, x_ga_ref, x_ga_null, List.getElem?_cons_zero, List.getElem?_cons_succ, List.length_cons, List.length_nil, List.set_cons_zero, List.set_cons_succ, Nat.reduceAdd, Nat.reduceLT, xr_lt, xr_eq, xr_toInt, xr_0, xi_add, xi_sub, xi_mul, xr_div, xr_rm, Int.toNat_natCast, bd_t, true_and, and_true, not_false_eq_true, ↓reduceIte, ilt_t, ilt_f, ile_t, x_c1i, x_c1r, x_c1n, and_self, Option.toList_some, Option.toList_none, List.cons_append, List.nil_append, xr_01, xr_00, ieq_f, ieq_t]
        exact i1 _
      · rw [if_neg (fun q => hB q.2)] at i1
        simp (disch := first | exact hR _ _ | exact x01a | exact x01b | (unfold x_r; omega) | assumption | omega) only [wM_now_64, wM_now_65, wM_now_66, wM_now_69, wM_now_70, wM_now_71, wM_now_72, wM_now_75, wM_now_76, wM_now_79, wM_now_80, wM_now_81, wM_now_84, x_gi_int, x_ga_ref, x_ga_null, List.getElem?_cons_zero, List.getElem?_cons_succ, List.length_cons, List.length_nil, List.set_cons_zero, List.set_cons_succ, Nat.reduceAdd, Nat.reduceLT, xr_lt, xr_eq, xr_toInt, xr_0, xi_add, xi_sub, xi_mul, xr_div, xr_rm, Int.toNat_natCast, bd_t, true_and, and_true, not_false_eq_true, ↓reduceIte, ilt_t, ilt_f, ile_t, x_c1i, x_c1r, x_c1n, and_self, Option.toList_some, Option.toList_none, List.cons_append, List.nil_append, xr_01, xr_00, ieq_f, ieq_t]
        exact i1 _
      · rw [if_neg (fun q => c0 q.1)] at i1
        simp (disch := first | exact hR _ _ | exact x01a | exact x01b | (unfold x_r; omega) | assumption | omega) only [wM_now_64, wM_now_65, wM_now_66, wM_now_69, wM_now_70, wM_now_71, wM_now_72, wM_now_75, wM_now_76, wM_now_79, wM_now_80, wM_now_81, wM_now_84, x_gi_int, x_ga_ref, x_ga_null, List.getElem?_cons_zero, List.getElem?_cons_succ, List.length_cons, List.length_nil, List.set_cons_zero, List.set_cons_succ, Nat.reduceAdd, Nat.reduceLT, xr_lt, xr_eq, xr_toInt, xr_0, xi_add, xi_sub, xi_mul, xr_div, xr_rm, Int.toNat_natCast, bd_t, true_and, and_true, not_false_eq_true, ↓reduceIte, ilt_t, ilt_f, ile_t, x_c1i, x_c1r, x_c1n, and_self, Option.toList_some, Option.toList_none, List.cons_append, List.nil_append, xr_01, xr_00, ieq_f, ieq_t]
        exact i1 _
      · rw [if_neg (fun q => c0 q.1)] at i1
        simp (disch := first | exact hR _ _ | exact x01a | exact x01b | (unfold x_r; omega) | assumption | omega) only [wM_now_64, wM_now_65, wM_now_66, wM_now_69, wM_now_70, wM_now_71, wM_now_72, wM_now_75, wM_now_76, wM_now_79, wM_now_80, wM_now_81, wM_now_84, x_gi_int, x_ga_ref, x_ga_null, List.getElem?_cons_zero, List.getElem?_cons_succ, List.length_cons, List.length_nil, List.set_cons_zero, List.set_cons_succ, Nat.reduceAdd, Nat.reduceLT, xr_lt, xr_eq, xr_toInt, xr_0, xi_add, xi_sub, xi_mul, xr_div, xr_rm, Int.toNat_natCast, bd_t, true_and, and_true, not_false_eq_true, ↓reduceIte, ilt_t, ilt_f, ile_t, x_c1i, x_c1r, x_c1n, and_self, Option.toList_some, Option.toList_none, List.cons_append, List.nil_append, xr_01, xr_00, ieq_f, ieq_t]
        exact i1 _
    by_cases c1 : nowL S k < 0
    · simp (disch := first | exact hR _ _ | exact x01a | exact x01b | (unfold x_r; omega) | assumption | omega) only [wM_now_4, wM_now_5, wM_now_7, wM_now_10, wM_now_11, wM_now_14, wM_now_15, wM_now_18, wM_now_19, wM_now_20, wM_now_21, wM_now_24, wM_now_25, wM_now_26, wM_now_29, wM_now_30, wM_now_33, wM_now_34, wM_now_35, wM_now_36, wM_now_39, wM_now_40, wM_now_41, wM_now_44, wM_now_45, wM_now_48, wM_now_49, wM_now_50, wM_now_51, wM_now_54, wM_now_55, wM_now_56, wM_now_59, wM_now_60, wM_now_63, x_gi_int, x_ga_ref, x_ga_null, List.getElem?_cons_zero, List.getElem?_cons_succ, List.length_cons, List.length_nil, List.set_cons_zero, List.set_cons_succ, Nat.reduceAdd, Nat.reduceLT, xr_lt, xr_eq, xr_toInt, xr_0, xi_add, xi_sub, xi_mul, xr_div, xr_rm, Int.toNat_natCast, bd_t, true_and, and_true, not_false_eq_true, ↓reduceIte, ilt_t, ilt_f, ile_t, x_c1i, x_c1r, x_c1n, and_self, Option.toList_some, Option.toList_none, List.cons_append, List.nil_append, xr_01, xr_00, ieq_f, ieq_t]
      exact k1 1 (Or.inl ⟨rfl, Or.inl c1⟩)
    · by_cases c2 : S 13 (nowL S k).toNat < S 13 k
      · simp (disch := first | exact hR _ _ | exact x01a | exact x01b | (unfold x_r; omega) | assumption | omega) only [wM_now_4, wM_now_5, wM_now_7, wM_now_10, wM_now_11, wM_now_14, wM_now_15, wM_now_18, wM_now_19, wM_now_20, wM_now_21, wM_now_24, wM_now_25, wM_now_26, wM_now_29, wM_now_30, wM_now_33, wM_now_34, wM_now_35, wM_now_36, wM_now_39, wM_now_40, wM_now_41, wM_now_44, wM_now_45, wM_now_48, wM_now_49, wM_now_50, wM_now_51, wM_now_54, wM_now_55, wM_now_56, wM_now_59, wM_now_60, wM_now_63, x_gi_int, x_ga_ref, x_ga_null, List.getElem?_cons_zero, List.getElem?_cons_succ, List.length_cons, List.length_nil, List.set_cons_zero, List.set_cons_succ, Nat.reduceAdd, Nat.reduceLT, xr_lt, xr_eq, xr_toInt, xr_0, xi_add, xi_sub, xi_mul, xr_div, xr_rm, Int.toNat_natCast, bd_t, true_and, and_true, not_false_eq_true, ↓reduceIte, ilt_t, ilt_f, ile_t, x_c1i, x_c1r, x_c1n, and_self, Option.toList_some, Option.toList_none, List.cons_append, List.nil_append, xr_01, xr_00, ieq_f, ieq_t]
        exact k1 1 (Or.inl ⟨rfl, Or.inr (Or.inl c2)⟩)
      · by_cases c3 : S 13 k = S 13 (nowL S k).toNat
        · by_cases c4 : S 18 k < S 18 (nowL S k).toNat
          · simp (disch := first | exact hR _ _ | exact x01a | exact x01b | (unfold x_r; omega) | assumption | omega) only [wM_now_4, wM_now_5, wM_now_7, wM_now_10, wM_now_11, wM_now_14, wM_now_15, wM_now_18, wM_now_19, wM_now_20, wM_now_21, wM_now_24, wM_now_25, wM_now_26, wM_now_29, wM_now_30, wM_now_33, wM_now_34, wM_now_35, wM_now_36, wM_now_39, wM_now_40, wM_now_41, wM_now_44, wM_now_45, wM_now_48, wM_now_49, wM_now_50, wM_now_51, wM_now_54, wM_now_55, wM_now_56, wM_now_59, wM_now_60, wM_now_63, x_gi_int, x_ga_ref, x_ga_null, List.getElem?_cons_zero, List.getElem?_cons_succ, List.length_cons, List.length_nil, List.set_cons_zero, List.set_cons_succ, Nat.reduceAdd, Nat.reduceLT, xr_lt, xr_eq, xr_toInt, xr_0, xi_add, xi_sub, xi_mul, xr_div, xr_rm, Int.toNat_natCast, bd_t, true_and, and_true, not_false_eq_true, ↓reduceIte, ilt_t, ilt_f, ile_t, x_c1i, x_c1r, x_c1n, and_self, Option.toList_some, Option.toList_none, List.cons_append, List.nil_append, xr_01, xr_00, ieq_f, ieq_t]
            exact k1 1 (Or.inl ⟨rfl, Or.inr (Or.inr ⟨c3, c4⟩)⟩)
          · simp (disch := first | exact hR _ _ | exact x01a | exact x01b | (unfold x_r; omega) | assumption | omega) only [wM_now_4, wM_now_5, wM_now_7, wM_now_10, wM_now_11, wM_now_14, wM_now_15, wM_now_18, wM_now_19, wM_now_20, wM_now_21, wM_now_24, wM_now_25, wM_now_26, wM_now_29, wM_now_30, wM_now_33, wM_now_34, wM_now_35, wM_now_36, wM_now_39, wM_now_40, wM_now_41, wM_now_44, wM_now_45, wM_now_48, wM_now_49, wM_now_50, wM_now_51, wM_now_54, wM_now_55, wM_now_56, wM_now_59, wM_now_60, wM_now_63, x_gi_int, x_ga_ref, x_ga_null, List.getElem?_cons_zero, List.getElem?_cons_succ, List.length_cons, List.length_nil, List.set_cons_zero, List.set_cons_succ, Nat.reduceAdd, Nat.reduceLT, xr_lt, xr_eq, xr_toInt, xr_0, xi_add, xi_sub, xi_mul, xr_div, xr_rm, Int.toNat_natCast, bd_t, true_and, and_true, not_false_eq_true, ↓reduceIte, ilt_t, ilt_f, ile_t, x_c1i, x_c1r, x_c1n, and_self, Option.toList_some, Option.toList_none, List.cons_append, List.nil_append, xr_01, xr_00, ieq_f, ieq_t]
            exact k1 0 (Or.inr ⟨rfl, by omega⟩)
        · simp (disch := first | exact hR _ _ | exact x01a | exact x01b | (unfold x_r; omega) | assumption | omega) only [wM_now_4, wM_now_5, wM_now_7, wM_now_10, wM_now_11, wM_now_14, wM_now_15, wM_now_18, wM_now_19, wM_now_20, wM_now_21, wM_now_24, wM_now_25, wM_now_26, wM_now_29, wM_now_30, wM_now_33, wM_now_34, wM_now_35, wM_now_36, wM_now_39, wM_now_40, wM_now_41, wM_now_44, wM_now_45, wM_now_48, wM_now_49, wM_now_50, wM_now_51, wM_now_54, wM_now_55, wM_now_56, wM_now_59, wM_now_60, wM_now_63, x_gi_int, x_ga_ref, x_ga_null, List.getElem?_cons_zero, List.getElem?_cons_succ, List.length_cons, List.length_nil, List.set_cons_zero, List.set_cons_succ, Nat.reduceAdd, Nat.reduceLT, xr_lt, xr_eq, xr_toInt, xr_0, xi_add, xi_sub, xi_mul, xr_div, xr_rm, Int.toNat_natCast, bd_t, true_and, and_true, not_false_eq_true, ↓reduceIte, ilt_t, ilt_f, ile_t, x_c1i, x_c1r, x_c1n, and_self, Option.toList_some, Option.toList_none, List.cons_append, List.nil_append, xr_01, xr_00, ieq_f, ieq_t]
          exact k1 0 (Or.inr ⟨rfl, by omega⟩)
theorem m_now (hR : RgS S) (hQ : Q (some (.int (xi (s_now S)))) (putR w mo S)) : WP P 81 0 [some (.ref mo), none, none, none] [] (putR w mo S) Q := by
  simp (disch := first | exact hR _ _ | exact x01a | exact x01b | (unfold x_r; omega) | assumption | omega) only [wM_now_0, wM_now_1, wM_now_2, wM_now_3, x_gi_int, x_ga_ref, x_ga_null, List.getElem?_cons_zero, List.getElem?_cons_succ, List.length_cons, List.length_nil, List.set_cons_zero, List.set_cons_succ, Nat.reduceAdd, Nat.reduceLT, xr_lt, xr_eq, xr_toInt, xr_0, xi_add, xi_sub, xi_mul, xr_div, xr_rm, Int.toNat_natCast, bd_t, true_and, and_true, not_false_eq_true, ↓reduceIte, ilt_t, ilt_f, ile_t, x_c1i, x_c1r, x_c1n, and_self, Option.toList_some, Option.toList_none, List.cons_append, List.nil_append, xr_01, xr_00, ieq_f, ieq_t]
  exact m_now_loop hR hQ 16 0 none rfl
end RA
