def s_tr1 (S : xS) (a b : Int) : xS := sset (sset S 15 b.toNat (S 21 a.toNat)) 16 b.toNat (S 22 a.toNat)
def s_trC (S : xS) (b s d : Int) : xS := sset (sset (s_fill (sset S 17 b.toNat 1) d (S 0 s.toNat) (S 1 s.toNat) 0 s) 2 d.toNat (s_fill (sset S 17 b.toNat 1) d (S 0 s.toNat) (S 1 s.toNat) 0 s 2 s.toNat)) 3 d.toNat (s_fill (sset S 17 b.toNat 1) d (S 0 s.toNat) (S 1 s.toNat) 0 s 3 s.toNat)
def s_trF (S : xS) (a b s d : Int) : xS := if S 23 a.toNat = 0 then sset S 17 b.toNat 0 else if s < 0 then sset S 17 b.toNat 0 else if d < 0 then sset S 17 b.toNat 0 else if S 0 s.toNat ≤ 0 then sset S 17 b.toNat 0 else if S 0 d.toNat < 0 then s_trC S b s d else sset S 17 b.toNat 0
def s_transfer (S : xS) (a b : Int) : xS := s_trF (s_tr1 S a b) a b (s_find (s_tr1 S a b) a.toNat (s_tr1 S a b 20 a.toNat)) (s_find (s_tr1 S a b) b.toNat (s_tr1 S a b 20 b.toNat))
theorem RgS.fill {S : xS} (h : RgS S) {s k u size from_ : Int} (h1 : x_r k) (h2 : x_r u) (h3 : x_r size) (h4 : x_r from_) : RgS (s_fill S s k u size from_) := by
  unfold s_fill
  exact ((((((((h.set h1).set h2).set ⟨by omega, by omega⟩).set x_r_0).set h4).set h3).set h2).set x_r_m1).set x_r_0
section RJ
variable {P : xP} {w : xH} {Q : Option Value → xH → Prop} {mo : Nat} {S : xS}
set_option maxHeartbeats 4000000 in
theorem m_page {t e : Int} (hG : GS S) (ht : x_r t) (he : x_r e) (hQ : Q (some (.int (xi (s_page S t e)))) (putR w mo S)) : WP P 118 0 [some (.ref mo), some (.int (xi t)), some (.int (xi e)), none, none] [] (putR w mo S) Q := by
  have hW := hG.1
  have hR := hW.1
  have g1 := he.1
  have g2 := he.2
  simp (disch := first | exact hR _ _ | exact x01a | exact x01b | (unfold x_r; omega) | assumption | omega) only [wM_page_0, wM_page_1, wM_page_2, x_gi_int, x_ga_ref, x_ga_null, List.getElem?_cons_zero, List.getElem?_cons_succ, List.length_cons, List.length_nil, List.set_cons_zero, List.set_cons_succ, Nat.reduceAdd, Nat.reduceLT, xr_lt, xr_eq, xr_toInt, xr_0, xi_add, xi_sub, xi_mul, xr_div, xr_rm, Int.toNat_natCast, bd_t, true_and, and_true, not_false_eq_true, ↓reduceIte, ilt_t, ilt_f, ile_t, x_c1i, x_c1r, x_c1n, and_self, Option.toList_some, Option.toList_none, List.cons_append, List.nil_append, xr_01, xr_00, ieq_f, ieq_t]
  refine wM_page_3 (by simp) rfl rfl (m_there hR ⟨by omega, by omega⟩ ht ?_)
  unfold s_page at hQ
  split at hQ
  next c1 =>
    rw [if_neg c1]
    simp (disch := first | exact hR _ _ | exact x01a | exact x01b | (unfold x_r; omega) | assumption | omega) only [wM_page_6, wM_page_9, wM_page_10, wM_page_13, wM_page_14, wM_page_16, wM_page_19, wM_page_20, wM_page_23, wM_page_24, wM_page_26, wM_page_27, wM_page_28, wM_page_29, wM_page_32, wM_page_33, x_gi_int, x_ga_ref, x_ga_null, List.getElem?_cons_zero, List.getElem?_cons_succ, List.length_cons, List.length_nil, List.set_cons_zero, List.set_cons_succ, Nat.reduceAdd, Nat.reduceLT, xr_lt, xr_eq, xr_toInt, xr_0, xi_add, xi_sub, xi_mul, xr_div, xr_rm, Int.toNat_natCast, bd_t, true_and, and_true, not_false_eq_true, ↓reduceIte, ilt_t, ilt_f, ile_t, x_c1i, x_c1r, x_c1n, and_self, Option.toList_some, Option.toList_none, List.cons_append, List.nil_append, xr_01, xr_00, ieq_f, ieq_t]
    exact hQ
  next c1 =>
    have c1 : s_there S 2 t := Classical.not_not.mp c1
    rw [if_pos c1]
    have c1a := c1.1
    have c1b := c1.2.1
    split at hQ
    next c2 =>
      simp (disch := first | exact hR _ _ | exact x01a | exact x01b | (unfold x_r; omega) | assumption | omega) only [wM_page_6, wM_page_9, wM_page_10, wM_page_13, wM_page_14, wM_page_16, wM_page_19, wM_page_20, wM_page_23, wM_page_24, wM_page_26, wM_page_27, wM_page_28, wM_page_29, wM_page_32, wM_page_33, x_gi_int, x_ga_ref, x_ga_null, List.getElem?_cons_zero, List.getElem?_cons_succ, List.length_cons, List.length_nil, List.set_cons_zero, List.set_cons_succ, Nat.reduceAdd, Nat.reduceLT, xr_lt, xr_eq, xr_toInt, xr_0, xi_add, xi_sub, xi_mul, xr_div, xr_rm, Int.toNat_natCast, bd_t, true_and, and_true, not_false_eq_true, ↓reduceIte, ilt_t, ilt_f, ile_t, x_c1i, x_c1r, x_c1n, and_self, Option.toList_some, Option.toList_none, List.cons_append, List.nil_append, xr_01, xr_00, ieq_f, ieq_t]
      exact hQ
    next c2 =>
      split at hQ
      next c3 =>
        simp (disch := first | exact hR _ _ | exact x01a | exact x01b | (unfold x_r; omega) | assumption | omega) only [wM_page_6, wM_page_9, wM_page_10, wM_page_13, wM_page_14, wM_page_16, wM_page_19, wM_page_20, wM_page_23, wM_page_24, wM_page_26, wM_page_27, wM_page_28, wM_page_29, wM_page_32, wM_page_33, x_gi_int, x_ga_ref, x_ga_null, List.getElem?_cons_zero, List.getElem?_cons_succ, List.length_cons, List.length_nil, List.set_cons_zero, List.set_cons_succ, Nat.reduceAdd, Nat.reduceLT, xr_lt, xr_eq, xr_toInt, xr_0, xi_add, xi_sub, xi_mul, xr_div, xr_rm, Int.toNat_natCast, bd_t, true_and, and_true, not_false_eq_true, ↓reduceIte, ilt_t, ilt_f, ile_t, x_c1i, x_c1r, x_c1n, and_self, Option.toList_some, Option.toList_none, List.cons_append, List.nil_append, xr_01, xr_00, ieq_f, ieq_t]
        exact hQ
      next c3 =>
        split at hQ
        next c4 =>
          simp (disch := first | exact hR _ _ | exact x01a | exact x01b | (unfold x_r; omega) | assumption | omega) only [wM_page_6, wM_page_9, wM_page_10, wM_page_13, wM_page_14, wM_page_16, wM_page_19, wM_page_20, wM_page_23, wM_page_24, wM_page_26, wM_page_27, wM_page_28, wM_page_29, wM_page_32, wM_page_33, x_gi_int, x_ga_ref, x_ga_null, List.getElem?_cons_zero, List.getElem?_cons_succ, List.length_cons, List.length_nil, List.set_cons_zero, List.set_cons_succ, Nat.reduceAdd, Nat.reduceLT, xr_lt, xr_eq, xr_toInt, xr_0, xi_add, xi_sub, xi_mul, xr_div, xr_rm, Int.toNat_natCast, bd_t, true_and, and_true, not_false_eq_true, ↓reduceIte, ilt_t, ilt_f, ile_t, x_c1i, x_c1r, x_c1n, and_self, Option.toList_some, Option.toList_none, List.cons_append, List.nil_append, xr_01, xr_00, ieq_f, ieq_t]
          exact hQ
        next c4 =>
          have hl := s_leafOf_in S (S 12 (t / 8).toNat) (e / 4)
          simp (disch := first | exact hR _ _ | exact x01a | exact x01b | (unfold x_r; omega) | assumption | omega) only [wM_page_6, wM_page_9, wM_page_10, wM_page_13, wM_page_14, wM_page_16, wM_page_19, wM_page_20, wM_page_23, wM_page_24, wM_page_26, wM_page_27, wM_page_28, wM_page_29, wM_page_32, wM_page_33, wM_page_34, wM_page_35, wM_page_36, wM_page_39, wM_page_40, wM_page_42, wM_page_43, wM_page_44, wM_page_45, wM_page_46, x_gi_int, x_ga_ref, x_ga_null, List.getElem?_cons_zero, List.getElem?_cons_succ, List.length_cons, List.length_nil, List.set_cons_zero, List.set_cons_succ, Nat.reduceAdd, Nat.reduceLT, xr_lt, xr_eq, xr_toInt, xr_0, xi_add, xi_sub, xi_mul, xr_div, xr_rm, Int.toNat_natCast, bd_t, true_and, and_true, not_false_eq_true, ↓reduceIte, ilt_t, ilt_f, ile_t, x_c1i, x_c1r, x_c1n, and_self, Option.toList_some, Option.toList_none, List.cons_append, List.nil_append, xr_01, xr_00, ieq_f, ieq_t]
          refine wM_page_47 (by simp) rfl rfl (m_leafOf hR (hR _ _) ⟨by omega, by omega⟩ ?_)
          split at hQ
          next c5 =>
            simp (disch := first | exact hR _ _ | exact x01a | exact x01b | (unfold x_r; omega) | assumption | omega) only [wM_page_50, wM_page_51, wM_page_52, wM_page_55, wM_page_56, wM_page_59, wM_page_60, wM_page_61, wM_page_62, wM_page_63, wM_page_67, wM_page_69, wM_page_71, wM_page_74, wM_page_75, wM_page_78, wM_page_79, wM_page_82, wM_page_84, wM_page_85, wM_page_88, wM_page_89, wM_page_92, wM_page_94, wM_page_95, wM_page_96, wM_page_97, x_gi_int, x_ga_ref, x_ga_null, List.getElem?_cons_zero, List.getElem?_cons_succ, List.length_cons, List.length_nil, List.set_cons_zero, List.set_cons_succ, Nat.reduceAdd, Nat.reduceLT, xr_lt, xr_eq, xr_toInt, xr_0, xi_add, xi_sub, xi_mul, xr_div, xr_rm, Int.toNat_natCast, bd_t, true_and, and_true, not_false_eq_true, ↓reduceIte, ilt_t, ilt_f, ile_t, x_c1i, x_c1r, x_c1n, and_self, Option.toList_some, Option.toList_none, List.cons_append, List.nil_append, xr_01, xr_00, ieq_f, ieq_t]
            exact hQ
          next c5 =>
            have hf := s_frameOf_in S (s_leafOf S (S 12 (t / 8).toNat) (e / 4)) (e % 4)
            simp (disch := first | exact hR _ _ | exact x01a | exact x01b | (unfold x_r; omega) | assumption | omega) only [wM_page_50, wM_page_51, wM_page_52, wM_page_55, wM_page_56, wM_page_59, wM_page_60, wM_page_61, wM_page_62, wM_page_63, x_gi_int, x_ga_ref, x_ga_null, List.getElem?_cons_zero, List.getElem?_cons_succ, List.length_cons, List.length_nil, List.set_cons_zero, List.set_cons_succ, Nat.reduceAdd, Nat.reduceLT, xr_lt, xr_eq, xr_toInt, xr_0, xi_add, xi_sub, xi_mul, xr_div, xr_rm, Int.toNat_natCast, bd_t, true_and, and_true, not_false_eq_true, ↓reduceIte, ilt_t, ilt_f, ile_t, x_c1i, x_c1r, x_c1n, and_self, Option.toList_some, Option.toList_none, List.cons_append, List.nil_append, xr_01, xr_00, ieq_f, ieq_t]
            refine wM_page_64 (by simp) rfl rfl (m_frameOf hR ⟨by omega, by omega⟩ ⟨by omega, by omega⟩ ?_)
            split at hQ
            next c6 =>
              simp (disch := first | exact hR _ _ | exact x01a | exact x01b | (unfold x_r; omega) | assumption | omega) only [wM_page_67, wM_page_69, wM_page_71, wM_page_74, wM_page_75, wM_page_78, wM_page_79, wM_page_82, wM_page_84, wM_page_85, wM_page_88, wM_page_89, wM_page_92, wM_page_94, wM_page_95, wM_page_96, wM_page_97, x_gi_int, x_ga_ref, x_ga_null, List.getElem?_cons_zero, List.getElem?_cons_succ, List.length_cons, List.length_nil, List.set_cons_zero, List.set_cons_succ, Nat.reduceAdd, Nat.reduceLT, xr_lt, xr_eq, xr_toInt, xr_0, xi_add, xi_sub, xi_mul, xr_div, xr_rm, Int.toNat_natCast, bd_t, true_and, and_true, not_false_eq_true, ↓reduceIte, ilt_t, ilt_f, ile_t, x_c1i, x_c1r, x_c1n, and_self, Option.toList_some, Option.toList_none, List.cons_append, List.nil_append, xr_01, xr_00, ieq_f, ieq_t]
              exact hQ
            next c6 =>
              simp (disch := first | exact hR _ _ | exact x01a | exact x01b | (unfold x_r; omega) | assumption | omega) only [wM_page_67, wM_page_69, wM_page_71, wM_page_74, wM_page_75, wM_page_78, wM_page_79, wM_page_82, wM_page_84, wM_page_85, wM_page_88, wM_page_89, wM_page_92, wM_page_94, wM_page_95, wM_page_96, wM_page_97, x_gi_int, x_ga_ref, x_ga_null, List.getElem?_cons_zero, List.getElem?_cons_succ, List.length_cons, List.length_nil, List.set_cons_zero, List.set_cons_succ, Nat.reduceAdd, Nat.reduceLT, xr_lt, xr_eq, xr_toInt, xr_0, xi_add, xi_sub, xi_mul, xr_div, xr_rm, Int.toNat_natCast, bd_t, true_and, and_true, not_false_eq_true, ↓reduceIte, ilt_t, ilt_f, ile_t, x_c1i, x_c1r, x_c1n, and_self, Option.toList_some, Option.toList_none, List.cons_append, List.nil_append, xr_01, xr_00, ieq_f, ieq_t]
              exact hQ
set_option maxHeartbeats 4000000 in
theorem m_map {c sp e : Int} (hG : GS S) (hc : x_r c) (hsp : x_r sp) (he : x_r e) (hQ : Q (some (.int (xi (s_map S c sp e).1))) (putR w mo (s_map S c sp e).2)) : WP P 106 0 [some (.ref mo), some (.int (xi c)), some (.int (xi sp)), some (.int (xi e)), none, none, none] [] (putR w mo S) Q := by
  have hW := hG.1
  have hR := hW.1
  have hn := s_now_in S
  have g1 := he.1
  have g2 := he.2
  simp (disch := first | exact hR _ _ | exact x01a | exact x01b | (unfold x_r; omega) | assumption | omega) only [wM_map_0, x_gi_int, x_ga_ref, x_ga_null, List.getElem?_cons_zero, List.getElem?_cons_succ, List.length_cons, List.length_nil, List.set_cons_zero, List.set_cons_succ, Nat.reduceAdd, Nat.reduceLT, xr_lt, xr_eq, xr_toInt, xr_0, xi_add, xi_sub, xi_mul, xr_div, xr_rm, Int.toNat_natCast, bd_t, true_and, and_true, not_false_eq_true, ↓reduceIte, ilt_t, ilt_f, ile_t, x_c1i, x_c1r, x_c1n, and_self, Option.toList_some, Option.toList_none, List.cons_append, List.nil_append, xr_01, xr_00, ieq_f, ieq_t]
  refine wM_map_1 (by simp) rfl rfl (m_now hR ?_)
  unfold s_map at hQ
  split at hQ
  next c1 =>
    simp (disch := first | exact hR _ _ | exact x01a | exact x01b | (unfold x_r; omega) | assumption | omega) only [wM_map_4, wM_map_7, wM_map_9, x_gi_int, x_ga_ref, x_ga_null, List.getElem?_cons_zero, List.getElem?_cons_succ, List.length_cons, List.length_nil, List.set_cons_zero, List.set_cons_succ, Nat.reduceAdd, Nat.reduceLT, xr_lt, xr_eq, xr_toInt, xr_0, xi_add, xi_sub, xi_mul, xr_div, xr_rm, Int.toNat_natCast, bd_t, true_and, and_true, not_false_eq_true, ↓reduceIte, ilt_t, ilt_f, ile_t, x_c1i, x_c1r, x_c1n, and_self, Option.toList_some, Option.toList_none, List.cons_append, List.nil_append, xr_01, xr_00, ieq_f, ieq_t]
    exact hQ
  next c1 =>
    have hh := s_having_in hW (by omega) c (-1)
    have hh2 := s_having_in hW (by omega) sp 5
    simp (disch := first | exact hR _ _ | exact x01a | exact x01b | (unfold x_r; omega) | assumption | omega) only [wM_map_4, wM_map_7, wM_map_9, wM_map_10, wM_map_11, wM_map_12, x_gi_int, x_ga_ref, x_ga_null, List.getElem?_cons_zero, List.getElem?_cons_succ, List.length_cons, List.length_nil, List.set_cons_zero, List.set_cons_succ, Nat.reduceAdd, Nat.reduceLT, xr_lt, xr_eq, xr_toInt, xr_0, xi_add, xi_sub, xi_mul, xr_div, xr_rm, Int.toNat_natCast, bd_t, true_and, and_true, not_false_eq_true, ↓reduceIte, ilt_t, ilt_f, ile_t, x_c1i, x_c1r, x_c1n, and_self, Option.toList_some, Option.toList_none, List.cons_append, List.nil_append, xr_01, xr_00, ieq_f, ieq_t]
    refine wM_map_13 (by simp) rfl rfl (m_having hW (by omega) hc ⟨by omega, by omega⟩ ?_)
    simp (disch := first | exact hR _ _ | exact x01a | exact x01b | (unfold x_r; omega) | assumption | omega) only [wM_map_16, wM_map_18, wM_map_19, wM_map_20, x_gi_int, x_ga_ref, x_ga_null, List.getElem?_cons_zero, List.getElem?_cons_succ, List.length_cons, List.length_nil, List.set_cons_zero, List.set_cons_succ, Nat.reduceAdd, Nat.reduceLT, xr_lt, xr_eq, xr_toInt, xr_0, xi_add, xi_sub, xi_mul, xr_div, xr_rm, Int.toNat_natCast, bd_t, true_and, and_true, not_false_eq_true, ↓reduceIte, ilt_t, ilt_f, ile_t, x_c1i, x_c1r, x_c1n, and_self, Option.toList_some, Option.toList_none, List.cons_append, List.nil_append, xr_01, xr_00, ieq_f, ieq_t]
    refine wM_map_21 (by simp) rfl rfl (m_having hW (by omega) hsp ⟨by omega, by omega⟩ ?_)
    split at hQ
    next c2 =>
      simp (disch := first | exact hR _ _ | exact x01a | exact x01b | (unfold x_r; omega) | assumption | omega) only [wM_map_24, wM_map_26, wM_map_28, wM_map_31, wM_map_32, wM_map_35, wM_map_37, wM_map_38, wM_map_40, wM_map_43, wM_map_45, wM_map_48, wM_map_49, x_gi_int, x_ga_ref, x_ga_null, List.getElem?_cons_zero, List.getElem?_cons_succ, List.length_cons, List.length_nil, List.set_cons_zero, List.set_cons_succ, Nat.reduceAdd, Nat.reduceLT, xr_lt, xr_eq, xr_toInt, xr_0, xi_add, xi_sub, xi_mul, xr_div, xr_rm, Int.toNat_natCast, bd_t, true_and, and_true, not_false_eq_true, ↓reduceIte, ilt_t, ilt_f, ile_t, x_c1i, x_c1r, x_c1n, and_self, Option.toList_some, Option.toList_none, List.cons_append, List.nil_append, xr_01, xr_00, ieq_f, ieq_t]
      exact hQ
    next c2 =>
      have hu := hG.2.1.2.1 (s_having S c (-1)).toNat (by omega)
      split at hQ
      next c3 =>
        simp (disch := first | exact hR _ _ | exact x01a | exact x01b | (unfold x_r; omega) | assumption | omega) only [wM_map_24, wM_map_26, wM_map_28, wM_map_31, wM_map_32, wM_map_35, wM_map_37, wM_map_38, wM_map_40, wM_map_43, wM_map_45, wM_map_48, wM_map_49, x_gi_int, x_ga_ref, x_ga_null, List.getElem?_cons_zero, List.getElem?_cons_succ, List.length_cons, List.length_nil, List.set_cons_zero, List.set_cons_succ, Nat.reduceAdd, Nat.reduceLT, xr_lt, xr_eq, xr_toInt, xr_0, xi_add, xi_sub, xi_mul, xr_div, xr_rm, Int.toNat_natCast, bd_t, true_and, and_true, not_false_eq_true, ↓reduceIte, ilt_t, ilt_f, ile_t, x_c1i, x_c1r, x_c1n, and_self, Option.toList_some, Option.toList_none, List.cons_append, List.nil_append, xr_01, xr_00, ieq_f, ieq_t]
        exact hQ
      next c3 =>
        split at hQ
        next c4 =>
          simp (disch := first | exact hR _ _ | exact x01a | exact x01b | (unfold x_r; omega) | assumption | omega) only [wM_map_24, wM_map_26, wM_map_28, wM_map_31, wM_map_32, wM_map_35, wM_map_37, wM_map_38, wM_map_40, wM_map_43, wM_map_45, wM_map_48, wM_map_49, x_gi_int, x_ga_ref, x_ga_null, List.getElem?_cons_zero, List.getElem?_cons_succ, List.length_cons, List.length_nil, List.set_cons_zero, List.set_cons_succ, Nat.reduceAdd, Nat.reduceLT, xr_lt, xr_eq, xr_toInt, xr_0, xi_add, xi_sub, xi_mul, xr_div, xr_rm, Int.toNat_natCast, bd_t, true_and, and_true, not_false_eq_true, ↓reduceIte, ilt_t, ilt_f, ile_t, x_c1i, x_c1r, x_c1n, and_self, Option.toList_some, Option.toList_none, List.cons_append, List.nil_append, xr_01, xr_00, ieq_f, ieq_t]
          exact hQ
        next c4 =>
          have hu2 := hG.2.1.2.1 (s_having S sp 5).toNat (by omega)
          split at hQ
          next c5 =>
            simp (disch := first | exact hR _ _ | exact x01a | exact x01b | (unfold x_r; omega) | assumption | omega) only [wM_map_24, wM_map_26, wM_map_28, wM_map_31, wM_map_32, wM_map_35, wM_map_37, wM_map_38, wM_map_40, wM_map_43, wM_map_45, wM_map_48, wM_map_49, wM_map_50, wM_map_51, wM_map_54, wM_map_55, wM_map_57, wM_map_60, wM_map_61, x_gi_int, x_ga_ref, x_ga_null, List.getElem?_cons_zero, List.getElem?_cons_succ, List.length_cons, List.length_nil, List.set_cons_zero, List.set_cons_succ, Nat.reduceAdd, Nat.reduceLT, xr_lt, xr_eq, xr_toInt, xr_0, xi_add, xi_sub, xi_mul, xr_div, xr_rm, Int.toNat_natCast, bd_t, true_and, and_true, not_false_eq_true, ↓reduceIte, ilt_t, ilt_f, ile_t, x_c1i, x_c1r, x_c1n, and_self, Option.toList_some, Option.toList_none, List.cons_append, List.nil_append, xr_01, xr_00, ieq_f, ieq_t]
            exact hQ
          next c5 =>
            split at hQ
            next c6 =>
              simp (disch := first | exact hR _ _ | exact x01a | exact x01b | (unfold x_r; omega) | assumption | omega) only [wM_map_24, wM_map_26, wM_map_28, wM_map_31, wM_map_32, wM_map_35, wM_map_37, wM_map_38, wM_map_40, wM_map_43, wM_map_45, wM_map_48, wM_map_49, wM_map_50, wM_map_51, wM_map_54, wM_map_55, wM_map_57, wM_map_60, wM_map_61, x_gi_int, x_ga_ref, x_ga_null, List.getElem?_cons_zero, List.getElem?_cons_succ, List.length_cons, List.length_nil, List.set_cons_zero, List.set_cons_succ, Nat.reduceAdd, Nat.reduceLT, xr_lt, xr_eq, xr_toInt, xr_0, xi_add, xi_sub, xi_mul, xr_div, xr_rm, Int.toNat_natCast, bd_t, true_and, and_true, not_false_eq_true, ↓reduceIte, ilt_t, ilt_f, ile_t, x_c1i, x_c1r, x_c1n, and_self, Option.toList_some, Option.toList_none, List.cons_append, List.nil_append, xr_01, xr_00, ieq_f, ieq_t]
              exact hQ
            next c6 =>
              have hl := s_leafOf_in S (S 1 (s_having S sp 5).toNat) (e / 4)
              have hf := s_frameOf_in S (s_leafOf S (S 1 (s_having S sp 5).toNat) (e / 4)) (e % 4)
              simp (disch := first | exact hR _ _ | exact x01a | exact x01b | (unfold x_r; omega) | assumption | omega) only [wM_map_24, wM_map_26, wM_map_28, wM_map_31, wM_map_32, wM_map_35, wM_map_37, wM_map_38, wM_map_40, wM_map_43, wM_map_45, wM_map_48, wM_map_49, wM_map_50, wM_map_51, wM_map_54, wM_map_55, wM_map_57, wM_map_60, wM_map_61, wM_map_62, wM_map_63, wM_map_64, wM_map_67, wM_map_69, wM_map_70, wM_map_71, wM_map_72, x_gi_int, x_ga_ref, x_ga_null, List.getElem?_cons_zero, List.getElem?_cons_succ, List.length_cons, List.length_nil, List.set_cons_zero, List.set_cons_succ, Nat.reduceAdd, Nat.reduceLT, xr_lt, xr_eq, xr_toInt, xr_0, xi_add, xi_sub, xi_mul, xr_div, xr_rm, Int.toNat_natCast, bd_t, true_and, and_true, not_false_eq_true, ↓reduceIte, ilt_t, ilt_f, ile_t, x_c1i, x_c1r, x_c1n, and_self, Option.toList_some, Option.toList_none, List.cons_append, List.nil_append, xr_01, xr_00, ieq_f, ieq_t]
              refine wM_map_73 (by simp) rfl rfl (m_leafOf hR (hR _ _) ⟨by omega, by omega⟩ ?_)
              split at hQ
              next c7 =>
                split at hQ
                next c8 =>
                  split at hQ
                  next c9 =>
                    simp (disch := first | exact hR _ _ | exact x01a | exact x01b | (unfold x_r; omega) | assumption | omega) only [wM_map_76, wM_map_78, wM_map_79, wM_map_82, wM_map_84, wM_map_85, wM_map_87, wM_map_90, wM_map_91, wM_map_94, wM_map_95, wM_map_98, wM_map_100, wM_map_101, wM_map_102, wM_map_103, wM_map_104, wM_map_105, wM_map_108, wM_map_110, wM_map_113, wM_map_115, wM_map_116, wM_map_117, wM_map_120, wM_map_121, wM_map_124, wM_map_126, wM_map_127, wM_map_128, wM_map_129, wM_map_130, wM_map_133, wM_map_135, wM_map_136, wM_map_137, wM_map_138, wM_map_141, wM_map_142, wM_map_145, wM_map_147, wM_map_148, wM_map_149, wM_map_150, wM_map_151, wM_map_152, wM_map_153, wM_map_154, wM_map_155, x_gi_int, x_ga_ref, x_ga_null, List.getElem?_cons_zero, List.getElem?_cons_succ, List.length_cons, List.length_nil, List.set_cons_zero, List.set_cons_succ, Nat.reduceAdd, Nat.reduceLT, xr_lt, xr_eq, xr_toInt, xr_0, xi_add, xi_sub, xi_mul, xr_div, xr_rm, Int.toNat_natCast, bd_t, true_and, and_true, not_false_eq_true, ↓reduceIte, ilt_t, ilt_f, ile_t, x_c1i, x_c1r, x_c1n, and_self, Option.toList_some, Option.toList_none, List.cons_append, List.nil_append, xr_01, xr_00, ieq_f, ieq_t, sset_at, Nat.reduceEqDiff, false_and, and_false, eq_self, and_self, reduceCtorEq]
                    exact hQ
                  next c9 =>
                    simp (disch := first | exact hR _ _ | exact x01a | exact x01b | (unfold x_r; omega) | assumption | omega) only [wM_map_76, wM_map_78, wM_map_79, wM_map_82, wM_map_84, wM_map_85, wM_map_87, wM_map_90, wM_map_91, wM_map_94, wM_map_95, wM_map_98, wM_map_100, wM_map_101, wM_map_102, wM_map_103, wM_map_104, wM_map_105, wM_map_108, wM_map_110, wM_map_113, wM_map_115, wM_map_116, wM_map_117, wM_map_120, wM_map_121, wM_map_124, wM_map_126, wM_map_127, wM_map_128, wM_map_129, wM_map_130, wM_map_133, wM_map_135, wM_map_136, wM_map_137, wM_map_138, wM_map_141, wM_map_142, wM_map_145, wM_map_147, wM_map_148, wM_map_149, wM_map_150, wM_map_151, wM_map_152, wM_map_153, wM_map_154, wM_map_155, x_gi_int, x_ga_ref, x_ga_null, List.getElem?_cons_zero, List.getElem?_cons_succ, List.length_cons, List.length_nil, List.set_cons_zero, List.set_cons_succ, Nat.reduceAdd, Nat.reduceLT, xr_lt, xr_eq, xr_toInt, xr_0, xi_add, xi_sub, xi_mul, xr_div, xr_rm, Int.toNat_natCast, bd_t, true_and, and_true, not_false_eq_true, ↓reduceIte, ilt_t, ilt_f, ile_t, x_c1i, x_c1r, x_c1n, and_self, Option.toList_some, Option.toList_none, List.cons_append, List.nil_append, xr_01, xr_00, ieq_f, ieq_t]
                    exact hQ
                next c8 =>
                  simp (disch := first | exact hR _ _ | exact x01a | exact x01b | (unfold x_r; omega) | assumption | omega) only [wM_map_76, wM_map_78, wM_map_79, wM_map_82, wM_map_84, wM_map_85, wM_map_87, wM_map_90, wM_map_91, wM_map_94, wM_map_95, wM_map_98, wM_map_100, wM_map_101, wM_map_102, wM_map_103, wM_map_104, wM_map_105, wM_map_108, wM_map_110, wM_map_113, wM_map_115, wM_map_116, wM_map_117, wM_map_120, wM_map_121, wM_map_124, wM_map_126, wM_map_127, wM_map_128, wM_map_129, wM_map_130, wM_map_133, wM_map_135, wM_map_136, wM_map_137, wM_map_138, wM_map_141, wM_map_142, wM_map_145, wM_map_147, wM_map_148, wM_map_149, wM_map_150, wM_map_151, wM_map_152, wM_map_153, wM_map_154, wM_map_155, x_gi_int, x_ga_ref, x_ga_null, List.getElem?_cons_zero, List.getElem?_cons_succ, List.length_cons, List.length_nil, List.set_cons_zero, List.set_cons_succ, Nat.reduceAdd, Nat.reduceLT, xr_lt, xr_eq, xr_toInt, xr_0, xi_add, xi_sub, xi_mul, xr_div, xr_rm, Int.toNat_natCast, bd_t, true_and, and_true, not_false_eq_true, ↓reduceIte, ilt_t, ilt_f, ile_t, x_c1i, x_c1r, x_c1n, and_self, Option.toList_some, Option.toList_none, List.cons_append, List.nil_append, xr_01, xr_00, ieq_f, ieq_t]
                  exact hQ
              next c7 =>
                split at hQ
                next c8 =>
                  split at hQ
                  next c9 =>
                    simp (disch := first | exact hR _ _ | exact x01a | exact x01b | (unfold x_r; omega) | assumption | omega) only [wM_map_76, wM_map_78, wM_map_79, wM_map_82, wM_map_84, wM_map_85, wM_map_87, wM_map_156, wM_map_157, wM_map_160, wM_map_162, wM_map_163, wM_map_164, wM_map_167, wM_map_169, wM_map_172, wM_map_173, wM_map_175, wM_map_176, wM_map_177, wM_map_181, wM_map_184, wM_map_186, x_gi_int, x_ga_ref, x_ga_null, List.getElem?_cons_zero, List.getElem?_cons_succ, List.length_cons, List.length_nil, List.set_cons_zero, List.set_cons_succ, Nat.reduceAdd, Nat.reduceLT, xr_lt, xr_eq, xr_toInt, xr_0, xi_add, xi_sub, xi_mul, xr_div, xr_rm, Int.toNat_natCast, bd_t, true_and, and_true, not_false_eq_true, ↓reduceIte, ilt_t, ilt_f, ile_t, x_c1i, x_c1r, x_c1n, and_self, Option.toList_some, Option.toList_none, List.cons_append, List.nil_append, xr_01, xr_00, ieq_f, ieq_t]
                    exact hQ
                  next c9 =>
                    simp (disch := first | exact hR _ _ | exact x01a | exact x01b | (unfold x_r; omega) | assumption | omega) only [wM_map_76, wM_map_78, wM_map_79, wM_map_82, wM_map_84, wM_map_85, wM_map_87, wM_map_156, wM_map_157, wM_map_160, wM_map_162, wM_map_163, wM_map_164, wM_map_167, wM_map_169, wM_map_172, wM_map_173, wM_map_175, wM_map_176, wM_map_177, x_gi_int, x_ga_ref, x_ga_null, List.getElem?_cons_zero, List.getElem?_cons_succ, List.length_cons, List.length_nil, List.set_cons_zero, List.set_cons_succ, Nat.reduceAdd, Nat.reduceLT, xr_lt, xr_eq, xr_toInt, xr_0, xi_add, xi_sub, xi_mul, xr_div, xr_rm, Int.toNat_natCast, bd_t, true_and, and_true, not_false_eq_true, ↓reduceIte, ilt_t, ilt_f, ile_t, x_c1i, x_c1r, x_c1n, and_self, Option.toList_some, Option.toList_none, List.cons_append, List.nil_append, xr_01, xr_00, ieq_f, ieq_t]
                    refine wM_map_178 (by simp) rfl rfl (m_frameOf hR ⟨by omega, by omega⟩ ⟨by omega, by omega⟩ ?_)
                    split at hQ
                    next c10 =>
                      simp (disch := first | exact hR _ _ | exact x01a | exact x01b | (unfold x_r; omega) | assumption | omega) only [wM_map_181, wM_map_184, wM_map_186, wM_map_187, wM_map_188, wM_map_191, wM_map_193, wM_map_195, wM_map_196, wM_map_197, wM_map_200, wM_map_202, wM_map_203, wM_map_204, wM_map_205, wM_map_206, wM_map_207, x_gi_int, x_ga_ref, x_ga_null, List.getElem?_cons_zero, List.getElem?_cons_succ, List.length_cons, List.length_nil, List.set_cons_zero, List.set_cons_succ, Nat.reduceAdd, Nat.reduceLT, xr_lt, xr_eq, xr_toInt, xr_0, xi_add, xi_sub, xi_mul, xr_div, xr_rm, Int.toNat_natCast, bd_t, true_and, and_true, not_false_eq_true, ↓reduceIte, ilt_t, ilt_f, ile_t, x_c1i, x_c1r, x_c1n, and_self, Option.toList_some, Option.toList_none, List.cons_append, List.nil_append, xr_01, xr_00, ieq_f, ieq_t, sset_at, Nat.reduceEqDiff, false_and, and_false, eq_self, and_self, reduceCtorEq]
                      exact hQ
                    next c10 =>
                      simp (disch := first | exact hR _ _ | exact x01a | exact x01b | (unfold x_r; omega) | assumption | omega) only [wM_map_181, wM_map_184, wM_map_186, x_gi_int, x_ga_ref, x_ga_null, List.getElem?_cons_zero, List.getElem?_cons_succ, List.length_cons, List.length_nil, List.set_cons_zero, List.set_cons_succ, Nat.reduceAdd, Nat.reduceLT, xr_lt, xr_eq, xr_toInt, xr_0, xi_add, xi_sub, xi_mul, xr_div, xr_rm, Int.toNat_natCast, bd_t, true_and, and_true, not_false_eq_true, ↓reduceIte, ilt_t, ilt_f, ile_t, x_c1i, x_c1r, x_c1n, and_self, Option.toList_some, Option.toList_none, List.cons_append, List.nil_append, xr_01, xr_00, ieq_f, ieq_t]
                      exact hQ
                next c8 =>
                  simp (disch := first | exact hR _ _ | exact x01a | exact x01b | (unfold x_r; omega) | assumption | omega) only [wM_map_76, wM_map_78, wM_map_79, wM_map_82, wM_map_84, wM_map_85, wM_map_87, wM_map_156, wM_map_157, wM_map_160, wM_map_162, wM_map_163, wM_map_164, wM_map_167, wM_map_169, wM_map_172, wM_map_173, wM_map_175, wM_map_176, wM_map_177, wM_map_181, wM_map_184, wM_map_186, x_gi_int, x_ga_ref, x_ga_null, List.getElem?_cons_zero, List.getElem?_cons_succ, List.length_cons, List.length_nil, List.set_cons_zero, List.set_cons_succ, Nat.reduceAdd, Nat.reduceLT, xr_lt, xr_eq, xr_toInt, xr_0, xi_add, xi_sub, xi_mul, xr_div, xr_rm, Int.toNat_natCast, bd_t, true_and, and_true, not_false_eq_true, ↓reduceIte, ilt_t, ilt_f, ile_t, x_c1i, x_c1r, x_c1n, and_self, Option.toList_some, Option.toList_none, List.cons_append, List.nil_append, xr_01, xr_00, ieq_f, ieq_t]
                  exact hQ
set_option maxHeartbeats 4000000 in
theorem m_listen {b bl : Int} (hG : GS S) (hb : x_r b) (hbl : bl = 0 ∨ bl = 1) (hQ : Q (some (.int (xi (s_listen S b bl).1))) (putR w mo (s_listen S b bl).2)) : WP P 105 0 [some (.ref mo), some (.int (xi b)), some (.int (xi bl)), none, none, none] [] (putR w mo S) Q := by
  have hW := hG.1
  have hR := hW.1
  have hn := s_now_in S
  simp (disch := first | exact hR _ _ | exact x01a | exact x01b | (unfold x_r; omega) | assumption | omega) only [wM_listen_0, x_gi_int, x_ga_ref, x_ga_null, List.getElem?_cons_zero, List.getElem?_cons_succ, List.length_cons, List.length_nil, List.set_cons_zero, List.set_cons_succ, Nat.reduceAdd, Nat.reduceLT, xr_lt, xr_eq, xr_toInt, xr_0, xi_add, xi_sub, xi_mul, xr_div, xr_rm, Int.toNat_natCast, bd_t, true_and, and_true, not_false_eq_true, ↓reduceIte, ilt_t, ilt_f, ile_t, x_c1i, x_c1r, x_c1n, and_self, Option.toList_some, Option.toList_none, List.cons_append, List.nil_append, xr_01, xr_00, ieq_f, ieq_t]
  refine wM_listen_1 (by simp) rfl rfl (m_now hR ?_)
  unfold s_listen at hQ
  split at hQ
  next c1 =>
    simp (disch := first | exact hR _ _ | exact x01a | exact x01b | (unfold x_r; omega) | assumption | omega) only [wM_listen_4, wM_listen_5, wM_listen_6, wM_listen_9, wM_listen_11, x_gi_int, x_ga_ref, x_ga_null, List.getElem?_cons_zero, List.getElem?_cons_succ, List.length_cons, List.length_nil, List.set_cons_zero, List.set_cons_succ, Nat.reduceAdd, Nat.reduceLT, xr_lt, xr_eq, xr_toInt, xr_0, xi_add, xi_sub, xi_mul, xr_div, xr_rm, Int.toNat_natCast, bd_t, true_and, and_true, not_false_eq_true, ↓reduceIte, ilt_t, ilt_f, ile_t, x_c1i, x_c1r, x_c1n, and_self, Option.toList_some, Option.toList_none, List.cons_append, List.nil_append, xr_01, xr_00, ieq_f, ieq_t]
    exact hQ
  next c1 =>
    have hh := s_having_in hW (by omega) b 4
    simp (disch := first | exact hR _ _ | exact x01a | exact x01b | (unfold x_r; omega) | assumption | omega) only [wM_listen_4, wM_listen_5, wM_listen_6, wM_listen_9, wM_listen_11, wM_listen_12, wM_listen_13, wM_listen_14, x_gi_int, x_ga_ref, x_ga_null, List.getElem?_cons_zero, List.getElem?_cons_succ, List.length_cons, List.length_nil, List.set_cons_zero, List.set_cons_succ, Nat.reduceAdd, Nat.reduceLT, xr_lt, xr_eq, xr_toInt, xr_0, xi_add, xi_sub, xi_mul, xr_div, xr_rm, Int.toNat_natCast, bd_t, true_and, and_true, not_false_eq_true, ↓reduceIte, ilt_t, ilt_f, ile_t, x_c1i, x_c1r, x_c1n, and_self, Option.toList_some, Option.toList_none, List.cons_append, List.nil_append, xr_01, xr_00, ieq_f, ieq_t]
    refine wM_listen_15 (by simp) rfl rfl (m_having hW (by omega) hb ⟨by omega, by omega⟩ ?_)
    split at hQ
    next c2 =>
      simp (disch := first | exact hR _ _ | exact x01a | exact x01b | (unfold x_r; omega) | assumption | omega) only [wM_listen_18, wM_listen_20, wM_listen_22, wM_listen_25, wM_listen_26, wM_listen_29, wM_listen_31, wM_listen_32, wM_listen_33, wM_listen_34, wM_listen_37, wM_listen_39, wM_listen_42, wM_listen_43, wM_listen_46, wM_listen_47, x_gi_int, x_ga_ref, x_ga_null, List.getElem?_cons_zero, List.getElem?_cons_succ, List.length_cons, List.length_nil, List.set_cons_zero, List.set_cons_succ, Nat.reduceAdd, Nat.reduceLT, xr_lt, xr_eq, xr_toInt, xr_0, xi_add, xi_sub, xi_mul, xr_div, xr_rm, Int.toNat_natCast, bd_t, true_and, and_true, not_false_eq_true, ↓reduceIte, ilt_t, ilt_f, ile_t, x_c1i, x_c1r, x_c1n, and_self, Option.toList_some, Option.toList_none, List.cons_append, List.nil_append, xr_01, xr_00, ieq_f, ieq_t]
      exact hQ
    next c2 =>
      have hu := hG.2.1.2.1 (s_having S b 4).toNat (by omega)
      have hr := hG.2.2.2.1 (s_having S b 4).toNat (by omega) (by omega)
      have ha := s_and_in (a := S 2 (s_having S b 4).toNat) (b := 1) (by omega)
      have hbe := hG.2.2.2.2.2.1 (S 1 (s_having S b 4).toNat / 2).toNat (by omega)
      split at hQ
      next c3 =>
        simp (disch := first | exact hR _ _ | exact x01a | exact x01b | (unfold x_r; omega) | assumption | omega) only [wM_listen_18, wM_listen_20, wM_listen_22, wM_listen_25, wM_listen_26, wM_listen_29, wM_listen_31, wM_listen_32, wM_listen_33, wM_listen_34, wM_listen_37, wM_listen_39, wM_listen_42, wM_listen_43, wM_listen_46, wM_listen_47, x_gi_int, x_ga_ref, x_ga_null, List.getElem?_cons_zero, List.getElem?_cons_succ, List.length_cons, List.length_nil, List.set_cons_zero, List.set_cons_succ, Nat.reduceAdd, Nat.reduceLT, xr_lt, xr_eq, xr_toInt, xr_0, xi_add, xi_sub, xi_mul, xr_div, xr_rm, Int.toNat_natCast, bd_t, true_and, and_true, not_false_eq_true, ↓reduceIte, ilt_t, ilt_f, ile_t, x_c1i, x_c1r, x_c1n, and_self, Option.toList_some, Option.toList_none, List.cons_append, List.nil_append, xr_01, xr_00, ieq_f, ieq_t, xr_and]
        exact hQ
      next c3 =>
        split at hQ
        next c4 =>
          split at hQ
          next c5 =>
            simp (disch := first | exact hR _ _ | exact x01a | exact x01b | (unfold x_r; omega) | assumption | omega) only [wM_listen_18, wM_listen_20, wM_listen_22, wM_listen_25, wM_listen_26, wM_listen_29, wM_listen_31, wM_listen_32, wM_listen_33, wM_listen_34, wM_listen_37, wM_listen_39, wM_listen_42, wM_listen_43, wM_listen_46, wM_listen_47, wM_listen_48, wM_listen_49, wM_listen_52, wM_listen_54, wM_listen_55, wM_listen_56, wM_listen_57, wM_listen_59, wM_listen_60, wM_listen_63, wM_listen_65, wM_listen_66, wM_listen_91, wM_listen_92, wM_listen_109, wM_listen_110, wM_listen_113, wM_listen_115, wM_listen_118, wM_listen_120, x_gi_int, x_ga_ref, x_ga_null, List.getElem?_cons_zero, List.getElem?_cons_succ, List.length_cons, List.length_nil, List.set_cons_zero, List.set_cons_succ, Nat.reduceAdd, Nat.reduceLT, xr_lt, xr_eq, xr_toInt, xr_0, xi_add, xi_sub, xi_mul, xr_div, xr_rm, Int.toNat_natCast, bd_t, true_and, and_true, not_false_eq_true, ↓reduceIte, ilt_t, ilt_f, ile_t, x_c1i, x_c1r, x_c1n, and_self, Option.toList_some, Option.toList_none, List.cons_append, List.nil_append, xr_01, xr_00, ieq_f, ieq_t, xr_and]
            exact hQ
          next c5 =>
            simp (disch := first | exact hR _ _ | exact x01a | exact x01b | (unfold x_r; omega) | assumption | omega) only [wM_listen_18, wM_listen_20, wM_listen_22, wM_listen_25, wM_listen_26, wM_listen_29, wM_listen_31, wM_listen_32, wM_listen_33, wM_listen_34, wM_listen_37, wM_listen_39, wM_listen_42, wM_listen_43, wM_listen_46, wM_listen_47, wM_listen_48, wM_listen_49, wM_listen_52, wM_listen_54, wM_listen_55, wM_listen_56, wM_listen_57, wM_listen_59, wM_listen_60, wM_listen_63, wM_listen_65, wM_listen_66, wM_listen_91, wM_listen_92, wM_listen_95, wM_listen_96, wM_listen_97, wM_listen_98, wM_listen_99, wM_listen_102, wM_listen_104, wM_listen_105, x_gi_int, x_ga_ref, x_ga_null, List.getElem?_cons_zero, List.getElem?_cons_succ, List.length_cons, List.length_nil, List.set_cons_zero, List.set_cons_succ, Nat.reduceAdd, Nat.reduceLT, xr_lt, xr_eq, xr_toInt, xr_0, xi_add, xi_sub, xi_mul, xr_div, xr_rm, Int.toNat_natCast, bd_t, true_and, and_true, not_false_eq_true, ↓reduceIte, ilt_t, ilt_f, ile_t, x_c1i, x_c1r, x_c1n, and_self, Option.toList_some, Option.toList_none, List.cons_append, List.nil_append, xr_01, xr_00, ieq_f, ieq_t, xr_and]
            refine wM_listen_106 (by simp) rfl rfl (m_waits hR (by omega) (by omega) ?_)
            simp (disch := first | exact hR _ _ | exact x01a | exact x01b | (unfold x_r; omega) | assumption | omega) only [wM_listen_109, wM_listen_110, wM_listen_113, wM_listen_115, wM_listen_118, wM_listen_120, x_gi_int, x_ga_ref, x_ga_null, List.getElem?_cons_zero, List.getElem?_cons_succ, List.length_cons, List.length_nil, List.set_cons_zero, List.set_cons_succ, Nat.reduceAdd, Nat.reduceLT, xr_lt, xr_eq, xr_toInt, xr_0, xi_add, xi_sub, xi_mul, xr_div, xr_rm, Int.toNat_natCast, bd_t, true_and, and_true, not_false_eq_true, ↓reduceIte, ilt_t, ilt_f, ile_t, x_c1i, x_c1r, x_c1n, and_self, Option.toList_some, Option.toList_none, List.cons_append, List.nil_append, xr_01, xr_00, ieq_f, ieq_t]
            exact hQ
        next c4 =>
          simp (disch := first | exact hR _ _ | exact x01a | exact x01b | (unfold x_r; omega) | assumption | omega) only [wM_listen_18, wM_listen_20, wM_listen_22, wM_listen_25, wM_listen_26, wM_listen_29, wM_listen_31, wM_listen_32, wM_listen_33, wM_listen_34, wM_listen_37, wM_listen_39, wM_listen_42, wM_listen_43, wM_listen_46, wM_listen_47, wM_listen_48, wM_listen_49, wM_listen_52, wM_listen_54, wM_listen_55, wM_listen_56, wM_listen_57, wM_listen_59, wM_listen_60, wM_listen_63, wM_listen_65, wM_listen_66, wM_listen_69, wM_listen_70, wM_listen_71, wM_listen_72, wM_listen_75, wM_listen_77, x_gi_int, x_ga_ref, x_ga_null, List.getElem?_cons_zero, List.getElem?_cons_succ, List.length_cons, List.length_nil, List.set_cons_zero, List.set_cons_succ, Nat.reduceAdd, Nat.reduceLT, xr_lt, xr_eq, xr_toInt, xr_0, xi_add, xi_sub, xi_mul, xr_div, xr_rm, Int.toNat_natCast, bd_t, true_and, and_true, not_false_eq_true, ↓reduceIte, ilt_t, ilt_f, ile_t, x_c1i, x_c1r, x_c1n, and_self, Option.toList_some, Option.toList_none, List.cons_append, List.nil_append, xr_01, xr_00, ieq_f, ieq_t, xr_and]
          refine wM_listen_78 (by simp) rfl rfl (m_hears hR (by omega) (by omega) ?_)
          simp (disch := first | exact hR _ _ | exact x01a | exact x01b | (unfold x_r; omega) | assumption | omega) only [wM_listen_81, wM_listen_82, wM_listen_85, wM_listen_87, wM_listen_88, wM_listen_89, wM_listen_90, x_gi_int, x_ga_ref, x_ga_null, List.getElem?_cons_zero, List.getElem?_cons_succ, List.length_cons, List.length_nil, List.set_cons_zero, List.set_cons_succ, Nat.reduceAdd, Nat.reduceLT, xr_lt, xr_eq, xr_toInt, xr_0, xi_add, xi_sub, xi_mul, xr_div, xr_rm, Int.toNat_natCast, bd_t, true_and, and_true, not_false_eq_true, ↓reduceIte, ilt_t, ilt_f, ile_t, x_c1i, x_c1r, x_c1n, and_self, Option.toList_some, Option.toList_none, List.cons_append, List.nil_append, xr_01, xr_00, ieq_f, ieq_t]
          exact hQ
end RJ
