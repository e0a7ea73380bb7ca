theorem RgS.transfer {S : xS} (hW : WfS S) {a b : Int} (ha0 : 0 ≤ a) (ha1 : a < 16) : RgS (s_transfer S a b) := by
  have hR0 := hW.1
  have hW1 : WfS (s_tr1 S a b) := (hW.set (hR0 _ _) (by omega) (by omega) (by omega)).set (hR0 _ _) (by omega) (by omega) (by omega)
  unfold s_transfer
  generalize s_tr1 S a b = S1 at hW1
  have hR := hW1.1
  have hfa := s_find_in hW1 (t := a.toNat) (by omega) (S1 20 a.toNat)
  generalize s_find S1 a.toNat (S1 20 a.toNat) = s at hfa
  generalize s_find S1 b.toNat (S1 20 b.toNat) = d
  unfold s_trF
  have h0 : RgS (sset S1 17 b.toNat 0) := hR.set x_r_0
  split
  · exact h0
  · split
    · exact h0
    · split
      · exact h0
      · split
        · exact h0
        · split
          · unfold s_trC
            have hF : RgS (s_fill (sset S1 17 b.toNat 1) d (S1 0 s.toNat) (S1 1 s.toNat) 0 s) := (hR.set x_r_1).fill (hR _ _) (hR _ _) x_r_0 ⟨by omega, by omega⟩
            exact (hF.set (hF _ _)).set (hF _ _)
          · exact h0
section RL
variable {P : xP} {w : xH} {Q : Option Value → xH → Prop} {mo : Nat} {S : xS}
set_option maxHeartbeats 4000000 in
theorem m_send {g word c bl : Int} (hG : GS S) (h1 : x_r g) (h2 : x_r word) (h3 : x_r c) (hbl : bl = 0 ∨ bl = 1) (hQ : Q (some (.int (xi (s_send S g word c bl).1))) (putR w mo (s_send S g word c bl).2)) : WP P 97 0 [some (.ref mo), some (.int (xi g)), some (.int (xi word)), some (.int (xi c)), some (.int (xi bl)), none, none, none] [] (putR w mo S) Q := by
  have hW := hG.1
  have hR := hW.1
  have hn := s_now_in S
  simp (disch := first | exact hR _ _ | exact x01a | exact x01b | (unfold x_r; omega) | assumption | omega) only [wM_send_0, x_gi_int, x_ga_ref, x_ga_null, List.getElem?_cons_zero, List.getElem?_cons_succ, List.length_cons, List.length_nil, List.set_cons_zero, List.set_cons_succ, Nat.reduceAdd, Nat.reduceLT, xr_lt, xr_eq, xr_toInt, xr_0, xi_add, xi_sub, xi_mul, xr_div, xr_rm, Int.toNat_natCast, bd_t, true_and, and_true, not_false_eq_true, ↓reduceIte, ilt_t, ilt_f, ile_t, x_c1i, x_c1r, x_c1n, and_self, Option.toList_some, Option.toList_none, List.cons_append, List.nil_append, xr_01, xr_00, ieq_f, ieq_t]
  refine wM_send_1 (by simp) rfl rfl (m_now hR ?_)
  unfold s_send at hQ
  split at hQ
  next c1 =>
    simp (disch := first | exact hR _ _ | exact x01a | exact x01b | (unfold x_r; omega) | assumption | omega) only [wM_send_4, wM_send_6, wM_send_8, wM_send_11, wM_send_13, x_gi_int, x_ga_ref, x_ga_null, List.getElem?_cons_zero, List.getElem?_cons_succ, List.length_cons, List.length_nil, List.set_cons_zero, List.set_cons_succ, Nat.reduceAdd, Nat.reduceLT, xr_lt, xr_eq, xr_toInt, xr_0, xi_add, xi_sub, xi_mul, xr_div, xr_rm, Int.toNat_natCast, bd_t, true_and, and_true, not_false_eq_true, ↓reduceIte, ilt_t, ilt_f, ile_t, x_c1i, x_c1r, x_c1n, and_self, Option.toList_some, Option.toList_none, List.cons_append, List.nil_append, xr_01, xr_00, ieq_f, ieq_t]
    exact hQ
  next c1 =>
    have hh := s_having_in hW (by omega) g 3
    simp (disch := first | exact hR _ _ | exact x01a | exact x01b | (unfold x_r; omega) | assumption | omega) only [wM_send_4, wM_send_6, wM_send_8, wM_send_11, wM_send_13, wM_send_14, wM_send_15, wM_send_16, x_gi_int, x_ga_ref, x_ga_null, List.getElem?_cons_zero, List.getElem?_cons_succ, List.length_cons, List.length_nil, List.set_cons_zero, List.set_cons_succ, Nat.reduceAdd, Nat.reduceLT, xr_lt, xr_eq, xr_toInt, xr_0, xi_add, xi_sub, xi_mul, xr_div, xr_rm, Int.toNat_natCast, bd_t, true_and, and_true, not_false_eq_true, ↓reduceIte, ilt_t, ilt_f, ile_t, x_c1i, x_c1r, x_c1n, and_self, Option.toList_some, Option.toList_none, List.cons_append, List.nil_append, xr_01, xr_00, ieq_f, ieq_t]
    refine wM_send_17 (by simp) rfl rfl (m_having hW (by omega) h1 ⟨by omega, by omega⟩ ?_)
    split at hQ
    next c2 =>
      simp (disch := first | exact hR _ _ | exact x01a | exact x01b | (unfold x_r; omega) | assumption | omega) only [wM_send_20, wM_send_22, wM_send_24, wM_send_27, wM_send_28, wM_send_31, wM_send_33, wM_send_34, wM_send_35, wM_send_36, wM_send_39, wM_send_41, wM_send_44, wM_send_45, wM_send_48, wM_send_49, x_gi_int, x_ga_ref, x_ga_null, List.getElem?_cons_zero, List.getElem?_cons_succ, List.length_cons, List.length_nil, List.set_cons_zero, List.set_cons_succ, Nat.reduceAdd, Nat.reduceLT, xr_lt, xr_eq, xr_toInt, xr_0, xi_add, xi_sub, xi_mul, xr_div, xr_rm, Int.toNat_natCast, bd_t, true_and, and_true, not_false_eq_true, ↓reduceIte, ilt_t, ilt_f, ile_t, x_c1i, x_c1r, x_c1n, and_self, Option.toList_some, Option.toList_none, List.cons_append, List.nil_append, xr_01, xr_00, ieq_f, ieq_t]
      exact hQ
    next c2 =>
      have hu := hG.2.1.2.1 (s_having S g 3).toNat (by omega)
      have hr := hG.2.2.2.1 (s_having S g 3).toNat (by omega) (by omega)
      have ha := s_and_in (a := S 2 (s_having S g 3).toNat) (b := 2) (by omega)
      have ha4 := s_and_in (a := S 2 (s_having S g 3).toNat) (b := 4) (by omega)
      split at hQ
      next c3 =>
        simp (disch := first | exact hR _ _ | exact x01a | exact x01b | (unfold x_r; omega) | assumption | omega) only [wM_send_20, wM_send_22, wM_send_24, wM_send_27, wM_send_28, wM_send_31, wM_send_33, wM_send_34, wM_send_35, wM_send_36, wM_send_39, wM_send_41, wM_send_44, wM_send_45, wM_send_48, wM_send_49, x_gi_int, x_ga_ref, x_ga_null, List.getElem?_cons_zero, List.getElem?_cons_succ, List.length_cons, List.length_nil, List.set_cons_zero, List.set_cons_succ, Nat.reduceAdd, Nat.reduceLT, xr_lt, xr_eq, xr_toInt, xr_0, xi_add, xi_sub, xi_mul, xr_div, xr_rm, Int.toNat_natCast, bd_t, true_and, and_true, not_false_eq_true, ↓reduceIte, ilt_t, ilt_f, ile_t, x_c1i, x_c1r, x_c1n, and_self, Option.toList_some, Option.toList_none, List.cons_append, List.nil_append, xr_01, xr_00, ieq_f, ieq_t, xr_and]
        exact hQ
      next c3 =>
        have hf := s_first_in S 4 (S 1 (s_having S g 3).toNat)
        simp (disch := first | exact hR _ _ | exact x01a | exact x01b | (unfold x_r; omega) | assumption | omega) only [wM_send_20, wM_send_22, wM_send_24, wM_send_27, wM_send_28, wM_send_31, wM_send_33, wM_send_34, wM_send_35, wM_send_36, wM_send_39, wM_send_41, wM_send_44, wM_send_45, wM_send_48, wM_send_49, wM_send_50, wM_send_51, wM_send_52, wM_send_53, wM_send_56, wM_send_58, x_gi_int, x_ga_ref, x_ga_null, List.getElem?_cons_zero, List.getElem?_cons_succ, List.length_cons, List.length_nil, List.set_cons_zero, List.set_cons_succ, Nat.reduceAdd, Nat.reduceLT, xr_lt, xr_eq, xr_toInt, xr_0, xi_add, xi_sub, xi_mul, xr_div, xr_rm, Int.toNat_natCast, bd_t, true_and, and_true, not_false_eq_true, ↓reduceIte, ilt_t, ilt_f, ile_t, x_c1i, x_c1r, x_c1n, and_self, Option.toList_some, Option.toList_none, List.cons_append, List.nil_append, xr_01, xr_00, ieq_f, ieq_t, xr_and]
        refine wM_send_59 (by simp) rfl rfl (m_first hR ⟨by omega, by omega⟩ (hR _ _) ?_)
        have hgr : x_r (if s_and (S 2 (s_having S g 3).toNat) 4 = 0 then 0 else 1) := by
          split
          · exact x_r_0
          · exact x_r_1
        have hW0 : WfS (s_send0 S (s_now S) (s_having S g 3) word c) := (((hW.set h3 (by omega) (by omega) (by omega)).set h2 (by omega) (by omega) (by omega)).set (hR _ _) (by omega) (by omega) (by omega)).set hgr (by omega) (by omega) (by omega)
        split at hQ
        next c4 =>
          split at hQ
          next c5 =>
            simp (disch := first | exact hR _ _ | exact x01a | exact x01b | (unfold x_r; omega) | assumption | omega) only [wM_send_62, wM_send_64, wM_send_66, wM_send_69, wM_send_71, wM_send_74, wM_send_76, x_gi_int, x_ga_ref, x_ga_null, List.getElem?_cons_zero, List.getElem?_cons_succ, List.length_cons, List.length_nil, List.set_cons_zero, List.set_cons_succ, Nat.reduceAdd, Nat.reduceLT, xr_lt, xr_eq, xr_toInt, xr_0, xi_add, xi_sub, xi_mul, xr_div, xr_rm, Int.toNat_natCast, bd_t, true_and, and_true, not_false_eq_true, ↓reduceIte, ilt_t, ilt_f, ile_t, x_c1i, x_c1r, x_c1n, and_self, Option.toList_some, Option.toList_none, List.cons_append, List.nil_append, xr_01, xr_00, ieq_f, ieq_t]
            exact hQ
          next c5 =>
            have hR0 := hW0.1
            by_cases c6 : s_and (S 2 (s_having S g 3).toNat) 4 = 0
            · simp (disch := first | exact hR _ _ | exact x01a | exact x01b | (unfold x_r; omega) | assumption | omega) only [wM_send_62, wM_send_64, wM_send_66, wM_send_69, wM_send_71, wM_send_74, wM_send_76, wM_send_77, wM_send_78, wM_send_81, wM_send_83, wM_send_84, wM_send_85, wM_send_86, wM_send_89, wM_send_91, wM_send_92, wM_send_93, wM_send_94, wM_send_97, wM_send_99, wM_send_100, wM_send_103, wM_send_105, wM_send_106, wM_send_107, wM_send_108, wM_send_111, wM_send_113, wM_send_114, wM_send_117, wM_send_119, wM_send_120, wM_send_121, wM_send_122, wM_send_125, wM_send_126, wM_send_129, wM_send_130, wM_send_131, wM_send_133, wM_send_136, wM_send_137, wM_send_139, wM_send_140, wM_send_141, wM_send_144, wM_send_146, wM_send_147, x_gi_int, x_ga_ref, x_ga_null, List.getElem?_cons_zero, List.getElem?_cons_succ, List.length_cons, List.length_nil, List.set_cons_zero, List.set_cons_succ, Nat.reduceAdd, Nat.reduceLT, xr_lt, xr_eq, xr_toInt, xr_0, xi_add, xi_sub, xi_mul, xr_div, xr_rm, Int.toNat_natCast, bd_t, true_and, and_true, not_false_eq_true, ↓reduceIte, ilt_t, ilt_f, ile_t, x_c1i, x_c1r, x_c1n, and_self, Option.toList_some, Option.toList_none, List.cons_append, List.nil_append, xr_01, xr_00, ieq_f, ieq_t, sset_at, Nat.reduceEqDiff, false_and, and_false, eq_self, and_self, reduceCtorEq, xr_and, true_or, or_true]
              refine wM_send_148 (by simp) rfl rfl ?_
              have e0 : s_send0 S (s_now S) (s_having S g 3) word c = sset (sset (sset (sset S 20 (s_now S).toNat c) 21 (s_now S).toNat word) 22 (s_now S).toNat (S 3 (s_having S g 3).toNat)) 23 (s_now S).toNat 0 := by unfold s_send0; rw [if_pos c6]
              rw [← e0]
              refine m_waits hR0 (by omega) (by omega) ?_
              simp (disch := first | exact hR _ _ | exact x01a | exact x01b | (unfold x_r; omega) | assumption | omega) only [wM_send_151, wM_send_153, x_gi_int, x_ga_ref, x_ga_null, List.getElem?_cons_zero, List.getElem?_cons_succ, List.length_cons, List.length_nil, List.set_cons_zero, List.set_cons_succ, Nat.reduceAdd, Nat.reduceLT, xr_lt, xr_eq, xr_toInt, xr_0, xi_add, xi_sub, xi_mul, xr_div, xr_rm, Int.toNat_natCast, bd_t, true_and, and_true, not_false_eq_true, ↓reduceIte, ilt_t, ilt_f, ile_t, x_c1i, x_c1r, x_c1n, and_self, Option.toList_some, Option.toList_none, List.cons_append, List.nil_append, xr_01, xr_00, ieq_f, ieq_t]
              exact hQ
            · simp (disch := first | exact hR _ _ | exact x01a | exact x01b | (unfold x_r; omega) | assumption | omega) only [wM_send_62, wM_send_64, wM_send_66, wM_send_69, wM_send_71, wM_send_74, wM_send_76, wM_send_77, wM_send_78, wM_send_81, wM_send_83, wM_send_84, wM_send_85, wM_send_86, wM_send_89, wM_send_91, wM_send_92, wM_send_93, wM_send_94, wM_send_97, wM_send_99, wM_send_100, wM_send_103, wM_send_105, wM_send_106, wM_send_107, wM_send_108, wM_send_111, wM_send_113, wM_send_114, wM_send_117, wM_send_119, wM_send_120, wM_send_121, wM_send_122, wM_send_125, wM_send_126, wM_send_129, wM_send_130, wM_send_131, wM_send_133, wM_send_136, wM_send_137, wM_send_139, wM_send_140, wM_send_141, wM_send_144, wM_send_146, wM_send_147, x_gi_int, x_ga_ref, x_ga_null, List.getElem?_cons_zero, List.getElem?_cons_succ, List.length_cons, List.length_nil, List.set_cons_zero, List.set_cons_succ, Nat.reduceAdd, Nat.reduceLT, xr_lt, xr_eq, xr_toInt, xr_0, xi_add, xi_sub, xi_mul, xr_div, xr_rm, Int.toNat_natCast, bd_t, true_and, and_true, not_false_eq_true, ↓reduceIte, ilt_t, ilt_f, ile_t, x_c1i, x_c1r, x_c1n, and_self, Option.toList_some, Option.toList_none, List.cons_append, List.nil_append, xr_01, xr_00, ieq_f, ieq_t, sset_at, Nat.reduceEqDiff, false_and, and_false, eq_self, and_self, reduceCtorEq, xr_and, true_or, or_true]
              refine wM_send_148 (by simp) rfl rfl ?_
              have e0 : s_send0 S (s_now S) (s_having S g 3) word c = sset (sset (sset (sset S 20 (s_now S).toNat c) 21 (s_now S).toNat word) 22 (s_now S).toNat (S 3 (s_having S g 3).toNat)) 23 (s_now S).toNat 1 := by unfold s_send0; rw [if_neg c6]
              rw [← e0]
              refine m_waits hR0 (by omega) (by omega) ?_
              simp (disch := first | exact hR _ _ | exact x01a | exact x01b | (unfold x_r; omega) | assumption | omega) only [wM_send_151, wM_send_153, x_gi_int, x_ga_ref, x_ga_null, List.getElem?_cons_zero, List.getElem?_cons_succ, List.length_cons, List.length_nil, List.set_cons_zero, List.set_cons_succ, Nat.reduceAdd, Nat.reduceLT, xr_lt, xr_eq, xr_toInt, xr_0, xi_add, xi_sub, xi_mul, xr_div, xr_rm, Int.toNat_natCast, bd_t, true_and, and_true, not_false_eq_true, ↓reduceIte, ilt_t, ilt_f, ile_t, x_c1i, x_c1r, x_c1n, and_self, Option.toList_some, Option.toList_none, List.cons_append, List.nil_append, xr_01, xr_00, ieq_f, ieq_t]
              exact hQ
        next c4 =>
          have hRt := RgS.transfer hW0 (a := s_now S) (b := s_first S 4 (S 1 (s_having S g 3).toNat)) (by omega) (by omega)
          by_cases c6 : s_and (S 2 (s_having S g 3).toNat) 4 = 0
          · simp (disch := first | exact hR _ _ | exact x01a | exact x01b | (unfold x_r; omega) | assumption | omega) only [wM_send_62, wM_send_64, wM_send_66, wM_send_69, wM_send_71, wM_send_74, wM_send_76, wM_send_77, wM_send_78, wM_send_81, wM_send_83, wM_send_84, wM_send_85, wM_send_86, wM_send_89, wM_send_91, wM_send_92, wM_send_93, wM_send_94, wM_send_97, wM_send_99, wM_send_100, wM_send_103, wM_send_105, wM_send_106, wM_send_107, wM_send_108, wM_send_111, wM_send_113, wM_send_114, wM_send_117, wM_send_119, wM_send_120, wM_send_121, wM_send_122, wM_send_125, wM_send_126, wM_send_129, wM_send_130, wM_send_131, wM_send_133, wM_send_154, wM_send_155, wM_send_157, x_gi_int, x_ga_ref, x_ga_null, List.getElem?_cons_zero, List.getElem?_cons_succ, List.length_cons, List.length_nil, List.set_cons_zero, List.set_cons_succ, Nat.reduceAdd, Nat.reduceLT, xr_lt, xr_eq, xr_toInt, xr_0, xi_add, xi_sub, xi_mul, xr_div, xr_rm, Int.toNat_natCast, bd_t, true_and, and_true, not_false_eq_true, ↓reduceIte, ilt_t, ilt_f, ile_t, x_c1i, x_c1r, x_c1n, and_self, Option.toList_some, Option.toList_none, List.cons_append, List.nil_append, xr_01, xr_00, ieq_f, ieq_t, sset_at, Nat.reduceEqDiff, false_and, and_false, eq_self, and_self, reduceCtorEq, xr_and, true_or, or_true]
            refine wM_send_159 (by simp) rfl rfl ?_
            have e0 : s_send0 S (s_now S) (s_having S g 3) word c = sset (sset (sset (sset S 20 (s_now S).toNat c) 21 (s_now S).toNat word) 22 (s_now S).toNat (S 3 (s_having S g 3).toNat)) 23 (s_now S).toNat 0 := by unfold s_send0; rw [if_pos c6]
            rw [← e0]
            refine m_transfer hW0 (by omega) (by omega) (by omega) (by omega) ?_
            simp (disch := first | exact hR _ _ | exact x01a | exact x01b | (unfold x_r; omega) | assumption | omega) only [wM_send_162, wM_send_163, x_gi_int, x_ga_ref, x_ga_null, List.getElem?_cons_zero, List.getElem?_cons_succ, List.length_cons, List.length_nil, List.set_cons_zero, List.set_cons_succ, Nat.reduceAdd, Nat.reduceLT, xr_lt, xr_eq, xr_toInt, xr_0, xi_add, xi_sub, xi_mul, xr_div, xr_rm, Int.toNat_natCast, bd_t, true_and, and_true, not_false_eq_true, ↓reduceIte, ilt_t, ilt_f, ile_t, x_c1i, x_c1r, x_c1n, and_self, Option.toList_some, Option.toList_none, List.cons_append, List.nil_append, xr_01, xr_00, ieq_f, ieq_t]
            refine wM_send_165 (by simp) rfl rfl (m_ready hRt (by omega) (by omega) ?_)
            simp (disch := first | exact hR _ _ | exact x01a | exact x01b | (unfold x_r; omega) | assumption | omega) only [wM_send_168, wM_send_169, x_gi_int, x_ga_ref, x_ga_null, List.getElem?_cons_zero, List.getElem?_cons_succ, List.length_cons, List.length_nil, List.set_cons_zero, List.set_cons_succ, Nat.reduceAdd, Nat.reduceLT, xr_lt, xr_eq, xr_toInt, xr_0, xi_add, xi_sub, xi_mul, xr_div, xr_rm, Int.toNat_natCast, bd_t, true_and, and_true, not_false_eq_true, ↓reduceIte, ilt_t, ilt_f, ile_t, x_c1i, x_c1r, x_c1n, and_self, Option.toList_some, Option.toList_none, List.cons_append, List.nil_append, xr_01, xr_00, ieq_f, ieq_t]
            exact hQ
          · simp (disch := first | exact hR _ _ | exact x01a | exact x01b | (unfold x_r; omega) | assumption | omega) only [wM_send_62, wM_send_64, wM_send_66, wM_send_69, wM_send_71, wM_send_74, wM_send_76, wM_send_77, wM_send_78, wM_send_81, wM_send_83, wM_send_84, wM_send_85, wM_send_86, wM_send_89, wM_send_91, wM_send_92, wM_send_93, wM_send_94, wM_send_97, wM_send_99, wM_send_100, wM_send_103, wM_send_105, wM_send_106, wM_send_107, wM_send_108, wM_send_111, wM_send_113, wM_send_114, wM_send_117, wM_send_119, wM_send_120, wM_send_121, wM_send_122, wM_send_125, wM_send_126, wM_send_129, wM_send_130, wM_send_131, wM_send_133, wM_send_154, wM_send_155, wM_send_157, x_gi_int, x_ga_ref, x_ga_null, List.getElem?_cons_zero, List.getElem?_cons_succ, List.length_cons, List.length_nil, List.set_cons_zero, List.set_cons_succ, Nat.reduceAdd, Nat.reduceLT, xr_lt, xr_eq, xr_toInt, xr_0, xi_add, xi_sub, xi_mul, xr_div, xr_rm, Int.toNat_natCast, bd_t, true_and, and_true, not_false_eq_true, ↓reduceIte, ilt_t, ilt_f, ile_t, x_c1i, x_c1r, x_c1n, and_self, Option.toList_some, Option.toList_none, List.cons_append, List.nil_append, xr_01, xr_00, ieq_f, ieq_t, sset_at, Nat.reduceEqDiff, false_and, and_false, eq_self, and_self, reduceCtorEq, xr_and, true_or, or_true]
            refine wM_send_159 (by simp) rfl rfl ?_
            have e0 : s_send0 S (s_now S) (s_having S g 3) word c = sset (sset (sset (sset S 20 (s_now S).toNat c) 21 (s_now S).toNat word) 22 (s_now S).toNat (S 3 (s_having S g 3).toNat)) 23 (s_now S).toNat 1 := by unfold s_send0; rw [if_neg c6]
            rw [← e0]
            refine m_transfer hW0 (by omega) (by omega) (by omega) (by omega) ?_
            simp (disch := first | exact hR _ _ | exact x01a | exact x01b | (unfold x_r; omega) | assumption | omega) only [wM_send_162, wM_send_163, x_gi_int, x_ga_ref, x_ga_null, List.getElem?_cons_zero, List.getElem?_cons_succ, List.length_cons, List.length_nil, List.set_cons_zero, List.set_cons_succ, Nat.reduceAdd, Nat.reduceLT, xr_lt, xr_eq, xr_toInt, xr_0, xi_add, xi_sub, xi_mul, xr_div, xr_rm, Int.toNat_natCast, bd_t, true_and, and_true, not_false_eq_true, ↓reduceIte, ilt_t, ilt_f, ile_t, x_c1i, x_c1r, x_c1n, and_self, Option.toList_some, Option.toList_none, List.cons_append, List.nil_append, xr_01, xr_00, ieq_f, ieq_t]
            refine wM_send_165 (by simp) rfl rfl (m_ready hRt (by omega) (by omega) ?_)
            simp (disch := first | exact hR _ _ | exact x01a | exact x01b | (unfold x_r; omega) | assumption | omega) only [wM_send_168, wM_send_169, x_gi_int, x_ga_ref, x_ga_null, List.getElem?_cons_zero, List.getElem?_cons_succ, List.length_cons, List.length_nil, List.set_cons_zero, List.set_cons_succ, Nat.reduceAdd, Nat.reduceLT, xr_lt, xr_eq, xr_toInt, xr_0, xi_add, xi_sub, xi_mul, xr_div, xr_rm, Int.toNat_natCast, bd_t, true_and, and_true, not_false_eq_true, ↓reduceIte, ilt_t, ilt_f, ile_t, x_c1i, x_c1r, x_c1n, and_self, Option.toList_some, Option.toList_none, List.cons_append, List.nil_append, xr_01, xr_00, ieq_f, ieq_t]
            exact hQ
set_option maxHeartbeats 4000000 in
theorem m_receive {g d bl : Int} (hG : GS S) (h1 : x_r g) (h2 : x_r d) (hbl : bl = 0 ∨ bl = 1) (hQ : Q (some (.int (xi (s_receive S g d bl).1))) (putR w mo (s_receive S g d bl).2)) : WP P 101 0 [some (.ref mo), some (.int (xi g)), some (.int (xi d)), some (.int (xi bl)), none, none, none] [] (putR w mo S) Q := by
  have hW := hG.1
  have hR := hW.1
  have hn := s_now_in S
  simp (disch := first | exact hR _ _ | exact x01a | exact x01b | (unfold x_r; omega) | assumption | omega) only [wM_receive_0, x_gi_int, x_ga_ref, x_ga_null, List.getElem?_cons_zero, List.getElem?_cons_succ, List.length_cons, List.length_nil, List.set_cons_zero, List.set_cons_succ, Nat.reduceAdd, Nat.reduceLT, xr_lt, xr_eq, xr_toInt, xr_0, xi_add, xi_sub, xi_mul, xr_div, xr_rm, Int.toNat_natCast, bd_t, true_and, and_true, not_false_eq_true, ↓reduceIte, ilt_t, ilt_f, ile_t, x_c1i, x_c1r, x_c1n, and_self, Option.toList_some, Option.toList_none, List.cons_append, List.nil_append, xr_01, xr_00, ieq_f, ieq_t]
  refine wM_receive_1 (by simp) rfl rfl (m_now hR ?_)
  unfold s_receive at hQ
  split at hQ
  next c1 =>
    simp (disch := first | exact hR _ _ | exact x01a | exact x01b | (unfold x_r; omega) | assumption | omega) only [wM_receive_4, wM_receive_6, wM_receive_8, wM_receive_11, wM_receive_13, x_gi_int, x_ga_ref, x_ga_null, List.getElem?_cons_zero, List.getElem?_cons_succ, List.length_cons, List.length_nil, List.set_cons_zero, List.set_cons_succ, Nat.reduceAdd, Nat.reduceLT, xr_lt, xr_eq, xr_toInt, xr_0, xi_add, xi_sub, xi_mul, xr_div, xr_rm, Int.toNat_natCast, bd_t, true_and, and_true, not_false_eq_true, ↓reduceIte, ilt_t, ilt_f, ile_t, x_c1i, x_c1r, x_c1n, and_self, Option.toList_some, Option.toList_none, List.cons_append, List.nil_append, xr_01, xr_00, ieq_f, ieq_t]
    exact hQ
  next c1 =>
    have hh := s_having_in hW (by omega) g 3
    simp (disch := first | exact hR _ _ | exact x01a | exact x01b | (unfold x_r; omega) | assumption | omega) only [wM_receive_4, wM_receive_6, wM_receive_8, wM_receive_11, wM_receive_13, wM_receive_14, wM_receive_15, wM_receive_16, x_gi_int, x_ga_ref, x_ga_null, List.getElem?_cons_zero, List.getElem?_cons_succ, List.length_cons, List.length_nil, List.set_cons_zero, List.set_cons_succ, Nat.reduceAdd, Nat.reduceLT, xr_lt, xr_eq, xr_toInt, xr_0, xi_add, xi_sub, xi_mul, xr_div, xr_rm, Int.toNat_natCast, bd_t, true_and, and_true, not_false_eq_true, ↓reduceIte, ilt_t, ilt_f, ile_t, x_c1i, x_c1r, x_c1n, and_self, Option.toList_some, Option.toList_none, List.cons_append, List.nil_append, xr_01, xr_00, ieq_f, ieq_t]
    refine wM_receive_17 (by simp) rfl rfl (m_having hW (by omega) h1 ⟨by omega, by omega⟩ ?_)
    split at hQ
    next c2 =>
      simp (disch := first | exact hR _ _ | exact x01a | exact x01b | (unfold x_r; omega) | assumption | omega) only [wM_receive_20, wM_receive_22, wM_receive_24, wM_receive_27, wM_receive_28, wM_receive_31, wM_receive_33, wM_receive_34, wM_receive_35, wM_receive_36, wM_receive_39, wM_receive_41, wM_receive_44, wM_receive_45, wM_receive_48, wM_receive_49, x_gi_int, x_ga_ref, x_ga_null, List.getElem?_cons_zero, List.getElem?_cons_succ, List.length_cons, List.length_nil, List.set_cons_zero, List.set_cons_succ, Nat.reduceAdd, Nat.reduceLT, xr_lt, xr_eq, xr_toInt, xr_0, xi_add, xi_sub, xi_mul, xr_div, xr_rm, Int.toNat_natCast, bd_t, true_and, and_true, not_false_eq_true, ↓reduceIte, ilt_t, ilt_f, ile_t, x_c1i, x_c1r, x_c1n, and_self, Option.toList_some, Option.toList_none, List.cons_append, List.nil_append, xr_01, xr_00, ieq_f, ieq_t]
      exact hQ
    next c2 =>
      have hu := hG.2.1.2.1 (s_having S g 3).toNat (by omega)
      have hr := hG.2.2.2.1 (s_having S g 3).toNat (by omega) (by omega)
      have ha := s_and_in (a := S 2 (s_having S g 3).toNat) (b := 1) (by omega)
      split at hQ
      next c3 =>
        simp (disch := first | exact hR _ _ | exact x01a | exact x01b | (unfold x_r; omega) | assumption | omega) only [wM_receive_20, wM_receive_22, wM_receive_24, wM_receive_27, wM_receive_28, wM_receive_31, wM_receive_33, wM_receive_34, wM_receive_35, wM_receive_36, wM_receive_39, wM_receive_41, wM_receive_44, wM_receive_45, wM_receive_48, wM_receive_49, x_gi_int, x_ga_ref, x_ga_null, List.getElem?_cons_zero, List.getElem?_cons_succ, List.length_cons, List.length_nil, List.set_cons_zero, List.set_cons_succ, Nat.reduceAdd, Nat.reduceLT, xr_lt, xr_eq, xr_toInt, xr_0, xi_add, xi_sub, xi_mul, xr_div, xr_rm, Int.toNat_natCast, bd_t, true_and, and_true, not_false_eq_true, ↓reduceIte, ilt_t, ilt_f, ile_t, x_c1i, x_c1r, x_c1n, and_self, Option.toList_some, Option.toList_none, List.cons_append, List.nil_append, xr_01, xr_00, ieq_f, ieq_t, xr_and]
        exact hQ
      next c3 =>
        have hf := s_first_in S 3 (S 1 (s_having S g 3).toNat)
        simp (disch := first | exact hR _ _ | exact x01a | exact x01b | (unfold x_r; omega) | assumption | omega) only [wM_receive_20, wM_receive_22, wM_receive_24, wM_receive_27, wM_receive_28, wM_receive_31, wM_receive_33, wM_receive_34, wM_receive_35, wM_receive_36, wM_receive_39, wM_receive_41, wM_receive_44, wM_receive_45, wM_receive_48, wM_receive_49, wM_receive_50, wM_receive_51, wM_receive_52, wM_receive_53, wM_receive_56, wM_receive_58, x_gi_int, x_ga_ref, x_ga_null, List.getElem?_cons_zero, List.getElem?_cons_succ, List.length_cons, List.length_nil, List.set_cons_zero, List.set_cons_succ, Nat.reduceAdd, Nat.reduceLT, xr_lt, xr_eq, xr_toInt, xr_0, xi_add, xi_sub, xi_mul, xr_div, xr_rm, Int.toNat_natCast, bd_t, true_and, and_true, not_false_eq_true, ↓reduceIte, ilt_t, ilt_f, ile_t, x_c1i, x_c1r, x_c1n, and_self, Option.toList_some, Option.toList_none, List.cons_append, List.nil_append, xr_01, xr_00, ieq_f, ieq_t, xr_and]
        refine wM_receive_59 (by simp) rfl rfl (m_first hR ⟨by omega, by omega⟩ (hR _ _) ?_)
        split at hQ
        next c4 =>
          split at hQ
          next c5 =>
            simp (disch := first | exact hR _ _ | exact x01a | exact x01b | (unfold x_r; omega) | assumption | omega) only [wM_receive_62, wM_receive_64, wM_receive_66, wM_receive_69, wM_receive_70, wM_receive_73, wM_receive_75, x_gi_int, x_ga_ref, x_ga_null, List.getElem?_cons_zero, List.getElem?_cons_succ, List.length_cons, List.length_nil, List.set_cons_zero, List.set_cons_succ, Nat.reduceAdd, Nat.reduceLT, xr_lt, xr_eq, xr_toInt, xr_0, xi_add, xi_sub, xi_mul, xr_div, xr_rm, Int.toNat_natCast, bd_t, true_and, and_true, not_false_eq_true, ↓reduceIte, ilt_t, ilt_f, ile_t, x_c1i, x_c1r, x_c1n, and_self, Option.toList_some, Option.toList_none, List.cons_append, List.nil_append, xr_01, xr_00, ieq_f, ieq_t]
            exact hQ
          next c5 =>
            simp (disch := first | exact hR _ _ | exact x01a | exact x01b | (unfold x_r; omega) | assumption | omega) only [wM_receive_62, wM_receive_64, wM_receive_66, wM_receive_69, wM_receive_70, wM_receive_73, wM_receive_75, wM_receive_76, wM_receive_78, wM_receive_81, wM_receive_82, wM_receive_84, wM_receive_85, wM_receive_86, wM_receive_89, wM_receive_91, wM_receive_92, x_gi_int, x_ga_ref, x_ga_null, List.getElem?_cons_zero, List.getElem?_cons_succ, List.length_cons, List.length_nil, List.set_cons_zero, List.set_cons_succ, Nat.reduceAdd, Nat.reduceLT, xr_lt, xr_eq, xr_toInt, xr_0, xi_add, xi_sub, xi_mul, xr_div, xr_rm, Int.toNat_natCast, bd_t, true_and, and_true, not_false_eq_true, ↓reduceIte, ilt_t, ilt_f, ile_t, x_c1i, x_c1r, x_c1n, and_self, Option.toList_some, Option.toList_none, List.cons_append, List.nil_append, xr_01, xr_00, ieq_f, ieq_t]
            refine wM_receive_93 (by simp) rfl rfl (m_waits hR (by omega) (by omega) ?_)
            simp (disch := first | exact hR _ _ | exact x01a | exact x01b | (unfold x_r; omega) | assumption | omega) only [wM_receive_96, wM_receive_98, x_gi_int, x_ga_ref, x_ga_null, List.getElem?_cons_zero, List.getElem?_cons_succ, List.length_cons, List.length_nil, List.set_cons_zero, List.set_cons_succ, Nat.reduceAdd, Nat.reduceLT, xr_lt, xr_eq, xr_toInt, xr_0, xi_add, xi_sub, xi_mul, xr_div, xr_rm, Int.toNat_natCast, bd_t, true_and, and_true, not_false_eq_true, ↓reduceIte, ilt_t, ilt_f, ile_t, x_c1i, x_c1r, x_c1n, and_self, Option.toList_some, Option.toList_none, List.cons_append, List.nil_append, xr_01, xr_00, ieq_f, ieq_t]
            exact hQ
        next c4 =>
          have hW0 : WfS (sset S 20 (s_now S).toNat d) := hW.set h2 (by omega) (by omega) (by omega)
          have hRt := RgS.transfer hW0 (a := s_first S 3 (S 1 (s_having S g 3).toNat)) (b := s_now S) (by omega) (by omega)
          simp (disch := first | exact hR _ _ | exact x01a | exact x01b | (unfold x_r; omega) | assumption | omega) only [wM_receive_62, wM_receive_64, wM_receive_66, wM_receive_69, wM_receive_70, wM_receive_73, wM_receive_75, wM_receive_76, wM_receive_78, wM_receive_99, wM_receive_100, wM_receive_103, wM_receive_105, wM_receive_106, wM_receive_107, wM_receive_108, wM_receive_110, x_gi_int, x_ga_ref, x_ga_null, List.getElem?_cons_zero, List.getElem?_cons_succ, List.length_cons, List.length_nil, List.set_cons_zero, List.set_cons_succ, Nat.reduceAdd, Nat.reduceLT, xr_lt, xr_eq, xr_toInt, xr_0, xi_add, xi_sub, xi_mul, xr_div, xr_rm, Int.toNat_natCast, bd_t, true_and, and_true, not_false_eq_true, ↓reduceIte, ilt_t, ilt_f, ile_t, x_c1i, x_c1r, x_c1n, and_self, Option.toList_some, Option.toList_none, List.cons_append, List.nil_append, xr_01, xr_00, ieq_f, ieq_t, sset_at, Nat.reduceEqDiff, false_and, and_false, eq_self, and_self, reduceCtorEq]
          refine wM_receive_112 (by simp) rfl rfl (m_transfer hW0 (by omega) (by omega) (by omega) (by omega) ?_)
          simp (disch := first | exact hR _ _ | exact x01a | exact x01b | (unfold x_r; omega) | assumption | omega) only [wM_receive_115, wM_receive_116, x_gi_int, x_ga_ref, x_ga_null, List.getElem?_cons_zero, List.getElem?_cons_succ, List.length_cons, List.length_nil, List.set_cons_zero, List.set_cons_succ, Nat.reduceAdd, Nat.reduceLT, xr_lt, xr_eq, xr_toInt, xr_0, xi_add, xi_sub, xi_mul, xr_div, xr_rm, Int.toNat_natCast, bd_t, true_and, and_true, not_false_eq_true, ↓reduceIte, ilt_t, ilt_f, ile_t, x_c1i, x_c1r, x_c1n, and_self, Option.toList_some, Option.toList_none, List.cons_append, List.nil_append, xr_01, xr_00, ieq_f, ieq_t]
          refine wM_receive_118 (by simp) rfl rfl (m_ready hRt (by omega) (by omega) ?_)
          simp (disch := first | exact hR _ _ | exact x01a | exact x01b | (unfold x_r; omega) | assumption | omega) only [wM_receive_121, wM_receive_122, x_gi_int, x_ga_ref, x_ga_null, List.getElem?_cons_zero, List.getElem?_cons_succ, List.length_cons, List.length_nil, List.set_cons_zero, List.set_cons_succ, Nat.reduceAdd, Nat.reduceLT, xr_lt, xr_eq, xr_toInt, xr_0, xi_add, xi_sub, xi_mul, xr_div, xr_rm, Int.toNat_natCast, bd_t, true_and, and_true, not_false_eq_true, ↓reduceIte, ilt_t, ilt_f, ile_t, x_c1i, x_c1r, x_c1n, and_self, Option.toList_some, Option.toList_none, List.cons_append, List.nil_append, xr_01, xr_00, ieq_f, ieq_t]
          exact hQ
end RL
