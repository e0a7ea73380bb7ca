def mv_par (S : xS) (s d : Int) (q : Nat) : Int := if S 4 q = s then d else S 4 q
def s_mv1 (S : xS) (s d : Int) : xS := sset (sset (sset (sset (sset (sset (s_fill S d (S 0 s.toNat) (S 1 s.toNat) (S 5 s.toNat) (S 4 s.toNat)) 2 d.toNat (S 2 s.toNat)) 3 d.toNat (S 3 s.toNat)) 6 d.toNat (S 6 s.toNat)) 7 d.toNat (S 7 s.toNat)) 8 d.toNat (S 8 s.toNat)) 0 s.toNat (-1)
def s_move (S : xS) (src dest : Int) : Int × xS := if s_now S < 0 then (8, S) else if s_having S src (-1) < 0 then (1, S) else if s_vacant S dest < 0 then (3, S) else (0, mapA (s_mv1 S (s_having S src (-1)) (s_vacant S dest)) 4 128 (mv_par (s_mv1 S (s_having S src (-1)) (s_vacant S dest)) (s_having S src (-1)) (s_vacant S dest)))
theorem fill_6 {S : xS} {s k u size from_ : Int} {i : Nat} (h : i ≠ s.toNat) : s_fill S s k u size from_ 6 i = S 6 i := by
  unfold s_fill; simp [sset_at, h]
theorem fill_7 {S : xS} {s k u size from_ : Int} {i : Nat} (h : i ≠ s.toNat) : s_fill S s k u size from_ 7 i = S 7 i := by
  unfold s_fill; simp [sset_at, h]
theorem fill_8 {S : xS} {s k u size from_ : Int} {i : Nat} (h : i ≠ s.toNat) : s_fill S s k u size from_ 8 i = S 8 i := by
  unfold s_fill; simp [sset_at, h]
/-- configure, behind its checks -/
def s_cf1 (S : xS) (it ta sp : Int) : xS := sset (sset S 11 it.toNat ta) 12 it.toNat sp
def s_cf2 (S : xS) (it prio : Int) : xS := if S 13 it.toNat = prio then sset S 13 it.toNat prio else sset (sset (sset S 28 0 (S 28 0 + 1)) 18 it.toNat (if S 10 it.toNat = 2 then S 28 0 + 1 else S 18 it.toNat)) 13 it.toNat prio
def s_configure (S : xS) (t tab spc prio : Int) : Int × xS := if s_now S < 0 then (8, S) else if s_having S t 2 < 0 then (1, S) else if tab ≠ -1 ∧ s_having S tab 1 < 0 then (1, S) else if spc ≠ -1 ∧ s_having S spc 5 < 0 then (1, S) else if prio < 0 then (4, S) else if 3 < prio then (4, S) else if S 13 (s_now S).toNat < prio then (2, S) else
  (0, s_cf2 (s_cf1 S (S 1 (s_having S t 2).toNat / 8) (if tab = -1 then -1 else S 1 (s_having S tab 1).toNat) (if spc = -1 then -1 else S 1 (s_having S spc 5).toNat)) (S 1 (s_having S t 2).toNat / 8) prio)
section RM
variable {P : xP} {w : xH} {Q : Option Value → xH → Prop} {mo : Nat} {S : xS}
set_option maxHeartbeats 4000000 in
theorem m_move_loop {s d : Int} {l1 l2 : Option Value} (hR : RgS S) (hs : x_r s) (hQ : Q (some (.int (xi 0))) (putR w mo (mapA S 4 128 (mv_par S s d)))) : ∀ (n i : Nat), i + n = 128 →
    WP P 89 148 [some (.ref mo), l1, l2, some (.int (xi s)), some (.int (xi d)), some (.int (xi i))] [] (putR w mo (mapA S 4 i (mv_par S s d))) Q := by
  intro n
  induction n with
  | zero =>
    intro i hi
    obtain rfl : i = 128 := by omega
    simp (disch := first | exact hR _ _ | exact x01a | exact x01b | (unfold x_r; omega) | assumption | omega) only [wM_move_148, wM_move_150, wM_move_153, wM_move_192, wM_move_193, x_gi_int, x_ga_ref, x_ga_null, List.getElem?_cons_zero, List.getElem?_cons_succ, List.length_cons, List.length_nil, List.set_cons_zero, List.set_cons_succ, Nat.reduceAdd, Nat.reduceLT, xr_lt, xr_eq, xr_toInt, xr_0, xi_add, xi_sub, xi_mul, xr_div, xr_rm, Int.toNat_natCast, bd_t, true_and, and_true, not_false_eq_true, ↓reduceIte, ilt_t, ilt_f, ile_t, x_c1i, x_c1r, x_c1n, and_self, Option.toList_some, Option.toList_none, List.cons_append, List.nil_append, xr_01, xr_00, ieq_f, ieq_t]
    exact hQ
  | succ n ih =>
    intro i hi
    have i1 := ih (i + 1) (by omega)
    rw [wM_move_148]
    have e1 : mapA S 4 i (mv_par S s d) 4 i = S 4 i := by rw [mapA_at, if_neg (by omega)]
    by_cases c1 : S 4 i = s
    · simp (disch := first | exact hR _ _ | exact x01a | exact x01b | (unfold x_r; omega) | assumption | omega) only [wM_move_150, wM_move_153, wM_move_156, wM_move_157, wM_move_160, wM_move_162, wM_move_163, wM_move_166, wM_move_168, wM_move_169, wM_move_170, wM_move_173, wM_move_175, wM_move_178, wM_move_179, wM_move_182, wM_move_184, wM_move_185, wM_move_186, wM_move_189, x_gi_int, x_ga_ref, x_ga_null, List.getElem?_cons_zero, List.getElem?_cons_succ, List.length_cons, List.length_nil, List.set_cons_zero, List.set_cons_succ, Nat.reduceAdd, Nat.reduceLT, xr_lt, xr_eq, xr_toInt, xr_0, xi_add, xi_sub, xi_mul, xr_div, xr_rm, Int.toNat_natCast, bd_t, true_and, and_true, not_false_eq_true, ↓reduceIte, ilt_t, ilt_f, ile_t, x_c1i, x_c1r, x_c1n, and_self, Option.toList_some, Option.toList_none, List.cons_append, List.nil_append, xr_01, xr_00, ieq_f, ieq_t, e1]
      rw [mapA_s (show d = mv_par S s d i by unfold mv_par; rw [if_pos c1])]
      exact i1
    · simp (disch := first | exact hR _ _ | exact x01a | exact x01b | (unfold x_r; omega) | assumption | omega) only [wM_move_150, wM_move_153, wM_move_156, wM_move_157, wM_move_160, wM_move_162, wM_move_163, wM_move_166, wM_move_168, wM_move_169, wM_move_170, wM_move_173, wM_move_175, wM_move_178, wM_move_179, wM_move_182, wM_move_184, wM_move_185, wM_move_186, wM_move_189, x_gi_int, x_ga_ref, x_ga_null, List.getElem?_cons_zero, List.getElem?_cons_succ, List.length_cons, List.length_nil, List.set_cons_zero, List.set_cons_succ, Nat.reduceAdd, Nat.reduceLT, xr_lt, xr_eq, xr_toInt, xr_0, xi_add, xi_sub, xi_mul, xr_div, xr_rm, Int.toNat_natCast, bd_t, true_and, and_true, not_false_eq_true, ↓reduceIte, ilt_t, ilt_f, ile_t, x_c1i, x_c1r, x_c1n, and_self, Option.toList_some, Option.toList_none, List.cons_append, List.nil_append, xr_01, xr_00, ieq_f, ieq_t, e1]
      rw [mapA_s (show S 4 i = mv_par S s d i by unfold mv_par; rw [if_neg c1])]
      exact i1
set_option maxHeartbeats 4000000 in
theorem m_move {src dest : Int} (hG : GS S) (h1 : x_r src) (h2 : x_r dest) (hQ : Q (some (.int (xi (s_move S src dest).1))) (putR w mo (s_move S src dest).2)) : WP P 89 0 [some (.ref mo), some (.int (xi src)), some (.int (xi dest)), none, none, none] [] (putR w mo S) Q := by
  have hW := hG.1
  have hR := hW.1
  have hn := s_now_in S
  simp (disch := first | exact hR _ _ | exact x01a | exact x01b | (unfold x_r; omega) | assumption | omega) only [wM_move_0, x_gi_int, x_ga_ref, x_ga_null, List.getElem?_cons_zero, List.getElem?_cons_succ, List.length_cons, List.length_nil, List.set_cons_zero, List.set_cons_succ, Nat.reduceAdd, Nat.reduceLT, xr_lt, xr_eq, xr_toInt, xr_0, xi_add, xi_sub, xi_mul, xr_div, xr_rm, Int.toNat_natCast, bd_t, true_and, and_true, not_false_eq_true, ↓reduceIte, ilt_t, ilt_f, ile_t, x_c1i, x_c1r, x_c1n, and_self, Option.toList_some, Option.toList_none, List.cons_append, List.nil_append, xr_01, xr_00, ieq_f, ieq_t]
  refine wM_move_1 (by simp) rfl rfl (m_now hR ?_)
  unfold s_move at hQ
  split at hQ
  next c1 =>
    simp (disch := first | exact hR _ _ | exact x01a | exact x01b | (unfold x_r; omega) | assumption | omega) only [wM_move_4, wM_move_7, wM_move_9, x_gi_int, x_ga_ref, x_ga_null, List.getElem?_cons_zero, List.getElem?_cons_succ, List.length_cons, List.length_nil, List.set_cons_zero, List.set_cons_succ, Nat.reduceAdd, Nat.reduceLT, xr_lt, xr_eq, xr_toInt, xr_0, xi_add, xi_sub, xi_mul, xr_div, xr_rm, Int.toNat_natCast, bd_t, true_and, and_true, not_false_eq_true, ↓reduceIte, ilt_t, ilt_f, ile_t, x_c1i, x_c1r, x_c1n, and_self, Option.toList_some, Option.toList_none, List.cons_append, List.nil_append, xr_01, xr_00, ieq_f, ieq_t]
    exact hQ
  next c1 =>
    have hh := s_having_in hW (by omega) src (-1)
    have hv := s_vacant_in hW (by omega) dest
    simp (disch := first | exact hR _ _ | exact x01a | exact x01b | (unfold x_r; omega) | assumption | omega) only [wM_move_4, wM_move_7, wM_move_9, wM_move_10, wM_move_11, wM_move_12, x_gi_int, x_ga_ref, x_ga_null, List.getElem?_cons_zero, List.getElem?_cons_succ, List.length_cons, List.length_nil, List.set_cons_zero, List.set_cons_succ, Nat.reduceAdd, Nat.reduceLT, xr_lt, xr_eq, xr_toInt, xr_0, xi_add, xi_sub, xi_mul, xr_div, xr_rm, Int.toNat_natCast, bd_t, true_and, and_true, not_false_eq_true, ↓reduceIte, ilt_t, ilt_f, ile_t, x_c1i, x_c1r, x_c1n, and_self, Option.toList_some, Option.toList_none, List.cons_append, List.nil_append, xr_01, xr_00, ieq_f, ieq_t]
    refine wM_move_13 (by simp) rfl rfl (m_having hW (by omega) h1 ⟨by omega, by omega⟩ ?_)
    simp (disch := first | exact hR _ _ | exact x01a | exact x01b | (unfold x_r; omega) | assumption | omega) only [wM_move_16, wM_move_17, wM_move_18, x_gi_int, x_ga_ref, x_ga_null, List.getElem?_cons_zero, List.getElem?_cons_succ, List.length_cons, List.length_nil, List.set_cons_zero, List.set_cons_succ, Nat.reduceAdd, Nat.reduceLT, xr_lt, xr_eq, xr_toInt, xr_0, xi_add, xi_sub, xi_mul, xr_div, xr_rm, Int.toNat_natCast, bd_t, true_and, and_true, not_false_eq_true, ↓reduceIte, ilt_t, ilt_f, ile_t, x_c1i, x_c1r, x_c1n, and_self, Option.toList_some, Option.toList_none, List.cons_append, List.nil_append, xr_01, xr_00, ieq_f, ieq_t]
    refine wM_move_19 (by simp) rfl rfl (m_vacant hW (by omega) h2 ?_)
    split at hQ
    next c2 =>
      simp (disch := first | exact hR _ _ | exact x01a | exact x01b | (unfold x_r; omega) | assumption | omega) only [wM_move_22, wM_move_24, wM_move_25, wM_move_28, wM_move_30, wM_move_33, wM_move_34, wM_move_37, wM_move_38, wM_move_41, wM_move_42, x_gi_int, x_ga_ref, x_ga_null, List.getElem?_cons_zero, List.getElem?_cons_succ, List.length_cons, List.length_nil, List.set_cons_zero, List.set_cons_succ, Nat.reduceAdd, Nat.reduceLT, xr_lt, xr_eq, xr_toInt, xr_0, xi_add, xi_sub, xi_mul, xr_div, xr_rm, Int.toNat_natCast, bd_t, true_and, and_true, not_false_eq_true, ↓reduceIte, ilt_t, ilt_f, ile_t, x_c1i, x_c1r, x_c1n, and_self, Option.toList_some, Option.toList_none, List.cons_append, List.nil_append, xr_01, xr_00, ieq_f, ieq_t]
      exact hQ
    next c2 =>
      split at hQ
      next c3 =>
        simp (disch := first | exact hR _ _ | exact x01a | exact x01b | (unfold x_r; omega) | assumption | omega) only [wM_move_22, wM_move_24, wM_move_25, wM_move_28, wM_move_30, wM_move_33, wM_move_34, wM_move_37, wM_move_38, wM_move_41, wM_move_42, x_gi_int, x_ga_ref, x_ga_null, List.getElem?_cons_zero, List.getElem?_cons_succ, List.length_cons, List.length_nil, List.set_cons_zero, List.set_cons_succ, Nat.reduceAdd, Nat.reduceLT, xr_lt, xr_eq, xr_toInt, xr_0, xi_add, xi_sub, xi_mul, xr_div, xr_rm, Int.toNat_natCast, bd_t, true_and, and_true, not_false_eq_true, ↓reduceIte, ilt_t, ilt_f, ile_t, x_c1i, x_c1r, x_c1n, and_self, Option.toList_some, Option.toList_none, List.cons_append, List.nil_append, xr_01, xr_00, ieq_f, ieq_t]
        exact hQ
      next c3 =>
        simp (disch := first | exact hR _ _ | exact x01a | exact x01b | (unfold x_r; omega) | assumption | omega) only [wM_move_22, wM_move_24, wM_move_25, wM_move_28, wM_move_30, wM_move_43, wM_move_44, wM_move_46, wM_move_47, wM_move_50, wM_move_51, wM_move_52, wM_move_53, wM_move_56, wM_move_57, wM_move_58, wM_move_59, wM_move_62, wM_move_63, wM_move_64, wM_move_65, wM_move_68, wM_move_69, x_gi_int, x_ga_ref, x_ga_null, List.getElem?_cons_zero, List.getElem?_cons_succ, List.length_cons, List.length_nil, List.set_cons_zero, List.set_cons_succ, Nat.reduceAdd, Nat.reduceLT, xr_lt, xr_eq, xr_toInt, xr_0, xi_add, xi_sub, xi_mul, xr_div, xr_rm, Int.toNat_natCast, bd_t, true_and, and_true, not_false_eq_true, ↓reduceIte, ilt_t, ilt_f, ile_t, x_c1i, x_c1r, x_c1n, and_self, Option.toList_some, Option.toList_none, List.cons_append, List.nil_append, xr_01, xr_00, ieq_f, ieq_t]
        refine wM_move_70 (by simp) rfl rfl (m_fill hR (by omega) (by omega) ?_)
        have q1 := hh.2.2 (by omega)
        have q2 := hv.2.2 (by omega)
        generalize s_having S src (-1) = s at *
        generalize s_vacant S dest = d at *
        have hne : s.toNat ≠ d.toNat := by
          intro q
          rw [q] at q1
          omega
        have hR3 : RgS (s_fill S d (S 0 s.toNat) (S 1 s.toNat) (S 5 s.toNat) (S 4 s.toNat)) := hR.fill (hR _ _) (hR _ _) (hR _ _) (hR _ _)
        have hR4 : RgS (s_mv1 S s d) := (((((hR3.set (hR _ _)).set (hR _ _)).set (hR _ _)).set (hR _ _)).set (hR _ _)).set x_r_m1
        simp (disch := first | exact hR _ _ | exact x01a | exact x01b | (unfold x_r; omega) | assumption | omega) only [wM_move_73, wM_move_74, wM_move_77, wM_move_79, wM_move_80, wM_move_83, wM_move_84, wM_move_85, wM_move_86, wM_move_87, wM_move_90, wM_move_92, wM_move_93, wM_move_96, wM_move_97, wM_move_98, wM_move_99, wM_move_100, wM_move_103, wM_move_105, wM_move_106, wM_move_109, wM_move_110, wM_move_111, wM_move_112, wM_move_113, wM_move_116, wM_move_118, wM_move_119, wM_move_122, wM_move_123, wM_move_124, wM_move_125, wM_move_126, wM_move_129, wM_move_131, wM_move_132, wM_move_135, wM_move_136, wM_move_137, wM_move_138, wM_move_139, wM_move_142, wM_move_143, wM_move_144, wM_move_145, wM_move_146, x_gi_int, x_ga_ref, x_ga_null, List.getElem?_cons_zero, List.getElem?_cons_succ, List.length_cons, List.length_nil, List.set_cons_zero, List.set_cons_succ, Nat.reduceAdd, Nat.reduceLT, xr_lt, xr_eq, xr_toInt, xr_0, xi_add, xi_sub, xi_mul, xr_div, xr_rm, Int.toNat_natCast, bd_t, true_and, and_true, not_false_eq_true, ↓reduceIte, ilt_t, ilt_f, ile_t, x_c1i, x_c1r, x_c1n, and_self, Option.toList_some, Option.toList_none, List.cons_append, List.nil_append, xr_01, xr_00, ieq_f, ieq_t, sset_at, Nat.reduceEqDiff, false_and, and_false, eq_self, and_self, reduceCtorEq, fill_2 hne, fill_3 hne, fill_6 hne, fill_7 hne, fill_8 hne]
        have g := m_move_loop (P := P) (w := w) (mo := mo) (Q := Q) (S := s_mv1 S s d) (s := s) (d := d) (l1 := some (.int (xi src))) (l2 := some (.int (xi dest))) hR4 ⟨by omega, by omega⟩ hQ 128 0 rfl
        rw [mapA_0] at g
        exact g
set_option maxHeartbeats 4000000 in
theorem m_configure {t tab spc prio : Int} (hG : GS S) (hC : 0 ≤ S 28 0 ∧ S 28 0 < 2000000000) (h1 : x_r t) (h2 : x_r tab) (h3 : x_r spc) (h4 : x_r prio) (hQ : Q (some (.int (xi (s_configure S t tab spc prio).1))) (putR w mo (s_configure S t tab spc prio).2)) : WP P 95 0 [some (.ref mo), some (.int (xi t)), some (.int (xi tab)), some (.int (xi spc)), some (.int (xi prio)), none, none, none, none] [] (putR w mo S) Q := by
  have hW := hG.1
  have hR := hW.1
  have hn := s_now_in S
  have g1 := h2.1
  have g2 := h2.2
  have g3 := h3.1
  have g4 := h3.2
  have g5 := h4.1
  have g6 := h4.2
  simp (disch := first | exact hR _ _ | exact x01a | exact x01b | (unfold x_r; omega) | assumption | omega) only [wM_configure_0, x_gi_int, x_ga_ref, x_ga_null, List.getElem?_cons_zero, List.getElem?_cons_succ, List.length_cons, List.length_nil, List.set_cons_zero, List.set_cons_succ, Nat.reduceAdd, Nat.reduceLT, xr_lt, xr_eq, xr_toInt, xr_0, xi_add, xi_sub, xi_mul, xr_div, xr_rm, Int.toNat_natCast, bd_t, true_and, and_true, not_false_eq_true, ↓reduceIte, ilt_t, ilt_f, ile_t, x_c1i, x_c1r, x_c1n, and_self, Option.toList_some, Option.toList_none, List.cons_append, List.nil_append, xr_01, xr_00, ieq_f, ieq_t]
  refine wM_configure_1 (by simp) rfl rfl (m_now hR ?_)
  unfold s_configure at hQ
  split at hQ
  next c1 =>
    simp (disch := first | exact hR _ _ | exact x01a | exact x01b | (unfold x_r; omega) | assumption | omega) only [wM_configure_4, wM_configure_7, wM_configure_9, x_gi_int, x_ga_ref, x_ga_null, List.getElem?_cons_zero, List.getElem?_cons_succ, List.length_cons, List.length_nil, List.set_cons_zero, List.set_cons_succ, Nat.reduceAdd, Nat.reduceLT, xr_lt, xr_eq, xr_toInt, xr_0, xi_add, xi_sub, xi_mul, xr_div, xr_rm, Int.toNat_natCast, bd_t, true_and, and_true, not_false_eq_true, ↓reduceIte, ilt_t, ilt_f, ile_t, x_c1i, x_c1r, x_c1n, and_self, Option.toList_some, Option.toList_none, List.cons_append, List.nil_append, xr_01, xr_00, ieq_f, ieq_t]
    exact hQ
  next c1 =>
    have hh := s_having_in hW (by omega) t 2
    have hh2 := s_having_in hW (by omega) tab 1
    have hh3 := s_having_in hW (by omega) spc 5
    simp (disch := first | exact hR _ _ | exact x01a | exact x01b | (unfold x_r; omega) | assumption | omega) only [wM_configure_4, wM_configure_7, wM_configure_9, wM_configure_10, wM_configure_11, wM_configure_12, x_gi_int, x_ga_ref, x_ga_null, List.getElem?_cons_zero, List.getElem?_cons_succ, List.length_cons, List.length_nil, List.set_cons_zero, List.set_cons_succ, Nat.reduceAdd, Nat.reduceLT, xr_lt, xr_eq, xr_toInt, xr_0, xi_add, xi_sub, xi_mul, xr_div, xr_rm, Int.toNat_natCast, bd_t, true_and, and_true, not_false_eq_true, ↓reduceIte, ilt_t, ilt_f, ile_t, x_c1i, x_c1r, x_c1n, and_self, Option.toList_some, Option.toList_none, List.cons_append, List.nil_append, xr_01, xr_00, ieq_f, ieq_t]
    refine wM_configure_13 (by simp) rfl rfl (m_having hW (by omega) h1 ⟨by omega, by omega⟩ ?_)
    simp (disch := first | exact hR _ _ | exact x01a | exact x01b | (unfold x_r; omega) | assumption | omega) only [wM_configure_16, wM_configure_18, wM_configure_19, wM_configure_20, x_gi_int, x_ga_ref, x_ga_null, List.getElem?_cons_zero, List.getElem?_cons_succ, List.length_cons, List.length_nil, List.set_cons_zero, List.set_cons_succ, Nat.reduceAdd, Nat.reduceLT, xr_lt, xr_eq, xr_toInt, xr_0, xi_add, xi_sub, xi_mul, xr_div, xr_rm, Int.toNat_natCast, bd_t, true_and, and_true, not_false_eq_true, ↓reduceIte, ilt_t, ilt_f, ile_t, x_c1i, x_c1r, x_c1n, and_self, Option.toList_some, Option.toList_none, List.cons_append, List.nil_append, xr_01, xr_00, ieq_f, ieq_t]
    refine wM_configure_21 (by simp) rfl rfl (m_having hW (by omega) h2 ⟨by omega, by omega⟩ ?_)
    simp (disch := first | exact hR _ _ | exact x01a | exact x01b | (unfold x_r; omega) | assumption | omega) only [wM_configure_24, wM_configure_26, wM_configure_27, wM_configure_28, x_gi_int, x_ga_ref, x_ga_null, List.getElem?_cons_zero, List.getElem?_cons_succ, List.length_cons, List.length_nil, List.set_cons_zero, List.set_cons_succ, Nat.reduceAdd, Nat.reduceLT, xr_lt, xr_eq, xr_toInt, xr_0, xi_add, xi_sub, xi_mul, xr_div, xr_rm, Int.toNat_natCast, bd_t, true_and, and_true, not_false_eq_true, ↓reduceIte, ilt_t, ilt_f, ile_t, x_c1i, x_c1r, x_c1n, and_self, Option.toList_some, Option.toList_none, List.cons_append, List.nil_append, xr_01, xr_00, ieq_f, ieq_t]
    refine wM_configure_29 (by simp) rfl rfl (m_having hW (by omega) h3 ⟨by omega, by omega⟩ ?_)
    split at hQ
    next c2 =>
      simp (disch := first | exact hR _ _ | exact x01a | exact x01b | (unfold x_r; omega) | assumption | omega) only [wM_configure_32, wM_configure_34, wM_configure_36, wM_configure_39, wM_configure_40, wM_configure_41, wM_configure_44, wM_configure_46, wM_configure_49, wM_configure_50, wM_configure_51, wM_configure_54, wM_configure_56, wM_configure_59, wM_configure_60, x_gi_int, x_ga_ref, x_ga_null, List.getElem?_cons_zero, List.getElem?_cons_succ, List.length_cons, List.length_nil, List.set_cons_zero, List.set_cons_succ, Nat.reduceAdd, Nat.reduceLT, xr_lt, xr_eq, xr_toInt, xr_0, xi_add, xi_sub, xi_mul, xr_div, xr_rm, Int.toNat_natCast, bd_t, true_and, and_true, not_false_eq_true, ↓reduceIte, ilt_t, ilt_f, ile_t, x_c1i, x_c1r, x_c1n, and_self, Option.toList_some, Option.toList_none, List.cons_append, List.nil_append, xr_01, xr_00, ieq_f, ieq_t]
      exact hQ
    next c2 =>
      have hu := hG.2.1.2.1 (s_having S t 2).toNat (by omega)
      split at hQ
      next c3 =>
        obtain ⟨c3a, c3b⟩ := c3
        simp (disch := first | exact hR _ _ | exact x01a | exact x01b | (unfold x_r; omega) | assumption | omega) only [wM_configure_32, wM_configure_34, wM_configure_36, wM_configure_39, wM_configure_40, wM_configure_41, wM_configure_44, wM_configure_46, wM_configure_49, wM_configure_50, wM_configure_51, wM_configure_54, wM_configure_56, wM_configure_59, wM_configure_60, x_gi_int, x_ga_ref, x_ga_null, List.getElem?_cons_zero, List.getElem?_cons_succ, List.length_cons, List.length_nil, List.set_cons_zero, List.set_cons_succ, Nat.reduceAdd, Nat.reduceLT, xr_lt, xr_eq, xr_toInt, xr_0, xi_add, xi_sub, xi_mul, xr_div, xr_rm, Int.toNat_natCast, bd_t, true_and, and_true, not_false_eq_true, ↓reduceIte, ilt_t, ilt_f, ile_t, x_c1i, x_c1r, x_c1n, and_self, Option.toList_some, Option.toList_none, List.cons_append, List.nil_append, xr_01, xr_00, ieq_f, ieq_t]
        exact hQ
      next c3 =>
        have ka : ∀ (k : WP P 95 49 [some (.ref mo), some (.int (xi t)), some (.int (xi tab)), some (.int (xi spc)), some (.int (xi prio)), some (.int (xi (s_having S t 2))), some (.int (xi (s_having S tab 1))), some (.int (xi (s_having S spc 5))), none] [] (putR w mo S) Q), WP P 95 32 [some (.ref mo), some (.int (xi t)), some (.int (xi tab)), some (.int (xi spc)), some (.int (xi prio)), some (.int (xi (s_having S t 2))), some (.int (xi (s_having S tab 1))), none, none] [.int (xi (s_having S spc 5))] (putR w mo S) Q := by
          intro k
          by_cases d1 : tab = -1
          · simp (disch := first | exact hR _ _ | exact x01a | exact x01b | (unfold x_r; omega) | assumption | omega) only [wM_configure_32, wM_configure_34, wM_configure_36, wM_configure_39, wM_configure_40, wM_configure_41, wM_configure_44, wM_configure_46, x_gi_int, x_ga_ref, x_ga_null, List.getElem?_cons_zero, List.getElem?_cons_succ, List.length_cons, List.length_nil, List.set_cons_zero, List.set_cons_succ, Nat.reduceAdd, Nat.reduceLT, xr_lt, xr_eq, xr_toInt, xr_0, xi_add, xi_sub, xi_mul, xr_div, xr_rm, Int.toNat_natCast, bd_t, true_and, and_true, not_false_eq_true, ↓reduceIte, ilt_t, ilt_f, ile_t, x_c1i, x_c1r, x_c1n, and_self, Option.toList_some, Option.toList_none, List.cons_append, List.nil_append, xr_01, xr_00, ieq_f, ieq_t]
            exact k
          · simp (disch := first | exact hR _ _ | exact x01a | exact x01b | (unfold x_r; omega) | assumption | omega) only [wM_configure_32, wM_configure_34, wM_configure_36, wM_configure_39, wM_configure_40, wM_configure_41, wM_configure_44, wM_configure_46, x_gi_int, x_ga_ref, x_ga_null, List.getElem?_cons_zero, List.getElem?_cons_succ, List.length_cons, List.length_nil, List.set_cons_zero, List.set_cons_succ, Nat.reduceAdd, Nat.reduceLT, xr_lt, xr_eq, xr_toInt, xr_0, xi_add, xi_sub, xi_mul, xr_div, xr_rm, Int.toNat_natCast, bd_t, true_and, and_true, not_false_eq_true, ↓reduceIte, ilt_t, ilt_f, ile_t, x_c1i, x_c1r, x_c1n, and_self, Option.toList_some, Option.toList_none, List.cons_append, List.nil_append, xr_01, xr_00, ieq_f, ieq_t]
            exact k
        refine ka ?_
        split at hQ
        next c4 =>
          obtain ⟨c4a, c4b⟩ := c4
          simp (disch := first | exact hR _ _ | exact x01a | exact x01b | (unfold x_r; omega) | assumption | omega) only [wM_configure_49, wM_configure_50, wM_configure_51, wM_configure_54, wM_configure_56, wM_configure_59, wM_configure_60, x_gi_int, x_ga_ref, x_ga_null, List.getElem?_cons_zero, List.getElem?_cons_succ, List.length_cons, List.length_nil, List.set_cons_zero, List.set_cons_succ, Nat.reduceAdd, Nat.reduceLT, xr_lt, xr_eq, xr_toInt, xr_0, xi_add, xi_sub, xi_mul, xr_div, xr_rm, Int.toNat_natCast, bd_t, true_and, and_true, not_false_eq_true, ↓reduceIte, ilt_t, ilt_f, ile_t, x_c1i, x_c1r, x_c1n, and_self, Option.toList_some, Option.toList_none, List.cons_append, List.nil_append, xr_01, xr_00, ieq_f, ieq_t]
          exact hQ
        next c4 =>
          have kb : ∀ (k : WP P 95 61 [some (.ref mo), some (.int (xi t)), some (.int (xi tab)), some (.int (xi spc)), some (.int (xi prio)), some (.int (xi (s_having S t 2))), some (.int (xi (s_having S tab 1))), some (.int (xi (s_having S spc 5))), none] [] (putR w mo S) Q), WP P 95 49 [some (.ref mo), some (.int (xi t)), some (.int (xi tab)), some (.int (xi spc)), some (.int (xi prio)), some (.int (xi (s_having S t 2))), some (.int (xi (s_having S tab 1))), some (.int (xi (s_having S spc 5))), none] [] (putR w mo S) Q := by
            intro k
            by_cases d1 : spc = -1
            · simp (disch := first | exact hR _ _ | exact x01a | exact x01b | (unfold x_r; omega) | assumption | omega) only [wM_configure_49, wM_configure_50, wM_configure_51, wM_configure_54, wM_configure_56, x_gi_int, x_ga_ref, x_ga_null, List.getElem?_cons_zero, List.getElem?_cons_succ, List.length_cons, List.length_nil, List.set_cons_zero, List.set_cons_succ, Nat.reduceAdd, Nat.reduceLT, xr_lt, xr_eq, xr_toInt, xr_0, xi_add, xi_sub, xi_mul, xr_div, xr_rm, Int.toNat_natCast, bd_t, true_and, and_true, not_false_eq_true, ↓reduceIte, ilt_t, ilt_f, ile_t, x_c1i, x_c1r, x_c1n, and_self, Option.toList_some, Option.toList_none, List.cons_append, List.nil_append, xr_01, xr_00, ieq_f, ieq_t]
              exact k
            · simp (disch := first | exact hR _ _ | exact x01a | exact x01b | (unfold x_r; omega) | assumption | omega) only [wM_configure_49, wM_configure_50, wM_configure_51, wM_configure_54, wM_configure_56, x_gi_int, x_ga_ref, x_ga_null, List.getElem?_cons_zero, List.getElem?_cons_succ, List.length_cons, List.length_nil, List.set_cons_zero, List.set_cons_succ, Nat.reduceAdd, Nat.reduceLT, xr_lt, xr_eq, xr_toInt, xr_0, xi_add, xi_sub, xi_mul, xr_div, xr_rm, Int.toNat_natCast, bd_t, true_and, and_true, not_false_eq_true, ↓reduceIte, ilt_t, ilt_f, ile_t, x_c1i, x_c1r, x_c1n, and_self, Option.toList_some, Option.toList_none, List.cons_append, List.nil_append, xr_01, xr_00, ieq_f, ieq_t]
              exact k
          refine kb ?_
          split at hQ
          next c5 =>
            simp (disch := first | exact hR _ _ | exact x01a | exact x01b | (unfold x_r; omega) | assumption | omega) only [wM_configure_61, wM_configure_63, wM_configure_66, wM_configure_68, wM_configure_69, wM_configure_72, wM_configure_73, x_gi_int, x_ga_ref, x_ga_null, List.getElem?_cons_zero, List.getElem?_cons_succ, List.length_cons, List.length_nil, List.set_cons_zero, List.set_cons_succ, Nat.reduceAdd, Nat.reduceLT, xr_lt, xr_eq, xr_toInt, xr_0, xi_add, xi_sub, xi_mul, xr_div, xr_rm, Int.toNat_natCast, bd_t, true_and, and_true, not_false_eq_true, ↓reduceIte, ilt_t, ilt_f, ile_t, x_c1i, x_c1r, x_c1n, and_self, Option.toList_some, Option.toList_none, List.cons_append, List.nil_append, xr_01, xr_00, ieq_f, ieq_t]
            exact hQ
          next c5 =>
            split at hQ
            next c6 =>
              simp (disch := first | exact hR _ _ | exact x01a | exact x01b | (unfold x_r; omega) | assumption | omega) only [wM_configure_61, wM_configure_63, wM_configure_66, wM_configure_68, wM_configure_69, wM_configure_72, wM_configure_73, x_gi_int, x_ga_ref, x_ga_null, List.getElem?_cons_zero, List.getElem?_cons_succ, List.length_cons, List.length_nil, List.set_cons_zero, List.set_cons_succ, Nat.reduceAdd, Nat.reduceLT, xr_lt, xr_eq, xr_toInt, xr_0, xi_add, xi_sub, xi_mul, xr_div, xr_rm, Int.toNat_natCast, bd_t, true_and, and_true, not_false_eq_true, ↓reduceIte, ilt_t, ilt_f, ile_t, x_c1i, x_c1r, x_c1n, and_self, Option.toList_some, Option.toList_none, List.cons_append, List.nil_append, xr_01, xr_00, ieq_f, ieq_t]
              exact hQ
            next c6 =>
              simp (disch := first | exact hR _ _ | exact x01a | exact x01b | (unfold x_r; omega) | assumption | omega) only [wM_configure_61, wM_configure_63, wM_configure_66, wM_configure_68, wM_configure_69, wM_configure_72, wM_configure_73, wM_configure_74, wM_configure_76, wM_configure_77, wM_configure_80, x_gi_int, x_ga_ref, x_ga_null, List.getElem?_cons_zero, List.getElem?_cons_succ, List.length_cons, List.length_nil, List.set_cons_zero, List.set_cons_succ, Nat.reduceAdd, Nat.reduceLT, xr_lt, xr_eq, xr_toInt, xr_0, xi_add, xi_sub, xi_mul, xr_div, xr_rm, Int.toNat_natCast, bd_t, true_and, and_true, not_false_eq_true, ↓reduceIte, ilt_t, ilt_f, ile_t, x_c1i, x_c1r, x_c1n, and_self, Option.toList_some, Option.toList_none, List.cons_append, List.nil_append, xr_01, xr_00, ieq_f, ieq_t]
              refine wM_configure_81 (by simp) rfl rfl (m_now hR ?_)
              split at hQ
              next c7 =>
                simp (disch := first | exact hR _ _ | exact x01a | exact x01b | (unfold x_r; omega) | assumption | omega) only [wM_configure_84, wM_configure_85, wM_configure_88, wM_configure_89, x_gi_int, x_ga_ref, x_ga_null, List.getElem?_cons_zero, List.getElem?_cons_succ, List.length_cons, List.length_nil, List.set_cons_zero, List.set_cons_succ, Nat.reduceAdd, Nat.reduceLT, xr_lt, xr_eq, xr_toInt, xr_0, xi_add, xi_sub, xi_mul, xr_div, xr_rm, Int.toNat_natCast, bd_t, true_and, and_true, not_false_eq_true, ↓reduceIte, ilt_t, ilt_f, ile_t, x_c1i, x_c1r, x_c1n, and_self, Option.toList_some, Option.toList_none, List.cons_append, List.nil_append, xr_01, xr_00, ieq_f, ieq_t]
                exact hQ
              next c7 =>
                -- the space, the priority
                have kd : ∀ (ta sp : Int), x_r ta → x_r sp → Q (some (.int (xi 0))) (putR w mo (s_cf2 (s_cf1 S (S 1 (s_having S t 2).toNat / 8) ta sp) (S 1 (s_having S t 2).toNat / 8) prio)) → WP P 95 148 [some (.ref mo), some (.int (xi t)), some (.int (xi tab)), some (.int (xi spc)), some (.int (xi prio)), some (.int (xi (s_having S t 2))), some (.int (xi (s_having S tab 1))), some (.int (xi (s_having S spc 5))), some (.int (xi (S 1 (s_having S t 2).toNat / 8)))] [] (putR w mo (s_cf1 S (S 1 (s_having S t 2).toNat / 8) ta sp)) Q := by
                  intro ta sp hta hsp hz
                  have hR1 : RgS (s_cf1 S (S 1 (s_having S t 2).toNat / 8) ta sp) := (hR.set hta).set hsp
                  have hC1 : 0 ≤ s_cf1 S (S 1 (s_having S t 2).toNat / 8) ta sp 28 0 ∧ s_cf1 S (S 1 (s_having S t 2).toNat / 8) ta sp 28 0 < 2000000000 := by simpa [s_cf1, sset_at] using hC
                  generalize s_cf1 S (S 1 (s_having S t 2).toNat / 8) ta sp = S1 at *
                  have hR := hR1
                  unfold s_cf2 at hz
                  split at hz
                  next e1 =>
                    simp (disch := first | exact hR _ _ | exact x01a | exact x01b | (unfold x_r; omega) | assumption | omega) only [wM_configure_148, wM_configure_149, wM_configure_152, wM_configure_154, wM_configure_155, wM_configure_157, wM_configure_160, wM_configure_161, wM_configure_162, wM_configure_165, wM_configure_166, wM_configure_167, wM_configure_170, wM_configure_171, wM_configure_174, wM_configure_176, wM_configure_177, wM_configure_180, wM_configure_182, wM_configure_183, wM_configure_184, wM_configure_187, wM_configure_188, wM_configure_191, wM_configure_194, wM_configure_195, wM_configure_198, wM_configure_200, wM_configure_201, wM_configure_202, wM_configure_203, wM_configure_206, wM_configure_208, wM_configure_210, wM_configure_211, wM_configure_212, x_gi_int, x_ga_ref, x_ga_null, List.getElem?_cons_zero, List.getElem?_cons_succ, List.length_cons, List.length_nil, List.set_cons_zero, List.set_cons_succ, Nat.reduceAdd, Nat.reduceLT, xr_lt, xr_eq, xr_toInt, xr_0, xi_add, xi_sub, xi_mul, xr_div, xr_rm, Int.toNat_natCast, bd_t, true_and, and_true, not_false_eq_true, ↓reduceIte, ilt_t, ilt_f, ile_t, x_c1i, x_c1r, x_c1n, and_self, Option.toList_some, Option.toList_none, List.cons_append, List.nil_append, xr_01, xr_00, ieq_f, ieq_t, sset_at, Nat.reduceEqDiff, false_and, and_false, eq_self, and_self, reduceCtorEq]
                    exact hz
                  next e1 =>
                    split at hz
                    next e2 =>
                      simp (disch := first | exact hR _ _ | exact x01a | exact x01b | (unfold x_r; omega) | assumption | omega) only [wM_configure_148, wM_configure_149, wM_configure_152, wM_configure_154, wM_configure_155, wM_configure_157, wM_configure_160, wM_configure_161, wM_configure_162, wM_configure_165, wM_configure_166, wM_configure_167, wM_configure_170, wM_configure_171, wM_configure_174, wM_configure_176, wM_configure_177, wM_configure_180, wM_configure_182, wM_configure_183, wM_configure_184, wM_configure_187, wM_configure_188, wM_configure_191, wM_configure_194, wM_configure_195, wM_configure_198, wM_configure_200, wM_configure_201, wM_configure_202, wM_configure_203, wM_configure_206, wM_configure_208, wM_configure_210, wM_configure_211, wM_configure_212, x_gi_int, x_ga_ref, x_ga_null, List.getElem?_cons_zero, List.getElem?_cons_succ, List.length_cons, List.length_nil, List.set_cons_zero, List.set_cons_succ, Nat.reduceAdd, Nat.reduceLT, xr_lt, xr_eq, xr_toInt, xr_0, xi_add, xi_sub, xi_mul, xr_div, xr_rm, Int.toNat_natCast, bd_t, true_and, and_true, not_false_eq_true, ↓reduceIte, ilt_t, ilt_f, ile_t, x_c1i, x_c1r, x_c1n, and_self, Option.toList_some, Option.toList_none, List.cons_append, List.nil_append, xr_01, xr_00, ieq_f, ieq_t, sset_at, Nat.reduceEqDiff, false_and, and_false, eq_self, and_self, reduceCtorEq]
                      exact hz
                    next e2 =>
                      simp (disch := first | exact hR _ _ | exact x01a | exact x01b | (unfold x_r; omega) | assumption | omega) only [wM_configure_148, wM_configure_149, wM_configure_152, wM_configure_154, wM_configure_155, wM_configure_157, wM_configure_160, wM_configure_161, wM_configure_162, wM_configure_165, wM_configure_166, wM_configure_167, wM_configure_170, wM_configure_171, wM_configure_174, wM_configure_176, wM_configure_177, wM_configure_180, wM_configure_182, wM_configure_183, wM_configure_184, wM_configure_187, wM_configure_188, wM_configure_191, wM_configure_194, wM_configure_195, wM_configure_198, wM_configure_200, wM_configure_201, wM_configure_202, wM_configure_203, wM_configure_206, wM_configure_208, wM_configure_210, wM_configure_211, wM_configure_212, x_gi_int, x_ga_ref, x_ga_null, List.getElem?_cons_zero, List.getElem?_cons_succ, List.length_cons, List.length_nil, List.set_cons_zero, List.set_cons_succ, Nat.reduceAdd, Nat.reduceLT, xr_lt, xr_eq, xr_toInt, xr_0, xi_add, xi_sub, xi_mul, xr_div, xr_rm, Int.toNat_natCast, bd_t, true_and, and_true, not_false_eq_true, ↓reduceIte, ilt_t, ilt_f, ile_t, x_c1i, x_c1r, x_c1n, and_self, Option.toList_some, Option.toList_none, List.cons_append, List.nil_append, xr_01, xr_00, ieq_f, ieq_t, sset_at, Nat.reduceEqDiff, false_and, and_false, eq_self, and_self, reduceCtorEq]
                      exact hz
                by_cases d1 : tab = -1
                · rw [if_pos d1] at hQ
                  by_cases d2 : spc = -1
                  · rw [if_pos d2] at hQ
                    simp (disch := first | exact hR _ _ | exact x01a | exact x01b | (unfold x_r; omega) | assumption | omega) only [wM_configure_84, wM_configure_85, wM_configure_88, wM_configure_89, wM_configure_90, wM_configure_91, wM_configure_94, wM_configure_96, wM_configure_97, wM_configure_99, wM_configure_100, wM_configure_102, wM_configure_103, wM_configure_106, wM_configure_108, wM_configure_109, wM_configure_110, wM_configure_113, wM_configure_114, wM_configure_117, wM_configure_118, wM_configure_121, wM_configure_123, wM_configure_124, wM_configure_125, wM_configure_126, wM_configure_129, wM_configure_131, wM_configure_132, wM_configure_133, wM_configure_136, wM_configure_137, wM_configure_140, wM_configure_141, wM_configure_144, wM_configure_146, wM_configure_147, x_gi_int, x_ga_ref, x_ga_null, List.getElem?_cons_zero, List.getElem?_cons_succ, List.length_cons, List.length_nil, List.set_cons_zero, List.set_cons_succ, Nat.reduceAdd, Nat.reduceLT, xr_lt, xr_eq, xr_toInt, xr_0, xi_add, xi_sub, xi_mul, xr_div, xr_rm, Int.toNat_natCast, bd_t, true_and, and_true, not_false_eq_true, ↓reduceIte, ilt_t, ilt_f, ile_t, x_c1i, x_c1r, x_c1n, and_self, Option.toList_some, Option.toList_none, List.cons_append, List.nil_append, xr_01, xr_00, ieq_f, ieq_t, sset_at, Nat.reduceEqDiff, false_and, and_false, eq_self, and_self, reduceCtorEq]
                    exact kd (-1) (-1) x_r_m1 x_r_m1 hQ
                  · rw [if_neg d2] at hQ
                    have hu3 := hG.2.1.2.1 (s_having S spc 5).toNat (by omega)
                    simp (disch := first | exact hR _ _ | exact x01a | exact x01b | (unfold x_r; omega) | assumption | omega) only [wM_configure_84, wM_configure_85, wM_configure_88, wM_configure_89, wM_configure_90, wM_configure_91, wM_configure_94, wM_configure_96, wM_configure_97, wM_configure_99, wM_configure_100, wM_configure_102, wM_configure_103, wM_configure_106, wM_configure_108, wM_configure_109, wM_configure_110, wM_configure_113, wM_configure_114, wM_configure_117, wM_configure_118, wM_configure_121, wM_configure_123, wM_configure_124, wM_configure_125, wM_configure_126, wM_configure_129, wM_configure_131, wM_configure_132, wM_configure_133, wM_configure_136, wM_configure_137, wM_configure_140, wM_configure_141, wM_configure_144, wM_configure_146, wM_configure_147, x_gi_int, x_ga_ref, x_ga_null, List.getElem?_cons_zero, List.getElem?_cons_succ, List.length_cons, List.length_nil, List.set_cons_zero, List.set_cons_succ, Nat.reduceAdd, Nat.reduceLT, xr_lt, xr_eq, xr_toInt, xr_0, xi_add, xi_sub, xi_mul, xr_div, xr_rm, Int.toNat_natCast, bd_t, true_and, and_true, not_false_eq_true, ↓reduceIte, ilt_t, ilt_f, ile_t, x_c1i, x_c1r, x_c1n, and_self, Option.toList_some, Option.toList_none, List.cons_append, List.nil_append, xr_01, xr_00, ieq_f, ieq_t, sset_at, Nat.reduceEqDiff, false_and, and_false, eq_self, and_self, reduceCtorEq]
                    exact kd (-1) _ x_r_m1 (hR _ _) hQ
                · rw [if_neg d1] at hQ
                  have hu2 := hG.2.1.2.1 (s_having S tab 1).toNat (by omega)
                  by_cases d2 : spc = -1
                  · rw [if_pos d2] at hQ
                    simp (disch := first | exact hR _ _ | exact x01a | exact x01b | (unfold x_r; omega) | assumption | omega) only [wM_configure_84, wM_configure_85, wM_configure_88, wM_configure_89, wM_configure_90, wM_configure_91, wM_configure_94, wM_configure_96, wM_configure_97, wM_configure_99, wM_configure_100, wM_configure_102, wM_configure_103, wM_configure_106, wM_configure_108, wM_configure_109, wM_configure_110, wM_configure_113, wM_configure_114, wM_configure_117, wM_configure_118, wM_configure_121, wM_configure_123, wM_configure_124, wM_configure_125, wM_configure_126, wM_configure_129, wM_configure_131, wM_configure_132, wM_configure_133, wM_configure_136, wM_configure_137, wM_configure_140, wM_configure_141, wM_configure_144, wM_configure_146, wM_configure_147, x_gi_int, x_ga_ref, x_ga_null, List.getElem?_cons_zero, List.getElem?_cons_succ, List.length_cons, List.length_nil, List.set_cons_zero, List.set_cons_succ, Nat.reduceAdd, Nat.reduceLT, xr_lt, xr_eq, xr_toInt, xr_0, xi_add, xi_sub, xi_mul, xr_div, xr_rm, Int.toNat_natCast, bd_t, true_and, and_true, not_false_eq_true, ↓reduceIte, ilt_t, ilt_f, ile_t, x_c1i, x_c1r, x_c1n, and_self, Option.toList_some, Option.toList_none, List.cons_append, List.nil_append, xr_01, xr_00, ieq_f, ieq_t, sset_at, Nat.reduceEqDiff, false_and, and_false, eq_self, and_self, reduceCtorEq]
                    exact kd _ (-1) (hR _ _) x_r_m1 hQ
                  · rw [if_neg d2] at hQ
                    have hu3 := hG.2.1.2.1 (s_having S spc 5).toNat (by omega)
                    simp (disch := first | exact hR _ _ | exact x01a | exact x01b | (unfold x_r; omega) | assumption | omega) only [wM_configure_84, wM_configure_85, wM_configure_88, wM_configure_89, wM_configure_90, wM_configure_91, wM_configure_94, wM_configure_96, wM_configure_97, wM_configure_99, wM_configure_100, wM_configure_102, wM_configure_103, wM_configure_106, wM_configure_108, wM_configure_109, wM_configure_110, wM_configure_113, wM_configure_114, wM_configure_117, wM_configure_118, wM_configure_121, wM_configure_123, wM_configure_124, wM_configure_125, wM_configure_126, wM_configure_129, wM_configure_131, wM_configure_132, wM_configure_133, wM_configure_136, wM_configure_137, wM_configure_140, wM_configure_141, wM_configure_144, wM_configure_146, wM_configure_147, x_gi_int, x_ga_ref, x_ga_null, List.getElem?_cons_zero, List.getElem?_cons_succ, List.length_cons, List.length_nil, List.set_cons_zero, List.set_cons_succ, Nat.reduceAdd, Nat.reduceLT, xr_lt, xr_eq, xr_toInt, xr_0, xi_add, xi_sub, xi_mul, xr_div, xr_rm, Int.toNat_natCast, bd_t, true_and, and_true, not_false_eq_true, ↓reduceIte, ilt_t, ilt_f, ile_t, x_c1i, x_c1r, x_c1n, and_self, Option.toList_some, Option.toList_none, List.cons_append, List.nil_append, xr_01, xr_00, ieq_f, ieq_t, sset_at, Nat.reduceEqDiff, false_and, and_false, eq_self, and_self, reduceCtorEq]
                    exact kd _ _ (hR _ _) (hR _ _) hQ
end RM
