theorem s_size_in {k b : Int} (hb : k = 0 → 1 ≤ b ∧ b ≤ 6) : 2 ≤ s_size k b ∧ s_size k b ≤ 64 := by
  unfold s_size
  split
  next h =>
    have := hb h
    rcases (by omega : b = 1 ∨ b = 2 ∨ b = 3 ∨ b = 4 ∨ b = 5 ∨ b = 6) with rfl | rfl | rfl | rfl | rfl | rfl <;> decide
  · (repeat' split) <;> omega
/-- rounded up -/
def s_up (fp size : Int) : Int := (fp + size - 1) / size * size
theorem s_up_in {fp size : Int} (h0 : 0 ≤ fp) (h1 : 2 ≤ size) : 0 ≤ s_up fp size ∧ s_up fp size ≤ fp + size - 1 ∧ 0 ≤ (fp + size - 1) / size ∧ (fp + size - 1) / size ≤ fp + size - 1 := by
  unfold s_up
  have e1 : 0 ≤ (fp + size - 1) / size := Int.ediv_nonneg (by omega) (by omega)
  refine ⟨Int.mul_nonneg e1 (by omega), Int.ediv_mul_le _ (by omega), e1, Int.ediv_le_self _ (by omega)⟩
def s_retype (S : xS) (u k b dest : Int) : Int × xS := if s_now S < 0 then (8, S) else if s_having S u 0 < 0 then (1, S) else if k < 0 then (4, S) else if 7 < k then (4, S) else if k = 0 ∧ (b < 1 ∨ 6 < b) then (4, S) else if s_vacant S dest < 0 then (3, S) else
  if S 1 (s_having S u 0).toNat + s_size 0 (S 5 (s_having S u 0).toNat) < s_up (s_freePoint S (s_having S u 0)) (s_size k b) + s_size k b then (5, S) else
  (0, s_begin (s_fill (sset S 6 (s_having S u 0).toNat (s_up (s_freePoint S (s_having S u 0)) (s_size k b) + s_size k b)) (s_vacant S dest) k (s_up (s_freePoint S (s_having S u 0)) (s_size k b)) b (s_having S u 0)) k (s_up (s_freePoint S (s_having S u 0)) (s_size k b)))
def upL (S : xS) (s : Int) : Nat → Int → Int
  | 0, up => up
  | n + 1, up => if up = -1 then up else if up = s then up else upL S s n (S 4 up.toNat)
def rv_doo (S : xS) (s : Int) (q : Nat) : Int := if upL S s 128 (if S 0 q < 0 then -1 else S 4 q) = s then 1 else 0
def s_revoke (S : xS) (a : Int) : Int × xS := if s_now S < 0 then (8, S) else if s_having S a (-1) < 0 then (1, S) else (0, s_sweep (mapA S 9 128 (rv_doo S (s_having S a (-1)))))
theorem TrS.par {S : xS} (h : TrS S) {q : Nat} (hq : q < 128) : S 4 q = -1 ∨ (0 ≤ S 4 q ∧ S 4 q < 128) := by
  obtain ⟨rho, h⟩ := h
  rcases h q hq with g | ⟨g1, g2, -⟩
  · exact Or.inl g
  · exact Or.inr ⟨g1, g2⟩
theorem upL_in {S : xS} (h : TrS S) (s : Int) : ∀ (n : Nat) (up : Int), (up = -1 ∨ (0 ≤ up ∧ up < 128)) → upL S s n up = -1 ∨ (0 ≤ upL S s n up ∧ upL S s n up < 128) := by
  intro n
  induction n with
  | zero => intro up hu; exact hu
  | succ n ih =>
    intro up hu
    unfold upL
    split
    · exact hu
    · split
      · exact hu
      · exact ih _ (h.par (by omega))
theorem IW.map9 {S : xS} (h : IW S) {k : Nat} {f : Nat → Int} (hf : ∀ i, i < k → x_r (f i)) : IW (mapA S 9 k f) := by
  obtain ⟨hR, g1, rho, g2⟩ := h
  refine ⟨hR.map hf, fun t ht => ?_, rho, fun q hq => ?_⟩
  · rw [mapA_at, if_neg (by omega)]; exact g1 t ht
  · rw [mapA_at, if_neg (by omega), mapA_at, if_neg (by omega)]; exact g2 q hq
section RN
variable {P : xP} {w : xH} {Q : Option Value → xH → Prop} {mo : Nat} {S : xS}
set_option maxHeartbeats 4000000 in
theorem m_retype {u k b dest : Int} (hG : GS S) (hM : ∀ s, s < 128 → S 0 s = 0 → S 1 s + s_size 0 (S 5 s) ≤ 128) (h1 : x_r u) (h2 : x_r k) (h3 : x_r b) (h4 : x_r dest) (hQ : Q (some (.int (xi (s_retype S u k b dest).1))) (putR w mo (s_retype S u k b dest).2)) : WP P 80 0 [some (.ref mo), some (.int (xi u)), some (.int (xi k)), some (.int (xi b)), some (.int (xi dest)), none, none, none, none] [] (putR w mo S) Q := by
  have hW := hG.1
  have hR := hW.1
  have hn := s_now_in S
  have g1 := h2.1
  have g2 := h2.2
  have g3 := h3.1
  have g4 := h3.2
  simp (disch := first | exact hR _ _ | exact x01a | exact x01b | (unfold x_r; omega) | assumption | omega) only [wM_retype_0, x_gi_int, x_ga_ref, x_ga_null, List.getElem?_cons_zero, List.getElem?_cons_succ, List.length_cons, List.length_nil, List.set_cons_zero, List.set_cons_succ, Nat.reduceAdd, Nat.reduceLT, xr_lt, xr_eq, xr_toInt, xr_0, xi_add, xi_sub, xi_mul, xr_div, xr_rm, Int.toNat_natCast, bd_t, true_and, and_true, not_false_eq_true, ↓reduceIte, ilt_t, ilt_f, ile_t, x_c1i, x_c1r, x_c1n, and_self, Option.toList_some, Option.toList_none, List.cons_append, List.nil_append, xr_01, xr_00, ieq_f, ieq_t]
  refine wM_retype_1 (by simp) rfl rfl (m_now hR ?_)
  unfold s_retype at hQ
  split at hQ
  next c1 =>
    simp (disch := first | exact hR _ _ | exact x01a | exact x01b | (unfold x_r; omega) | assumption | omega) only [wM_retype_4, wM_retype_7, wM_retype_9, x_gi_int, x_ga_ref, x_ga_null, List.getElem?_cons_zero, List.getElem?_cons_succ, List.length_cons, List.length_nil, List.set_cons_zero, List.set_cons_succ, Nat.reduceAdd, Nat.reduceLT, xr_lt, xr_eq, xr_toInt, xr_0, xi_add, xi_sub, xi_mul, xr_div, xr_rm, Int.toNat_natCast, bd_t, true_and, and_true, not_false_eq_true, ↓reduceIte, ilt_t, ilt_f, ile_t, x_c1i, x_c1r, x_c1n, and_self, Option.toList_some, Option.toList_none, List.cons_append, List.nil_append, xr_01, xr_00, ieq_f, ieq_t]
    exact hQ
  next c1 =>
    have hh := s_having_in hW (by omega) u 0
    have hv := s_vacant_in hW (by omega) dest
    simp (disch := first | exact hR _ _ | exact x01a | exact x01b | (unfold x_r; omega) | assumption | omega) only [wM_retype_4, wM_retype_7, wM_retype_9, wM_retype_10, wM_retype_11, wM_retype_12, x_gi_int, x_ga_ref, x_ga_null, List.getElem?_cons_zero, List.getElem?_cons_succ, List.length_cons, List.length_nil, List.set_cons_zero, List.set_cons_succ, Nat.reduceAdd, Nat.reduceLT, xr_lt, xr_eq, xr_toInt, xr_0, xi_add, xi_sub, xi_mul, xr_div, xr_rm, Int.toNat_natCast, bd_t, true_and, and_true, not_false_eq_true, ↓reduceIte, ilt_t, ilt_f, ile_t, x_c1i, x_c1r, x_c1n, and_self, Option.toList_some, Option.toList_none, List.cons_append, List.nil_append, xr_01, xr_00, ieq_f, ieq_t]
    refine wM_retype_13 (by simp) rfl rfl (m_having hW (by omega) h1 ⟨by omega, by omega⟩ ?_)
    split at hQ
    next c2 =>
      simp (disch := first | exact hR _ _ | exact x01a | exact x01b | (unfold x_r; omega) | assumption | omega) only [wM_retype_16, wM_retype_18, wM_retype_20, wM_retype_23, wM_retype_24, x_gi_int, x_ga_ref, x_ga_null, List.getElem?_cons_zero, List.getElem?_cons_succ, List.length_cons, List.length_nil, List.set_cons_zero, List.set_cons_succ, Nat.reduceAdd, Nat.reduceLT, xr_lt, xr_eq, xr_toInt, xr_0, xi_add, xi_sub, xi_mul, xr_div, xr_rm, Int.toNat_natCast, bd_t, true_and, and_true, not_false_eq_true, ↓reduceIte, ilt_t, ilt_f, ile_t, x_c1i, x_c1r, x_c1n, and_self, Option.toList_some, Option.toList_none, List.cons_append, List.nil_append, xr_01, xr_00, ieq_f, ieq_t]
      exact hQ
    next c2 =>
      have hk0 := (hh.2.2 (by omega)).2 (by omega)
      have hu := hG.2.1.2.1 (s_having S u 0).toNat (by omega)
      have hr := hG.2.2.2.1 (s_having S u 0).toNat (by omega) (by omega)
      have hbi := hG.2.2.2.2.1 (s_having S u 0).toNat (by omega) hk0
      have hm := hM (s_having S u 0).toNat (by omega) hk0
      split at hQ
      next c3 =>
        simp (disch := first | exact hR _ _ | exact x01a | exact x01b | (unfold x_r; omega) | assumption | omega) only [wM_retype_16, wM_retype_18, wM_retype_20, wM_retype_23, wM_retype_24, wM_retype_25, wM_retype_26, wM_retype_29, wM_retype_30, wM_retype_32, wM_retype_35, wM_retype_36, wM_retype_39, wM_retype_40, wM_retype_41, wM_retype_44, wM_retype_45, wM_retype_47, wM_retype_50, wM_retype_51, x_gi_int, x_ga_ref, x_ga_null, List.getElem?_cons_zero, List.getElem?_cons_succ, List.length_cons, List.length_nil, List.set_cons_zero, List.set_cons_succ, Nat.reduceAdd, Nat.reduceLT, xr_lt, xr_eq, xr_toInt, xr_0, xi_add, xi_sub, xi_mul, xr_div, xr_rm, Int.toNat_natCast, bd_t, true_and, and_true, not_false_eq_true, ↓reduceIte, ilt_t, ilt_f, ile_t, x_c1i, x_c1r, x_c1n, and_self, Option.toList_some, Option.toList_none, List.cons_append, List.nil_append, xr_01, xr_00, ieq_f, ieq_t]
        exact hQ
      next c3 =>
        split at hQ
        next c4 =>
          simp (disch := first | exact hR _ _ | exact x01a | exact x01b | (unfold x_r; omega) | assumption | omega) only [wM_retype_16, wM_retype_18, wM_retype_20, wM_retype_23, wM_retype_24, wM_retype_25, wM_retype_26, wM_retype_29, wM_retype_30, wM_retype_32, wM_retype_35, wM_retype_36, wM_retype_39, wM_retype_40, wM_retype_41, wM_retype_44, wM_retype_45, wM_retype_47, wM_retype_50, wM_retype_51, x_gi_int, x_ga_ref, x_ga_null, List.getElem?_cons_zero, List.getElem?_cons_succ, List.length_cons, List.length_nil, List.set_cons_zero, List.set_cons_succ, Nat.reduceAdd, Nat.reduceLT, xr_lt, xr_eq, xr_toInt, xr_0, xi_add, xi_sub, xi_mul, xr_div, xr_rm, Int.toNat_natCast, bd_t, true_and, and_true, not_false_eq_true, ↓reduceIte, ilt_t, ilt_f, ile_t, x_c1i, x_c1r, x_c1n, and_self, Option.toList_some, Option.toList_none, List.cons_append, List.nil_append, xr_01, xr_00, ieq_f, ieq_t]
          exact hQ
        next c4 =>
          split at hQ
          next c5 =>
            obtain ⟨c5a, c5b⟩ := c5
            by_cases c6 : b < 1
            · simp (disch := first | exact hR _ _ | exact x01a | exact x01b | (unfold x_r; omega) | assumption | omega) only [wM_retype_16, wM_retype_18, wM_retype_20, wM_retype_23, wM_retype_24, wM_retype_25, wM_retype_26, wM_retype_29, wM_retype_30, wM_retype_32, wM_retype_35, wM_retype_36, wM_retype_39, wM_retype_40, wM_retype_41, wM_retype_44, wM_retype_45, wM_retype_47, wM_retype_50, wM_retype_51, x_gi_int, x_ga_ref, x_ga_null, List.getElem?_cons_zero, List.getElem?_cons_succ, List.length_cons, List.length_nil, List.set_cons_zero, List.set_cons_succ, Nat.reduceAdd, Nat.reduceLT, xr_lt, xr_eq, xr_toInt, xr_0, xi_add, xi_sub, xi_mul, xr_div, xr_rm, Int.toNat_natCast, bd_t, true_and, and_true, not_false_eq_true, ↓reduceIte, ilt_t, ilt_f, ile_t, x_c1i, x_c1r, x_c1n, and_self, Option.toList_some, Option.toList_none, List.cons_append, List.nil_append, xr_01, xr_00, ieq_f, ieq_t]
              exact hQ
            · simp (disch := first | exact hR _ _ | exact x01a | exact x01b | (unfold x_r; omega) | assumption | omega) only [wM_retype_16, wM_retype_18, wM_retype_20, wM_retype_23, wM_retype_24, wM_retype_25, wM_retype_26, wM_retype_29, wM_retype_30, wM_retype_32, wM_retype_35, wM_retype_36, wM_retype_39, wM_retype_40, wM_retype_41, wM_retype_44, wM_retype_45, wM_retype_47, wM_retype_50, wM_retype_51, x_gi_int, x_ga_ref, x_ga_null, List.getElem?_cons_zero, List.getElem?_cons_succ, List.length_cons, List.length_nil, List.set_cons_zero, List.set_cons_succ, Nat.reduceAdd, Nat.reduceLT, xr_lt, xr_eq, xr_toInt, xr_0, xi_add, xi_sub, xi_mul, xr_div, xr_rm, Int.toNat_natCast, bd_t, true_and, and_true, not_false_eq_true, ↓reduceIte, ilt_t, ilt_f, ile_t, x_c1i, x_c1r, x_c1n, and_self, Option.toList_some, Option.toList_none, List.cons_append, List.nil_append, xr_01, xr_00, ieq_f, ieq_t]
              exact hQ
          next c5 =>
            have ka : ∀ (kk : WP P 80 52 [some (.ref mo), some (.int (xi u)), some (.int (xi k)), some (.int (xi b)), some (.int (xi dest)), some (.int (xi (s_having S u 0))), none, none, none] [] (putR w mo S) Q), WP P 80 16 [some (.ref mo), some (.int (xi u)), some (.int (xi k)), some (.int (xi b)), some (.int (xi dest)), none, none, none, none] [.int (xi (s_having S u 0))] (putR w mo S) Q := by
              intro kk
              by_cases d1 : k = 0
              · simp (disch := first | exact hR _ _ | exact x01a | exact x01b | (unfold x_r; omega) | assumption | omega) only [wM_retype_16, wM_retype_18, wM_retype_20, wM_retype_23, wM_retype_24, wM_retype_25, wM_retype_26, wM_retype_29, wM_retype_30, wM_retype_32, wM_retype_35, wM_retype_36, wM_retype_39, wM_retype_40, wM_retype_41, wM_retype_44, wM_retype_45, wM_retype_47, x_gi_int, x_ga_ref, x_ga_null, List.getElem?_cons_zero, List.getElem?_cons_succ, List.length_cons, List.length_nil, List.set_cons_zero, List.set_cons_succ, Nat.reduceAdd, Nat.reduceLT, xr_lt, xr_eq, xr_toInt, xr_0, xi_add, xi_sub, xi_mul, xr_div, xr_rm, Int.toNat_natCast, bd_t, true_and, and_true, not_false_eq_true, ↓reduceIte, ilt_t, ilt_f, ile_t, x_c1i, x_c1r, x_c1n, and_self, Option.toList_some, Option.toList_none, List.cons_append, List.nil_append, xr_01, xr_00, ieq_f, ieq_t]
                exact kk
              · simp (disch := first | exact hR _ _ | exact x01a | exact x01b | (unfold x_r; omega) | assumption | omega) only [wM_retype_16, wM_retype_18, wM_retype_20, wM_retype_23, wM_retype_24, wM_retype_25, wM_retype_26, wM_retype_29, wM_retype_30, wM_retype_32, wM_retype_35, wM_retype_36, wM_retype_39, wM_retype_40, wM_retype_41, wM_retype_44, wM_retype_45, wM_retype_47, x_gi_int, x_ga_ref, x_ga_null, List.getElem?_cons_zero, List.getElem?_cons_succ, List.length_cons, List.length_nil, List.set_cons_zero, List.set_cons_succ, Nat.reduceAdd, Nat.reduceLT, xr_lt, xr_eq, xr_toInt, xr_0, xi_add, xi_sub, xi_mul, xr_div, xr_rm, Int.toNat_natCast, bd_t, true_and, and_true, not_false_eq_true, ↓reduceIte, ilt_t, ilt_f, ile_t, x_c1i, x_c1r, x_c1n, and_self, Option.toList_some, Option.toList_none, List.cons_append, List.nil_append, xr_01, xr_00, ieq_f, ieq_t]
                exact kk
            refine ka ?_
            simp (disch := first | exact hR _ _ | exact x01a | exact x01b | (unfold x_r; omega) | assumption | omega) only [wM_retype_52, wM_retype_53, x_gi_int, x_ga_ref, x_ga_null, List.getElem?_cons_zero, List.getElem?_cons_succ, List.length_cons, List.length_nil, List.set_cons_zero, List.set_cons_succ, Nat.reduceAdd, Nat.reduceLT, xr_lt, xr_eq, xr_toInt, xr_0, xi_add, xi_sub, xi_mul, xr_div, xr_rm, Int.toNat_natCast, bd_t, true_and, and_true, not_false_eq_true, ↓reduceIte, ilt_t, ilt_f, ile_t, x_c1i, x_c1r, x_c1n, and_self, Option.toList_some, Option.toList_none, List.cons_append, List.nil_append, xr_01, xr_00, ieq_f, ieq_t]
            refine wM_retype_55 (by simp) rfl rfl (m_vacant hW (by omega) h4 ?_)
            split at hQ
            next c7 =>
              simp (disch := first | exact hR _ _ | exact x01a | exact x01b | (unfold x_r; omega) | assumption | omega) only [wM_retype_58, wM_retype_60, wM_retype_62, wM_retype_65, wM_retype_66, x_gi_int, x_ga_ref, x_ga_null, List.getElem?_cons_zero, List.getElem?_cons_succ, List.length_cons, List.length_nil, List.set_cons_zero, List.set_cons_succ, Nat.reduceAdd, Nat.reduceLT, xr_lt, xr_eq, xr_toInt, xr_0, xi_add, xi_sub, xi_mul, xr_div, xr_rm, Int.toNat_natCast, bd_t, true_and, and_true, not_false_eq_true, ↓reduceIte, ilt_t, ilt_f, ile_t, x_c1i, x_c1r, x_c1n, and_self, Option.toList_some, Option.toList_none, List.cons_append, List.nil_append, xr_01, xr_00, ieq_f, ieq_t]
              exact hQ
            next c7 =>
              have hsz := s_size_in (k := k) (b := b) (fun h => by omega)
              have hsz2 := s_size_in (k := 0) (b := S 5 (s_having S u 0).toNat) (fun h => hbi)
              have hfp : 0 ≤ s_freePoint S (s_having S u 0) ∧ s_freePoint S (s_having S u 0) ≤ 128 := by
                unfold s_freePoint
                split <;> omega
              have hup := s_up_in (fp := s_freePoint S (s_having S u 0)) (size := s_size k b) hfp.1 hsz.1
              simp (disch := first | exact hR _ _ | exact x01a | exact x01b | (unfold x_r; omega) | assumption | omega) only [wM_retype_58, wM_retype_60, wM_retype_62, wM_retype_65, wM_retype_66, wM_retype_67, wM_retype_68, x_gi_int, x_ga_ref, x_ga_null, List.getElem?_cons_zero, List.getElem?_cons_succ, List.length_cons, List.length_nil, List.set_cons_zero, List.set_cons_succ, Nat.reduceAdd, Nat.reduceLT, xr_lt, xr_eq, xr_toInt, xr_0, xi_add, xi_sub, xi_mul, xr_div, xr_rm, Int.toNat_natCast, bd_t, true_and, and_true, not_false_eq_true, ↓reduceIte, ilt_t, ilt_f, ile_t, x_c1i, x_c1r, x_c1n, and_self, Option.toList_some, Option.toList_none, List.cons_append, List.nil_append, xr_01, xr_00, ieq_f, ieq_t]
              refine wM_retype_69 (by simp) rfl rfl (m_sizeOf hR ⟨by omega, by omega⟩ (fun h => by omega) ?_)
              simp (disch := first | exact hR _ _ | exact x01a | exact x01b | (unfold x_r; omega) | assumption | omega) only [wM_retype_72, wM_retype_74, wM_retype_75, x_gi_int, x_ga_ref, x_ga_null, List.getElem?_cons_zero, List.getElem?_cons_succ, List.length_cons, List.length_nil, List.set_cons_zero, List.set_cons_succ, Nat.reduceAdd, Nat.reduceLT, xr_lt, xr_eq, xr_toInt, xr_0, xi_add, xi_sub, xi_mul, xr_div, xr_rm, Int.toNat_natCast, bd_t, true_and, and_true, not_false_eq_true, ↓reduceIte, ilt_t, ilt_f, ile_t, x_c1i, x_c1r, x_c1n, and_self, Option.toList_some, Option.toList_none, List.cons_append, List.nil_append, xr_01, xr_00, ieq_f, ieq_t]
              refine wM_retype_77 (by simp) rfl rfl (m_freePoint hR (by omega) (by omega) ?_)
              have hq4 : S 5 (s_having S u 0).toNat = S 5 (s_having S u 0).toNat := rfl
              simp (disch := first | exact hR _ _ | exact x01a | exact x01b | (unfold x_r; omega) | assumption | omega) only [wM_retype_80, wM_retype_82, wM_retype_83, wM_retype_84, wM_retype_85, wM_retype_87, wM_retype_88, wM_retype_90, wM_retype_91, wM_retype_93, wM_retype_95, wM_retype_97, wM_retype_98, wM_retype_99, wM_retype_102, wM_retype_104, wM_retype_105, wM_retype_106, wM_retype_107, wM_retype_110, wM_retype_112, x_gi_int, x_ga_ref, x_ga_null, List.getElem?_cons_zero, List.getElem?_cons_succ, List.length_cons, List.length_nil, List.set_cons_zero, List.set_cons_succ, Nat.reduceAdd, Nat.reduceLT, xr_lt, xr_eq, xr_toInt, xr_0, xi_add, xi_sub, xi_mul, xr_div, xr_rm, Int.toNat_natCast, bd_t, true_and, and_true, not_false_eq_true, ↓reduceIte, ilt_t, ilt_f, ile_t, x_c1i, x_c1r, x_c1n, and_self, Option.toList_some, Option.toList_none, List.cons_append, List.nil_append, xr_01, xr_00, ieq_f, ieq_t, show s_up (s_freePoint S (s_having S u 0)) (s_size k b) = (s_freePoint S (s_having S u 0) + s_size k b - 1) / s_size k b * s_size k b from rfl]
              refine wM_retype_113 (by simp) rfl rfl (m_sizeOf hR ⟨by omega, by omega⟩ (fun _ => ⟨by omega, hbi.2⟩) ?_)
              have eA : (s_freePoint S (s_having S u 0) + s_size k b - 1) / s_size k b * s_size k b = s_up (s_freePoint S (s_having S u 0)) (s_size k b) := rfl
              rw [eA]
              generalize s_up (s_freePoint S (s_having S u 0)) (s_size k b) = A at *
              generalize s_size k b = sz at *
              generalize s_size 0 (S 5 (s_having S u 0).toNat) = sz2 at *
              split at hQ
              next c8 =>
                simp (disch := first | exact hR _ _ | exact x01a | exact x01b | (unfold x_r; omega) | assumption | omega) only [wM_retype_116, wM_retype_117, wM_retype_120, wM_retype_121, x_gi_int, x_ga_ref, x_ga_null, List.getElem?_cons_zero, List.getElem?_cons_succ, List.length_cons, List.length_nil, List.set_cons_zero, List.set_cons_succ, Nat.reduceAdd, Nat.reduceLT, xr_lt, xr_eq, xr_toInt, xr_0, xi_add, xi_sub, xi_mul, xr_div, xr_rm, Int.toNat_natCast, bd_t, true_and, and_true, not_false_eq_true, ↓reduceIte, ilt_t, ilt_f, ile_t, x_c1i, x_c1r, x_c1n, and_self, Option.toList_some, Option.toList_none, List.cons_append, List.nil_append, xr_01, xr_00, ieq_f, ieq_t]
                exact hQ
              next c8 =>
                simp (disch := first | exact hR _ _ | exact x01a | exact x01b | (unfold x_r; omega) | assumption | omega) only [wM_retype_116, wM_retype_117, wM_retype_122, wM_retype_123, wM_retype_126, wM_retype_128, wM_retype_130, wM_retype_132, wM_retype_133, wM_retype_134, wM_retype_135, wM_retype_137, wM_retype_138, wM_retype_140, wM_retype_141, x_gi_int, x_ga_ref, x_ga_null, List.getElem?_cons_zero, List.getElem?_cons_succ, List.length_cons, List.length_nil, List.set_cons_zero, List.set_cons_succ, Nat.reduceAdd, Nat.reduceLT, xr_lt, xr_eq, xr_toInt, xr_0, xi_add, xi_sub, xi_mul, xr_div, xr_rm, Int.toNat_natCast, bd_t, true_and, and_true, not_false_eq_true, ↓reduceIte, ilt_t, ilt_f, ile_t, x_c1i, x_c1r, x_c1n, and_self, Option.toList_some, Option.toList_none, List.cons_append, List.nil_append, xr_01, xr_00, ieq_f, ieq_t, sset_at, Nat.reduceEqDiff, false_and, and_false, eq_self, and_self, reduceCtorEq]
                have hR1 : RgS (sset S 6 (s_having S u 0).toNat (A + sz)) := hR.set ⟨by omega, by omega⟩
                refine wM_retype_143 (by simp) rfl rfl (m_fill hR1 (by omega) (by omega) ?_)
                have hR2 : RgS (s_fill (sset S 6 (s_having S u 0).toNat (A + sz)) (s_vacant S dest) k A b (s_having S u 0)) := hR1.fill h2 ⟨by omega, by omega⟩ h3 ⟨by omega, by omega⟩
                simp (disch := first | exact hR _ _ | exact x01a | exact x01b | (unfold x_r; omega) | assumption | omega) only [wM_retype_146, wM_retype_147, wM_retype_148, x_gi_int, x_ga_ref, x_ga_null, List.getElem?_cons_zero, List.getElem?_cons_succ, List.length_cons, List.length_nil, List.set_cons_zero, List.set_cons_succ, Nat.reduceAdd, Nat.reduceLT, xr_lt, xr_eq, xr_toInt, xr_0, xi_add, xi_sub, xi_mul, xr_div, xr_rm, Int.toNat_natCast, bd_t, true_and, and_true, not_false_eq_true, ↓reduceIte, ilt_t, ilt_f, ile_t, x_c1i, x_c1r, x_c1n, and_self, Option.toList_some, Option.toList_none, List.cons_append, List.nil_append, xr_01, xr_00, ieq_f, ieq_t]
                refine wM_retype_150 (by simp) rfl rfl (m_begin hR2 h2 (by omega) (by omega) ?_)
                simp (disch := first | exact hR _ _ | exact x01a | exact x01b | (unfold x_r; omega) | assumption | omega) only [wM_retype_153, wM_retype_154, x_gi_int, x_ga_ref, x_ga_null, List.getElem?_cons_zero, List.getElem?_cons_succ, List.length_cons, List.length_nil, List.set_cons_zero, List.set_cons_succ, Nat.reduceAdd, Nat.reduceLT, xr_lt, xr_eq, xr_toInt, xr_0, xi_add, xi_sub, xi_mul, xr_div, xr_rm, Int.toNat_natCast, bd_t, true_and, and_true, not_false_eq_true, ↓reduceIte, ilt_t, ilt_f, ile_t, x_c1i, x_c1r, x_c1n, and_self, Option.toList_some, Option.toList_none, List.cons_append, List.nil_append, xr_01, xr_00, ieq_f, ieq_t]
                exact hQ
end RN
