theorem cntL_ex (p : Nat → Prop) [DecidablePred p] : ∀ n : Nat, 0 < cntL p n → ∃ k, k < n ∧ p k := by
  intro n
  induction n with
  | zero => intro h; unfold cntL at h; omega
  | succ n ih =>
    intro h
    by_cases c : p n
    · exact ⟨n, by omega, c⟩
    · unfold cntL at h
      rw [if_neg c] at h
      obtain ⟨k, hk, hp⟩ := ih (by omega)
      exact ⟨k, by omega, hp⟩
theorem s_there_1 {S : xS} (hW : WfS S) {u : Int} (h : s_there S 1 u) : u ≤ 112 := by
  obtain ⟨-, -, h⟩ := h
  unfold s_holders at h
  rw [if_neg (by omega)] at h
  obtain ⟨k, hk, hp, hq⟩ := cntL_ex _ _ h
  have := hW.2.2.2 k hk hp
  omega
section RT
variable {P : xP} {mi pc : Nat} {lo : List (Option Value)} {r : List Value} {w : xH} {Q : Option Value → xH → Prop}
theorem W_tsw {x : Int32} {df lw hi o : Int} {offs : Array Int} {tgt : Nat} (h : x_ct mi pc = some (.tableswitch df lw hi offs)) (hx : ¬ (x.toInt < lw ∨ hi < x.toInt)) (ho : offs[(x.toInt - lw).toNat]? = some o) (ht : (pc : Int) + o = (tgt : Int)) : WP P mi pc lo (.int x :: r) w Q ↔ WP P mi tgt lo r w Q := by
  refine WP_go h rfl rfl ?_
  show (if x.toInt < lw ∨ hi < x.toInt then (if 0 ≤ (pc : Int) + df then x_go ((pc : Int) + df).toNat lo r w else none) else (match offs[(x.toInt - lw).toNat]? with | some off => if 0 ≤ (pc : Int) + off then x_go ((pc : Int) + off).toNat lo r w else none | none => none)) = _
  rw [if_neg hx, ho]
  show (if 0 ≤ (pc : Int) + o then x_go ((pc : Int) + o).toNat lo r w else none) = _
  rw [ht, if_pos (Int.natCast_nonneg tgt), Int.toNat_natCast]; rfl
theorem W_tsd {x : Int32} {df lw hi : Int} {offs : Array Int} {tgt : Nat} (h : x_ct mi pc = some (.tableswitch df lw hi offs)) (hx : x.toInt < lw ∨ hi < x.toInt) (ht : (pc : Int) + df = (tgt : Int)) : WP P mi pc lo (.int x :: r) w Q ↔ WP P mi tgt lo r w Q := by
  refine WP_go h rfl rfl ?_
  show (if x.toInt < lw ∨ hi < x.toInt then (if 0 ≤ (pc : Int) + df then x_go ((pc : Int) + df).toNat lo r w else none) else _) = _
  rw [if_pos hx, ht, if_pos (Int.natCast_nonneg tgt), Int.toNat_natCast]; rfl
end RT
def s_thread (S : xS) (u what : Int) : Int := if s_there S 2 u then (if what < 0 then -1 else if 7 < what then -1 else if what = 0 then S 10 (u / 8).toNat else if what = 1 then S 13 (u / 8).toNat else if what = 2 then S 15 (u / 8).toNat else if what = 3 then S 16 (u / 8).toNat else if what = 4 then S 17 (u / 8).toNat else if what = 5 then S 14 (u / 8).toNat else if what = 6 then S 11 (u / 8).toNat else S 12 (u / 8).toNat) else -1
def s_slot (S : xS) (u i what : Int) : Int := if s_there S 1 u then (if i < 0 then -1 else if 15 < i then -1 else if S 0 (u + i).toNat < 0 then -1 else
  if what < 0 then -1 else if 7 < what then -1 else if what = 0 then S 0 (u + i).toNat else if what = 1 then S 1 (u + i).toNat else if what = 2 then S 2 (u + i).toNat else if what = 3 then S 3 (u + i).toNat else if what = 4 then s_children S (u + i) else
  if what = 5 then (if S 4 (u + i).toNat = -1 then -1 else 256 * (S 4 (u + i).toNat / 16) + S 4 (u + i).toNat % 16) else
  if what = 6 then (if S 0 (u + i).toNat = 0 then s_freePoint S (u + i) else s_mapped S (u + i)) else s_holders S (S 0 (u + i).toNat) (S 1 (u + i).toNat)) else -1
section RN2
variable {P : xP} {w : xH} {Q : Option Value → xH → Prop} {mo : Nat} {S : xS}
set_option maxHeartbeats 4000000 in
theorem m_thread {u what : Int} (hG : GS S) (h1 : x_r u) (h2 : x_r what) (hQ : Q (some (.int (xi (s_thread S u what)))) (putR w mo S)) : WP P 117 0 [some (.ref mo), some (.int (xi u)), some (.int (xi what)), none] [] (putR w mo S) Q := by
  have hW := hG.1
  have hR := hW.1
  have g1 := h1.1
  have g2 := h1.2
  have g3 := h2.1
  have g4 := h2.2
  have ew : (xi what).toInt = what := xr_toInt h2
  simp (disch := first | exact hR _ _ | exact x01a | exact x01b | (unfold x_r; omega) | assumption | omega) only [wM_thread_0, wM_thread_1, wM_thread_2, x_gi_int, x_ga_ref, x_ga_null, List.getElem?_cons_zero, List.getElem?_cons_succ, List.length_cons, List.length_nil, List.set_cons_zero, List.set_cons_succ, Nat.reduceAdd, Nat.reduceLT, xr_lt, xr_eq, xr_toInt, xr_0, xi_add, xi_sub, xi_mul, xr_div, xr_rm, Int.toNat_natCast, bd_t, true_and, and_true, not_false_eq_true, ↓reduceIte, ilt_t, ilt_f, ile_t, x_c1i, x_c1r, x_c1n, and_self, Option.toList_some, Option.toList_none, List.cons_append, List.nil_append, xr_01, xr_00, ieq_f, ieq_t]
  refine wM_thread_3 (by simp) rfl rfl (m_there hR ⟨by omega, by omega⟩ h1 ?_)
  unfold s_thread at hQ
  split at hQ
  next c1 =>
    have c2 := c1.1
    have c3 := c1.2.1
    rw [if_pos c1]
    simp (disch := first | exact hR _ _ | exact x01a | exact x01b | (unfold x_r; omega) | assumption | omega) only [wM_thread_6, wM_thread_9, wM_thread_10, wM_thread_11, wM_thread_12, wM_thread_14, wM_thread_15, wM_thread_16, x_gi_int, x_ga_ref, x_ga_null, List.getElem?_cons_zero, List.getElem?_cons_succ, List.length_cons, List.length_nil, List.set_cons_zero, List.set_cons_succ, Nat.reduceAdd, Nat.reduceLT, xr_lt, xr_eq, xr_toInt, xr_0, xi_add, xi_sub, xi_mul, xr_div, xr_rm, Int.toNat_natCast, bd_t, true_and, and_true, not_false_eq_true, ↓reduceIte, ilt_t, ilt_f, ile_t, x_c1i, x_c1r, x_c1n, and_self, Option.toList_some, Option.toList_none, List.cons_append, List.nil_append, xr_01, xr_00, ieq_f, ieq_t]
    by_cases d1 : what < 0 ∨ 7 < what
    · have hq : Q (some (.int (xi (-1)))) (putR w mo S) := by
        rcases d1 with d | d
        · rw [if_pos d] at hQ
          exact hQ
        · rw [if_neg (by omega), if_pos d] at hQ
          exact hQ
      rw [W_tsd (tgt := 120) rfl (by rw [ew]; exact d1) rfl]
      simp (disch := first | exact hR _ _ | exact x01a | exact x01b | (unfold x_r; omega) | assumption | omega) only [wM_thread_120, wM_thread_121, x_gi_int, x_ga_ref, x_ga_null, List.getElem?_cons_zero, List.getElem?_cons_succ, List.length_cons, List.length_nil, List.set_cons_zero, List.set_cons_succ, Nat.reduceAdd, Nat.reduceLT, xr_lt, xr_eq, xr_toInt, xr_0, xi_add, xi_sub, xi_mul, xr_div, xr_rm, Int.toNat_natCast, bd_t, true_and, and_true, not_false_eq_true, ↓reduceIte, ilt_t, ilt_f, ile_t, x_c1i, x_c1r, x_c1n, and_self, Option.toList_some, Option.toList_none, List.cons_append, List.nil_append, xr_01, xr_00, ieq_f, ieq_t]
      exact hq
    · rcases (by omega : what = 0 ∨ what = 1 ∨ what = 2 ∨ what = 3 ∨ what = 4 ∨ what = 5 ∨ what = 6 ∨ what = 7) with rfl | rfl | rfl | rfl | rfl | rfl | rfl | rfl
      · rw [W_tsw (o := 47) (tgt := 64) rfl (by decide) (by decide) rfl]
        simp (disch := first | exact hR _ _ | exact x01a | exact x01b | (unfold x_r; omega) | assumption | omega) only [wM_thread_64, wM_thread_65, wM_thread_68, wM_thread_69, wM_thread_70, x_gi_int, x_ga_ref, x_ga_null, List.getElem?_cons_zero, List.getElem?_cons_succ, List.length_cons, List.length_nil, List.set_cons_zero, List.set_cons_succ, Nat.reduceAdd, Nat.reduceLT, xr_lt, xr_eq, xr_toInt, xr_0, xi_add, xi_sub, xi_mul, xr_div, xr_rm, Int.toNat_natCast, bd_t, true_and, and_true, not_false_eq_true, ↓reduceIte, ilt_t, ilt_f, ile_t, x_c1i, x_c1r, x_c1n, and_self, Option.toList_some, Option.toList_none, List.cons_append, List.nil_append, xr_01, xr_00, ieq_f, ieq_t]
        exact hQ
      · rw [W_tsw (o := 54) (tgt := 71) rfl (by decide) (by decide) rfl]
        simp (disch := first | exact hR _ _ | exact x01a | exact x01b | (unfold x_r; omega) | assumption | omega) only [wM_thread_71, wM_thread_72, wM_thread_75, wM_thread_76, wM_thread_77, x_gi_int, x_ga_ref, x_ga_null, List.getElem?_cons_zero, List.getElem?_cons_succ, List.length_cons, List.length_nil, List.set_cons_zero, List.set_cons_succ, Nat.reduceAdd, Nat.reduceLT, xr_lt, xr_eq, xr_toInt, xr_0, xi_add, xi_sub, xi_mul, xr_div, xr_rm, Int.toNat_natCast, bd_t, true_and, and_true, not_false_eq_true, ↓reduceIte, ilt_t, ilt_f, ile_t, x_c1i, x_c1r, x_c1n, and_self, Option.toList_some, Option.toList_none, List.cons_append, List.nil_append, xr_01, xr_00, ieq_f, ieq_t]
        exact hQ
      · rw [W_tsw (o := 61) (tgt := 78) rfl (by decide) (by decide) rfl]
        simp (disch := first | exact hR _ _ | exact x01a | exact x01b | (unfold x_r; omega) | assumption | omega) only [wM_thread_78, wM_thread_79, wM_thread_82, wM_thread_83, wM_thread_84, x_gi_int, x_ga_ref, x_ga_null, List.getElem?_cons_zero, List.getElem?_cons_succ, List.length_cons, List.length_nil, List.set_cons_zero, List.set_cons_succ, Nat.reduceAdd, Nat.reduceLT, xr_lt, xr_eq, xr_toInt, xr_0, xi_add, xi_sub, xi_mul, xr_div, xr_rm, Int.toNat_natCast, bd_t, true_and, and_true, not_false_eq_true, ↓reduceIte, ilt_t, ilt_f, ile_t, x_c1i, x_c1r, x_c1n, and_self, Option.toList_some, Option.toList_none, List.cons_append, List.nil_append, xr_01, xr_00, ieq_f, ieq_t]
        exact hQ
      · rw [W_tsw (o := 68) (tgt := 85) rfl (by decide) (by decide) rfl]
        simp (disch := first | exact hR _ _ | exact x01a | exact x01b | (unfold x_r; omega) | assumption | omega) only [wM_thread_85, wM_thread_86, wM_thread_89, wM_thread_90, wM_thread_91, x_gi_int, x_ga_ref, x_ga_null, List.getElem?_cons_zero, List.getElem?_cons_succ, List.length_cons, List.length_nil, List.set_cons_zero, List.set_cons_succ, Nat.reduceAdd, Nat.reduceLT, xr_lt, xr_eq, xr_toInt, xr_0, xi_add, xi_sub, xi_mul, xr_div, xr_rm, Int.toNat_natCast, bd_t, true_and, and_true, not_false_eq_true, ↓reduceIte, ilt_t, ilt_f, ile_t, x_c1i, x_c1r, x_c1n, and_self, Option.toList_some, Option.toList_none, List.cons_append, List.nil_append, xr_01, xr_00, ieq_f, ieq_t]
        exact hQ
      · rw [W_tsw (o := 75) (tgt := 92) rfl (by decide) (by decide) rfl]
        simp (disch := first | exact hR _ _ | exact x01a | exact x01b | (unfold x_r; omega) | assumption | omega) only [wM_thread_92, wM_thread_93, wM_thread_96, wM_thread_97, wM_thread_98, x_gi_int, x_ga_ref, x_ga_null, List.getElem?_cons_zero, List.getElem?_cons_succ, List.length_cons, List.length_nil, List.set_cons_zero, List.set_cons_succ, Nat.reduceAdd, Nat.reduceLT, xr_lt, xr_eq, xr_toInt, xr_0, xi_add, xi_sub, xi_mul, xr_div, xr_rm, Int.toNat_natCast, bd_t, true_and, and_true, not_false_eq_true, ↓reduceIte, ilt_t, ilt_f, ile_t, x_c1i, x_c1r, x_c1n, and_self, Option.toList_some, Option.toList_none, List.cons_append, List.nil_append, xr_01, xr_00, ieq_f, ieq_t]
        exact hQ
      · rw [W_tsw (o := 82) (tgt := 99) rfl (by decide) (by decide) rfl]
        simp (disch := first | exact hR _ _ | exact x01a | exact x01b | (unfold x_r; omega) | assumption | omega) only [wM_thread_99, wM_thread_100, wM_thread_103, wM_thread_104, wM_thread_105, x_gi_int, x_ga_ref, x_ga_null, List.getElem?_cons_zero, List.getElem?_cons_succ, List.length_cons, List.length_nil, List.set_cons_zero, List.set_cons_succ, Nat.reduceAdd, Nat.reduceLT, xr_lt, xr_eq, xr_toInt, xr_0, xi_add, xi_sub, xi_mul, xr_div, xr_rm, Int.toNat_natCast, bd_t, true_and, and_true, not_false_eq_true, ↓reduceIte, ilt_t, ilt_f, ile_t, x_c1i, x_c1r, x_c1n, and_self, Option.toList_some, Option.toList_none, List.cons_append, List.nil_append, xr_01, xr_00, ieq_f, ieq_t]
        exact hQ
      · rw [W_tsw (o := 89) (tgt := 106) rfl (by decide) (by decide) rfl]
        simp (disch := first | exact hR _ _ | exact x01a | exact x01b | (unfold x_r; omega) | assumption | omega) only [wM_thread_106, wM_thread_107, wM_thread_110, wM_thread_111, wM_thread_112, x_gi_int, x_ga_ref, x_ga_null, List.getElem?_cons_zero, List.getElem?_cons_succ, List.length_cons, List.length_nil, List.set_cons_zero, List.set_cons_succ, Nat.reduceAdd, Nat.reduceLT, xr_lt, xr_eq, xr_toInt, xr_0, xi_add, xi_sub, xi_mul, xr_div, xr_rm, Int.toNat_natCast, bd_t, true_and, and_true, not_false_eq_true, ↓reduceIte, ilt_t, ilt_f, ile_t, x_c1i, x_c1r, x_c1n, and_self, Option.toList_some, Option.toList_none, List.cons_append, List.nil_append, xr_01, xr_00, ieq_f, ieq_t]
        exact hQ
      · rw [W_tsw (o := 96) (tgt := 113) rfl (by decide) (by decide) rfl]
        simp (disch := first | exact hR _ _ | exact x01a | exact x01b | (unfold x_r; omega) | assumption | omega) only [wM_thread_113, wM_thread_114, wM_thread_117, wM_thread_118, wM_thread_119, x_gi_int, x_ga_ref, x_ga_null, List.getElem?_cons_zero, List.getElem?_cons_succ, List.length_cons, List.length_nil, List.set_cons_zero, List.set_cons_succ, Nat.reduceAdd, Nat.reduceLT, xr_lt, xr_eq, xr_toInt, xr_0, xi_add, xi_sub, xi_mul, xr_div, xr_rm, Int.toNat_natCast, bd_t, true_and, and_true, not_false_eq_true, ↓reduceIte, ilt_t, ilt_f, ile_t, x_c1i, x_c1r, x_c1n, and_self, Option.toList_some, Option.toList_none, List.cons_append, List.nil_append, xr_01, xr_00, ieq_f, ieq_t]
        exact hQ
  next c1 =>
    rw [if_neg c1]
    simp (disch := first | exact hR _ _ | exact x01a | exact x01b | (unfold x_r; omega) | assumption | omega) only [wM_thread_6, wM_thread_9, wM_thread_10, x_gi_int, x_ga_ref, x_ga_null, List.getElem?_cons_zero, List.getElem?_cons_succ, List.length_cons, List.length_nil, List.set_cons_zero, List.set_cons_succ, Nat.reduceAdd, Nat.reduceLT, xr_lt, xr_eq, xr_toInt, xr_0, xi_add, xi_sub, xi_mul, xr_div, xr_rm, Int.toNat_natCast, bd_t, true_and, and_true, not_false_eq_true, ↓reduceIte, ilt_t, ilt_f, ile_t, x_c1i, x_c1r, x_c1n, and_self, Option.toList_some, Option.toList_none, List.cons_append, List.nil_append, xr_01, xr_00, ieq_f, ieq_t]
    exact hQ
theorem s_mapped_01 (S : xS) (s : Int) : s_mapped S s = 0 ∨ s_mapped S s = 1 := by
  unfold s_mapped
  (repeat' split) <;> omega
set_option maxHeartbeats 4000000 in
theorem m_slot {u i what : Int} (hG : GS S) (h1 : x_r u) (h2 : x_r i) (h3 : x_r what) (hQ : Q (some (.int (xi (s_slot S u i what)))) (putR w mo S)) : WP P 116 0 [some (.ref mo), some (.int (xi u)), some (.int (xi i)), some (.int (xi what)), none] [] (putR w mo S) Q := by
  have hW := hG.1
  have hR := hW.1
  have g1 := h1.1
  have g2 := h1.2
  have g3 := h2.1
  have g4 := h2.2
  have g5 := h3.1
  have g6 := h3.2
  have ew : (xi what).toInt = what := xr_toInt h3
  simp (disch := first | exact hR _ _ | exact x01a | exact x01b | (unfold x_r; omega) | assumption | omega) only [wM_slot_0, wM_slot_1, wM_slot_2, x_gi_int, x_ga_ref, x_ga_null, List.getElem?_cons_zero, List.getElem?_cons_succ, List.length_cons, List.length_nil, List.set_cons_zero, List.set_cons_succ, Nat.reduceAdd, Nat.reduceLT, xr_lt, xr_eq, xr_toInt, xr_0, xi_add, xi_sub, xi_mul, xr_div, xr_rm, Int.toNat_natCast, bd_t, true_and, and_true, not_false_eq_true, ↓reduceIte, ilt_t, ilt_f, ile_t, x_c1i, x_c1r, x_c1n, and_self, Option.toList_some, Option.toList_none, List.cons_append, List.nil_append, xr_01, xr_00, ieq_f, ieq_t]
  refine wM_slot_3 (by simp) rfl rfl (m_there hR ⟨by omega, by omega⟩ h1 ?_)
  unfold s_slot at hQ
  by_cases c1 : s_there S 1 u
  · rw [if_pos c1] at hQ ⊢
    have c2 := c1.1
    have c3 := s_there_1 hW c1
    by_cases d1 : i < 0
    · rw [if_pos d1] at hQ
      simp (disch := first | exact hR _ _ | exact x01a | exact x01b | (unfold x_r; omega) | assumption | omega) only [wM_slot_6, wM_slot_9, wM_slot_10, wM_slot_13, wM_slot_14, wM_slot_16, wM_slot_19, wM_slot_20, wM_slot_23, wM_slot_24, wM_slot_25, wM_slot_26, wM_slot_27, wM_slot_30, wM_slot_31, x_gi_int, x_ga_ref, x_ga_null, List.getElem?_cons_zero, List.getElem?_cons_succ, List.length_cons, List.length_nil, List.set_cons_zero, List.set_cons_succ, Nat.reduceAdd, Nat.reduceLT, xr_lt, xr_eq, xr_toInt, xr_0, xi_add, xi_sub, xi_mul, xr_div, xr_rm, Int.toNat_natCast, bd_t, true_and, and_true, not_false_eq_true, ↓reduceIte, ilt_t, ilt_f, ile_t, x_c1i, x_c1r, x_c1n, and_self, Option.toList_some, Option.toList_none, List.cons_append, List.nil_append, xr_01, xr_00, ieq_f, ieq_t]
      exact hQ
    rw [if_neg d1] at hQ
    by_cases d2 : 15 < i
    · rw [if_pos d2] at hQ
      simp (disch := first | exact hR _ _ | exact x01a | exact x01b | (unfold x_r; omega) | assumption | omega) only [wM_slot_6, wM_slot_9, wM_slot_10, wM_slot_13, wM_slot_14, wM_slot_16, wM_slot_19, wM_slot_20, wM_slot_23, wM_slot_24, wM_slot_25, wM_slot_26, wM_slot_27, wM_slot_30, wM_slot_31, x_gi_int, x_ga_ref, x_ga_null, List.getElem?_cons_zero, List.getElem?_cons_succ, List.length_cons, List.length_nil, List.set_cons_zero, List.set_cons_succ, Nat.reduceAdd, Nat.reduceLT, xr_lt, xr_eq, xr_toInt, xr_0, xi_add, xi_sub, xi_mul, xr_div, xr_rm, Int.toNat_natCast, bd_t, true_and, and_true, not_false_eq_true, ↓reduceIte, ilt_t, ilt_f, ile_t, x_c1i, x_c1r, x_c1n, and_self, Option.toList_some, Option.toList_none, List.cons_append, List.nil_append, xr_01, xr_00, ieq_f, ieq_t]
      exact hQ
    rw [if_neg d2] at hQ
    by_cases d3 : S 0 (u + i).toNat < 0
    · rw [if_pos d3] at hQ
      simp (disch := first | exact hR _ _ | exact x01a | exact x01b | (unfold x_r; omega) | assumption | omega) only [wM_slot_6, wM_slot_9, wM_slot_10, wM_slot_13, wM_slot_14, wM_slot_16, wM_slot_19, wM_slot_20, wM_slot_23, wM_slot_24, wM_slot_25, wM_slot_26, wM_slot_27, wM_slot_30, wM_slot_31, x_gi_int, x_ga_ref, x_ga_null, List.getElem?_cons_zero, List.getElem?_cons_succ, List.length_cons, List.length_nil, List.set_cons_zero, List.set_cons_succ, Nat.reduceAdd, Nat.reduceLT, xr_lt, xr_eq, xr_toInt, xr_0, xi_add, xi_sub, xi_mul, xr_div, xr_rm, Int.toNat_natCast, bd_t, true_and, and_true, not_false_eq_true, ↓reduceIte, ilt_t, ilt_f, ile_t, x_c1i, x_c1r, x_c1n, and_self, Option.toList_some, Option.toList_none, List.cons_append, List.nil_append, xr_01, xr_00, ieq_f, ieq_t]
      exact hQ
    rw [if_neg d3] at hQ
    simp (disch := first | exact hR _ _ | exact x01a | exact x01b | (unfold x_r; omega) | assumption | omega) only [wM_slot_6, wM_slot_9, wM_slot_10, wM_slot_13, wM_slot_14, wM_slot_16, wM_slot_19, wM_slot_20, wM_slot_23, wM_slot_24, wM_slot_25, wM_slot_26, wM_slot_27, wM_slot_32, wM_slot_33, wM_slot_34, wM_slot_35, wM_slot_37, x_gi_int, x_ga_ref, x_ga_null, List.getElem?_cons_zero, List.getElem?_cons_succ, List.length_cons, List.length_nil, List.set_cons_zero, List.set_cons_succ, Nat.reduceAdd, Nat.reduceLT, xr_lt, xr_eq, xr_toInt, xr_0, xi_add, xi_sub, xi_mul, xr_div, xr_rm, Int.toNat_natCast, bd_t, true_and, and_true, not_false_eq_true, ↓reduceIte, ilt_t, ilt_f, ile_t, x_c1i, x_c1r, x_c1n, and_self, Option.toList_some, Option.toList_none, List.cons_append, List.nil_append, xr_01, xr_00, ieq_f, ieq_t]
    have hu := hG.2.1.2.1 (u + i).toNat (by omega)
    have ht := hG.2.1.2.2.par (q := (u + i).toNat) (by omega)
    have hsi0 : 0 ≤ u + i := by omega
    have hsi1 : u + i < 128 := by omega
    generalize hz : u + i = z at *
    by_cases d4 : what < 0 ∨ 7 < what
    · have hq : Q (some (.int (xi (-1)))) (putR w mo S) := by
        rcases d4 with d | d
        · rw [if_pos d] at hQ
          exact hQ
        · rw [if_neg (by omega), if_pos d] at hQ
          exact hQ
      rw [W_tsd (tgt := 217) rfl (by rw [ew]; exact d4) rfl]
      simp (disch := first | exact hR _ _ | exact x01a | exact x01b | (unfold x_r; omega) | assumption | omega) only [wM_slot_217, wM_slot_218, x_gi_int, x_ga_ref, x_ga_null, List.getElem?_cons_zero, List.getElem?_cons_succ, List.length_cons, List.length_nil, List.set_cons_zero, List.set_cons_succ, Nat.reduceAdd, Nat.reduceLT, xr_lt, xr_eq, xr_toInt, xr_0, xi_add, xi_sub, xi_mul, xr_div, xr_rm, Int.toNat_natCast, bd_t, true_and, and_true, not_false_eq_true, ↓reduceIte, ilt_t, ilt_f, ile_t, x_c1i, x_c1r, x_c1n, and_self, Option.toList_some, Option.toList_none, List.cons_append, List.nil_append, xr_01, xr_00, ieq_f, ieq_t]
      exact hq
    · rcases (by omega : what = 0 ∨ what = 1 ∨ what = 2 ∨ what = 3 ∨ what = 4 ∨ what = 5 ∨ what = 6 ∨ what = 7) with rfl | rfl | rfl | rfl | rfl | rfl | rfl | rfl
      · rw [W_tsw (o := 46) (tgt := 84) rfl (by decide) (by decide) rfl]
        simp (disch := first | exact hR _ _ | exact x01a | exact x01b | (unfold x_r; omega) | assumption | omega) only [wM_slot_84, wM_slot_85, wM_slot_88, wM_slot_90, wM_slot_91, x_gi_int, x_ga_ref, x_ga_null, List.getElem?_cons_zero, List.getElem?_cons_succ, List.length_cons, List.length_nil, List.set_cons_zero, List.set_cons_succ, Nat.reduceAdd, Nat.reduceLT, xr_lt, xr_eq, xr_toInt, xr_0, xi_add, xi_sub, xi_mul, xr_div, xr_rm, Int.toNat_natCast, bd_t, true_and, and_true, not_false_eq_true, ↓reduceIte, ilt_t, ilt_f, ile_t, x_c1i, x_c1r, x_c1n, and_self, Option.toList_some, Option.toList_none, List.cons_append, List.nil_append, xr_01, xr_00, ieq_f, ieq_t]
        exact hQ
      · rw [W_tsw (o := 54) (tgt := 92) rfl (by decide) (by decide) rfl]
        simp (disch := first | exact hR _ _ | exact x01a | exact x01b | (unfold x_r; omega) | assumption | omega) only [wM_slot_92, wM_slot_93, wM_slot_96, wM_slot_98, wM_slot_99, x_gi_int, x_ga_ref, x_ga_null, List.getElem?_cons_zero, List.getElem?_cons_succ, List.length_cons, List.length_nil, List.set_cons_zero, List.set_cons_succ, Nat.reduceAdd, Nat.reduceLT, xr_lt, xr_eq, xr_toInt, xr_0, xi_add, xi_sub, xi_mul, xr_div, xr_rm, Int.toNat_natCast, bd_t, true_and, and_true, not_false_eq_true, ↓reduceIte, ilt_t, ilt_f, ile_t, x_c1i, x_c1r, x_c1n, and_self, Option.toList_some, Option.toList_none, List.cons_append, List.nil_append, xr_01, xr_00, ieq_f, ieq_t]
        exact hQ
      · rw [W_tsw (o := 62) (tgt := 100) rfl (by decide) (by decide) rfl]
        simp (disch := first | exact hR _ _ | exact x01a | exact x01b | (unfold x_r; omega) | assumption | omega) only [wM_slot_100, wM_slot_101, wM_slot_104, wM_slot_106, wM_slot_107, x_gi_int, x_ga_ref, x_ga_null, List.getElem?_cons_zero, List.getElem?_cons_succ, List.length_cons, List.length_nil, List.set_cons_zero, List.set_cons_succ, Nat.reduceAdd, Nat.reduceLT, xr_lt, xr_eq, xr_toInt, xr_0, xi_add, xi_sub, xi_mul, xr_div, xr_rm, Int.toNat_natCast, bd_t, true_and, and_true, not_false_eq_true, ↓reduceIte, ilt_t, ilt_f, ile_t, x_c1i, x_c1r, x_c1n, and_self, Option.toList_some, Option.toList_none, List.cons_append, List.nil_append, xr_01, xr_00, ieq_f, ieq_t]
        exact hQ
      · rw [W_tsw (o := 70) (tgt := 108) rfl (by decide) (by decide) rfl]
        simp (disch := first | exact hR _ _ | exact x01a | exact x01b | (unfold x_r; omega) | assumption | omega) only [wM_slot_108, wM_slot_109, wM_slot_112, wM_slot_114, wM_slot_115, x_gi_int, x_ga_ref, x_ga_null, List.getElem?_cons_zero, List.getElem?_cons_succ, List.length_cons, List.length_nil, List.set_cons_zero, List.set_cons_succ, Nat.reduceAdd, Nat.reduceLT, xr_lt, xr_eq, xr_toInt, xr_0, xi_add, xi_sub, xi_mul, xr_div, xr_rm, Int.toNat_natCast, bd_t, true_and, and_true, not_false_eq_true, ↓reduceIte, ilt_t, ilt_f, ile_t, x_c1i, x_c1r, x_c1n, and_self, Option.toList_some, Option.toList_none, List.cons_append, List.nil_append, xr_01, xr_00, ieq_f, ieq_t]
        exact hQ
      · rw [W_tsw (o := 78) (tgt := 116) rfl (by decide) (by decide) rfl]
        simp (disch := first | exact hR _ _ | exact x01a | exact x01b | (unfold x_r; omega) | assumption | omega) only [wM_slot_116, wM_slot_117, x_gi_int, x_ga_ref, x_ga_null, List.getElem?_cons_zero, List.getElem?_cons_succ, List.length_cons, List.length_nil, List.set_cons_zero, List.set_cons_succ, Nat.reduceAdd, Nat.reduceLT, xr_lt, xr_eq, xr_toInt, xr_0, xi_add, xi_sub, xi_mul, xr_div, xr_rm, Int.toNat_natCast, bd_t, true_and, and_true, not_false_eq_true, ↓reduceIte, ilt_t, ilt_f, ile_t, x_c1i, x_c1r, x_c1n, and_self, Option.toList_some, Option.toList_none, List.cons_append, List.nil_append, xr_01, xr_00, ieq_f, ieq_t]
        refine wM_slot_119 (by simp) rfl rfl (m_children hR ⟨by omega, by omega⟩ ?_)
        simp (disch := first | exact hR _ _ | exact x01a | exact x01b | (unfold x_r; omega) | assumption | omega) only [wM_slot_122, x_gi_int, x_ga_ref, x_ga_null, List.getElem?_cons_zero, List.getElem?_cons_succ, List.length_cons, List.length_nil, List.set_cons_zero, List.set_cons_succ, Nat.reduceAdd, Nat.reduceLT, xr_lt, xr_eq, xr_toInt, xr_0, xi_add, xi_sub, xi_mul, xr_div, xr_rm, Int.toNat_natCast, bd_t, true_and, and_true, not_false_eq_true, ↓reduceIte, ilt_t, ilt_f, ile_t, x_c1i, x_c1r, x_c1n, and_self, Option.toList_some, Option.toList_none, List.cons_append, List.nil_append, xr_01, xr_00, ieq_f, ieq_t]
        exact hQ
      · rw [W_tsw (o := 85) (tgt := 123) rfl (by decide) (by decide) rfl]
        have hq : Q (some (.int (xi (if S 4 z.toNat = -1 then -1 else 256 * (S 4 z.toNat / 16) + S 4 z.toNat % 16)))) (putR w mo S) := hQ
        by_cases e1 : S 4 z.toNat = -1
        · rw [if_pos e1] at hq
          simp (disch := first | exact hR _ _ | exact x01a | exact x01b | (unfold x_r; omega) | assumption | omega) only [wM_slot_123, wM_slot_124, wM_slot_127, wM_slot_129, wM_slot_130, wM_slot_131, wM_slot_134, wM_slot_135, wM_slot_138, wM_slot_141, wM_slot_142, wM_slot_145, wM_slot_147, wM_slot_148, wM_slot_150, wM_slot_151, wM_slot_152, wM_slot_153, wM_slot_156, wM_slot_158, wM_slot_159, wM_slot_161, wM_slot_162, wM_slot_163, x_gi_int, x_ga_ref, x_ga_null, List.getElem?_cons_zero, List.getElem?_cons_succ, List.length_cons, List.length_nil, List.set_cons_zero, List.set_cons_succ, Nat.reduceAdd, Nat.reduceLT, xr_lt, xr_eq, xr_toInt, xr_0, xi_add, xi_sub, xi_mul, xr_div, xr_rm, Int.toNat_natCast, bd_t, true_and, and_true, not_false_eq_true, ↓reduceIte, ilt_t, ilt_f, ile_t, x_c1i, x_c1r, x_c1n, and_self, Option.toList_some, Option.toList_none, List.cons_append, List.nil_append, xr_01, xr_00, ieq_f, ieq_t]
          exact hq
        · rw [if_neg e1] at hq
          simp (disch := first | exact hR _ _ | exact x01a | exact x01b | (unfold x_r; omega) | assumption | omega) only [wM_slot_123, wM_slot_124, wM_slot_127, wM_slot_129, wM_slot_130, wM_slot_131, wM_slot_134, wM_slot_135, wM_slot_138, wM_slot_141, wM_slot_142, wM_slot_145, wM_slot_147, wM_slot_148, wM_slot_150, wM_slot_151, wM_slot_152, wM_slot_153, wM_slot_156, wM_slot_158, wM_slot_159, wM_slot_161, wM_slot_162, wM_slot_163, x_gi_int, x_ga_ref, x_ga_null, List.getElem?_cons_zero, List.getElem?_cons_succ, List.length_cons, List.length_nil, List.set_cons_zero, List.set_cons_succ, Nat.reduceAdd, Nat.reduceLT, xr_lt, xr_eq, xr_toInt, xr_0, xi_add, xi_sub, xi_mul, xr_div, xr_rm, Int.toNat_natCast, bd_t, true_and, and_true, not_false_eq_true, ↓reduceIte, ilt_t, ilt_f, ile_t, x_c1i, x_c1r, x_c1n, and_self, Option.toList_some, Option.toList_none, List.cons_append, List.nil_append, xr_01, xr_00, ieq_f, ieq_t]
          exact hq
      · rw [W_tsw (o := 126) (tgt := 164) rfl (by decide) (by decide) rfl]
        have hq : Q (some (.int (xi (if S 0 z.toNat = 0 then s_freePoint S z else s_mapped S z)))) (putR w mo S) := hQ
        by_cases e1 : S 0 z.toNat = 0
        · rw [if_pos e1] at hq
          simp (disch := first | exact hR _ _ | exact x01a | exact x01b | (unfold x_r; omega) | assumption | omega) only [wM_slot_164, wM_slot_165, wM_slot_168, wM_slot_170, wM_slot_171, wM_slot_174, wM_slot_175, x_gi_int, x_ga_ref, x_ga_null, List.getElem?_cons_zero, List.getElem?_cons_succ, List.length_cons, List.length_nil, List.set_cons_zero, List.set_cons_succ, Nat.reduceAdd, Nat.reduceLT, xr_lt, xr_eq, xr_toInt, xr_0, xi_add, xi_sub, xi_mul, xr_div, xr_rm, Int.toNat_natCast, bd_t, true_and, and_true, not_false_eq_true, ↓reduceIte, ilt_t, ilt_f, ile_t, x_c1i, x_c1r, x_c1n, and_self, Option.toList_some, Option.toList_none, List.cons_append, List.nil_append, xr_01, xr_00, ieq_f, ieq_t]
          refine wM_slot_177 (by simp) rfl rfl (m_freePoint hR (by omega) (by omega) ?_)
          simp (disch := first | exact hR _ _ | exact x01a | exact x01b | (unfold x_r; omega) | assumption | omega) only [wM_slot_180, wM_slot_197, x_gi_int, x_ga_ref, x_ga_null, List.getElem?_cons_zero, List.getElem?_cons_succ, List.length_cons, List.length_nil, List.set_cons_zero, List.set_cons_succ, Nat.reduceAdd, Nat.reduceLT, xr_lt, xr_eq, xr_toInt, xr_0, xi_add, xi_sub, xi_mul, xr_div, xr_rm, Int.toNat_natCast, bd_t, true_and, and_true, not_false_eq_true, ↓reduceIte, ilt_t, ilt_f, ile_t, x_c1i, x_c1r, x_c1n, and_self, Option.toList_some, Option.toList_none, List.cons_append, List.nil_append, xr_01, xr_00, ieq_f, ieq_t]
          exact hq
        · rw [if_neg e1] at hq
          simp (disch := first | exact hR _ _ | exact x01a | exact x01b | (unfold x_r; omega) | assumption | omega) only [wM_slot_164, wM_slot_165, wM_slot_168, wM_slot_170, wM_slot_171, wM_slot_183, wM_slot_184, x_gi_int, x_ga_ref, x_ga_null, List.getElem?_cons_zero, List.getElem?_cons_succ, List.length_cons, List.length_nil, List.set_cons_zero, List.set_cons_succ, Nat.reduceAdd, Nat.reduceLT, xr_lt, xr_eq, xr_toInt, xr_0, xi_add, xi_sub, xi_mul, xr_div, xr_rm, Int.toNat_natCast, bd_t, true_and, and_true, not_false_eq_true, ↓reduceIte, ilt_t, ilt_f, ile_t, x_c1i, x_c1r, x_c1n, and_self, Option.toList_some, Option.toList_none, List.cons_append, List.nil_append, xr_01, xr_00, ieq_f, ieq_t]
          refine wM_slot_186 (by simp) rfl rfl (m_mapped hR (by omega) (by omega) (fun _ => hu) ?_)
          rcases s_mapped_01 S z with e2 | e2
          · rw [e2] at hq ⊢
            simp (disch := first | exact hR _ _ | exact x01a | exact x01b | (unfold x_r; omega) | assumption | omega) only [wM_slot_189, wM_slot_192, wM_slot_193, wM_slot_196, wM_slot_197, x_gi_int, x_ga_ref, x_ga_null, List.getElem?_cons_zero, List.getElem?_cons_succ, List.length_cons, List.length_nil, List.set_cons_zero, List.set_cons_succ, Nat.reduceAdd, Nat.reduceLT, xr_lt, xr_eq, xr_toInt, xr_0, xi_add, xi_sub, xi_mul, xr_div, xr_rm, Int.toNat_natCast, bd_t, true_and, and_true, not_false_eq_true, ↓reduceIte, ilt_t, ilt_f, ile_t, x_c1i, x_c1r, x_c1n, and_self, Option.toList_some, Option.toList_none, List.cons_append, List.nil_append, xr_01, xr_00, ieq_f, ieq_t]
            exact hq
          · rw [e2] at hq ⊢
            simp (disch := first | exact hR _ _ | exact x01a | exact x01b | (unfold x_r; omega) | assumption | omega) only [wM_slot_189, wM_slot_192, wM_slot_193, wM_slot_196, wM_slot_197, x_gi_int, x_ga_ref, x_ga_null, List.getElem?_cons_zero, List.getElem?_cons_succ, List.length_cons, List.length_nil, List.set_cons_zero, List.set_cons_succ, Nat.reduceAdd, Nat.reduceLT, xr_lt, xr_eq, xr_toInt, xr_0, xi_add, xi_sub, xi_mul, xr_div, xr_rm, Int.toNat_natCast, bd_t, true_and, and_true, not_false_eq_true, ↓reduceIte, ilt_t, ilt_f, ile_t, x_c1i, x_c1r, x_c1n, and_self, Option.toList_some, Option.toList_none, List.cons_append, List.nil_append, xr_01, xr_00, ieq_f, ieq_t]
            exact hq
      · rw [W_tsw (o := 160) (tgt := 198) rfl (by decide) (by decide) rfl]
        simp (disch := first | exact hR _ _ | exact x01a | exact x01b | (unfold x_r; omega) | assumption | omega) only [wM_slot_198, wM_slot_199, wM_slot_200, wM_slot_203, wM_slot_205, wM_slot_206, wM_slot_207, wM_slot_210, wM_slot_212, x_gi_int, x_ga_ref, x_ga_null, List.getElem?_cons_zero, List.getElem?_cons_succ, List.length_cons, List.length_nil, List.set_cons_zero, List.set_cons_succ, Nat.reduceAdd, Nat.reduceLT, xr_lt, xr_eq, xr_toInt, xr_0, xi_add, xi_sub, xi_mul, xr_div, xr_rm, Int.toNat_natCast, bd_t, true_and, and_true, not_false_eq_true, ↓reduceIte, ilt_t, ilt_f, ile_t, x_c1i, x_c1r, x_c1n, and_self, Option.toList_some, Option.toList_none, List.cons_append, List.nil_append, xr_01, xr_00, ieq_f, ieq_t]
        refine wM_slot_213 (by simp) rfl rfl (m_holders hR (hR _ _) (hR _ _) ?_)
        simp (disch := first | exact hR _ _ | exact x01a | exact x01b | (unfold x_r; omega) | assumption | omega) only [wM_slot_216, x_gi_int, x_ga_ref, x_ga_null, List.getElem?_cons_zero, List.getElem?_cons_succ, List.length_cons, List.length_nil, List.set_cons_zero, List.set_cons_succ, Nat.reduceAdd, Nat.reduceLT, xr_lt, xr_eq, xr_toInt, xr_0, xi_add, xi_sub, xi_mul, xr_div, xr_rm, Int.toNat_natCast, bd_t, true_and, and_true, not_false_eq_true, ↓reduceIte, ilt_t, ilt_f, ile_t, x_c1i, x_c1r, x_c1n, and_self, Option.toList_some, Option.toList_none, List.cons_append, List.nil_append, xr_01, xr_00, ieq_f, ieq_t]
        exact hQ
  · rw [if_neg c1] at hQ ⊢
    simp (disch := first | exact hR _ _ | exact x01a | exact x01b | (unfold x_r; omega) | assumption | omega) only [wM_slot_6, wM_slot_30, wM_slot_31, x_gi_int, x_ga_ref, x_ga_null, List.getElem?_cons_zero, List.getElem?_cons_succ, List.length_cons, List.length_nil, List.set_cons_zero, List.set_cons_succ, Nat.reduceAdd, Nat.reduceLT, xr_lt, xr_eq, xr_toInt, xr_0, xi_add, xi_sub, xi_mul, xr_div, xr_rm, Int.toNat_natCast, bd_t, true_and, and_true, not_false_eq_true, ↓reduceIte, ilt_t, ilt_f, ile_t, x_c1i, x_c1r, x_c1n, and_self, Option.toList_some, Option.toList_none, List.cons_append, List.nil_append, xr_01, xr_00, ieq_f, ieq_t]
    exact hQ
set_option maxHeartbeats 4000000 in
theorem m_up {S' : xS} {a s : Int} {q : Nat} (hT : TrS S') (hR : RgS S') (hs0 : 0 ≤ s) (hs1 : s < 128) : ∀ (d k : Nat) (up : Int), k + d = 128 → (up = -1 ∨ (0 ≤ up ∧ up < 128)) → (∀ b, WP P 94 91 [some (.ref mo), some (.int (xi a)), some (.int (xi s)), some (.int (xi q)), some (.int (xi (upL S' s d up))), b] [] (putR w mo S') Q) →
    WP P 94 56 [some (.ref mo), some (.int (xi a)), some (.int (xi s)), some (.int (xi q)), some (.int (xi up)), some (.int (xi k))] [] (putR w mo S') Q := by
  intro d
  induction d with
  | zero =>
    intro k up hk hu hQ
    obtain rfl : k = 128 := by omega
    simp (disch := first | exact hR _ _ | exact x01a | exact x01b | (unfold x_r; omega) | assumption | omega) only [wM_revoke_56, wM_revoke_58, wM_revoke_61, x_gi_int, x_ga_ref, x_ga_null, List.getElem?_cons_zero, List.getElem?_cons_succ, List.length_cons, List.length_nil, List.set_cons_zero, List.set_cons_succ, Nat.reduceAdd, Nat.reduceLT, xr_lt, xr_eq, xr_toInt, xr_0, xi_add, xi_sub, xi_mul, xr_div, xr_rm, Int.toNat_natCast, bd_t, true_and, and_true, not_false_eq_true, ↓reduceIte, ilt_t, ilt_f, ile_t, x_c1i, x_c1r, x_c1n, and_self, Option.toList_some, Option.toList_none, List.cons_append, List.nil_append, xr_01, xr_00, ieq_f, ieq_t]
    exact hQ _
  | succ d ih =>
    intro k up hk hu hQ
    unfold upL at hQ
    rw [wM_revoke_56]
    by_cases c1 : up = -1
    · rw [if_pos c1] at hQ
      simp (disch := first | exact hR _ _ | exact x01a | exact x01b | (unfold x_r; omega) | assumption | omega) only [wM_revoke_58, wM_revoke_61, wM_revoke_64, wM_revoke_66, wM_revoke_67, x_gi_int, x_ga_ref, x_ga_null, List.getElem?_cons_zero, List.getElem?_cons_succ, List.length_cons, List.length_nil, List.set_cons_zero, List.set_cons_succ, Nat.reduceAdd, Nat.reduceLT, xr_lt, xr_eq, xr_toInt, xr_0, xi_add, xi_sub, xi_mul, xr_div, xr_rm, Int.toNat_natCast, bd_t, true_and, and_true, not_false_eq_true, ↓reduceIte, ilt_t, ilt_f, ile_t, x_c1i, x_c1r, x_c1n, and_self, Option.toList_some, Option.toList_none, List.cons_append, List.nil_append, xr_01, xr_00, ieq_f, ieq_t]
      exact hQ _
    rw [if_neg c1] at hQ
    by_cases c2 : up = s
    · rw [if_pos c2] at hQ
      simp (disch := first | exact hR _ _ | exact x01a | exact x01b | (unfold x_r; omega) | assumption | omega) only [wM_revoke_58, wM_revoke_61, wM_revoke_64, wM_revoke_66, wM_revoke_67, wM_revoke_70, wM_revoke_72, wM_revoke_73, x_gi_int, x_ga_ref, x_ga_null, List.getElem?_cons_zero, List.getElem?_cons_succ, List.length_cons, List.length_nil, List.set_cons_zero, List.set_cons_succ, Nat.reduceAdd, Nat.reduceLT, xr_lt, xr_eq, xr_toInt, xr_0, xi_add, xi_sub, xi_mul, xr_div, xr_rm, Int.toNat_natCast, bd_t, true_and, and_true, not_false_eq_true, ↓reduceIte, ilt_t, ilt_f, ile_t, x_c1i, x_c1r, x_c1n, and_self, Option.toList_some, Option.toList_none, List.cons_append, List.nil_append, xr_01, xr_00, ieq_f, ieq_t]
      exact hQ _
    rw [if_neg c2] at hQ
    have i1 := ih (k + 1) (S' 4 up.toNat) (by omega) (hT.par (by omega)) hQ
    simp (disch := first | exact hR _ _ | exact x01a | exact x01b | (unfold x_r; omega) | assumption | omega) only [wM_revoke_58, wM_revoke_61, wM_revoke_64, wM_revoke_66, wM_revoke_67, wM_revoke_70, wM_revoke_72, wM_revoke_73, wM_revoke_76, wM_revoke_77, wM_revoke_80, wM_revoke_82, wM_revoke_83, wM_revoke_85, wM_revoke_88, x_gi_int, x_ga_ref, x_ga_null, List.getElem?_cons_zero, List.getElem?_cons_succ, List.length_cons, List.length_nil, List.set_cons_zero, List.set_cons_succ, Nat.reduceAdd, Nat.reduceLT, xr_lt, xr_eq, xr_toInt, xr_0, xi_add, xi_sub, xi_mul, xr_div, xr_rm, Int.toNat_natCast, bd_t, true_and, and_true, not_false_eq_true, ↓reduceIte, ilt_t, ilt_f, ile_t, x_c1i, x_c1r, x_c1n, and_self, Option.toList_some, Option.toList_none, List.cons_append, List.nil_append, xr_01, xr_00, ieq_f, ieq_t]
    exact i1
theorem upL_map (S : xS) (s : Int) (k : Nat) (f : Nat → Int) : ∀ (n : Nat) (up : Int), upL (mapA S 9 k f) s n up = upL S s n up := by
  intro n
  induction n with
  | zero => intro up; rfl
  | succ n ih =>
    intro up
    unfold upL
    rw [ih, show mapA S 9 k f 4 up.toNat = S 4 up.toNat by rw [mapA_at, if_neg (by omega)]]
theorem rv_doo_in (S : xS) (s : Int) (q : Nat) : rv_doo S s q = 0 ∨ rv_doo S s q = 1 := by
  unfold rv_doo
  split <;> omega
set_option maxHeartbeats 4000000 in
theorem m_revO {a s : Int} (hI : IW S) (hs0 : 0 ≤ s) (hs1 : s < 128) (hQ : ∀ l4 l5, WP P 94 114 [some (.ref mo), some (.int (xi a)), some (.int (xi s)), some (.int (xi 128)), l4, l5] [] (putR w mo (mapA S 9 128 (rv_doo S s))) Q) : ∀ (d q : Nat) (l4 l5 : Option Value), q + d = 128 →
    WP P 94 25 [some (.ref mo), some (.int (xi a)), some (.int (xi s)), some (.int (xi q)), l4, l5] [] (putR w mo (mapA S 9 q (rv_doo S s))) Q := by
  intro d
  induction d with
  | zero =>
    intro q l4 l5 hq
    obtain rfl : q = 128 := by omega
    simp (disch := first | exact hR _ _ | exact x01a | exact x01b | (unfold x_r; omega) | assumption | omega) only [wM_revoke_25, wM_revoke_26, wM_revoke_29, x_gi_int, x_ga_ref, x_ga_null, List.getElem?_cons_zero, List.getElem?_cons_succ, List.length_cons, List.length_nil, List.set_cons_zero, List.set_cons_succ, Nat.reduceAdd, Nat.reduceLT, xr_lt, xr_eq, xr_toInt, xr_0, xi_add, xi_sub, xi_mul, xr_div, xr_rm, Int.toNat_natCast, bd_t, true_and, and_true, not_false_eq_true, ↓reduceIte, ilt_t, ilt_f, ile_t, x_c1i, x_c1r, x_c1n, and_self, Option.toList_some, Option.toList_none, List.cons_append, List.nil_append, xr_01, xr_00, ieq_f, ieq_t]
    exact hQ _ _
  | succ d ih =>
    intro q l4 l5 hq
    have hI1 : IW (mapA S 9 q (rv_doo S s)) := hI.map9 fun i _ => by
      rcases rv_doo_in S s i with e | e <;> rw [e] <;> exact ⟨by omega, by omega⟩
    have hR := hI1.1
    have e0 : mapA S 9 q (rv_doo S s) 0 q = S 0 q := by rw [mapA_at, if_neg (by omega)]
    have e4 : mapA S 9 q (rv_doo S s) 4 q = S 4 q := by rw [mapA_at, if_neg (by omega)]
    have hp := hI.2.2.par (q := q) (by omega)
    have x0 : x_r (S 0 q) := hI.1 _ _
    have x4 : x_r (S 4 q) := hI.1 _ _
    rw [wM_revoke_25]
    have kk : ∀ up : Int, up = (if S 0 q < 0 then -1 else S 4 q) → WP P 94 56 [some (.ref mo), some (.int (xi a)), some (.int (xi s)), some (.int (xi q)), some (.int (xi up)), some (.int (xi 0))] [] (putR w mo (mapA S 9 q (rv_doo S s))) Q := by
      intro up hup
      have hup2 : up = -1 ∨ (0 ≤ up ∧ up < 128) := by
        rw [hup]; split
        · exact Or.inl rfl
        · exact hp
      have hu3 := upL_in hI1.2.2 s 128 up hup2
      refine m_up hI1.2.2 hR hs0 hs1 128 0 up rfl hup2 (fun b => ?_)
      have i1 := fun l4 l5 => ih (q + 1) l4 l5 (by omega)
      by_cases c : upL (mapA S 9 q (rv_doo S s)) s 128 up = s
      · have ee : (1 : Int) = rv_doo S s q := by
          unfold rv_doo
          rw [upL_map, hup] at c
          rw [if_pos c]
        rw [c]
        simp (disch := first | exact hR _ _ | exact x01a | exact x01b | (unfold x_r; omega) | assumption | omega) only [wM_revoke_91, wM_revoke_92, wM_revoke_95, wM_revoke_96, wM_revoke_98, wM_revoke_99, wM_revoke_102, wM_revoke_103, wM_revoke_106, wM_revoke_107, wM_revoke_108, wM_revoke_111, x_gi_int, x_ga_ref, x_ga_null, List.getElem?_cons_zero, List.getElem?_cons_succ, List.length_cons, List.length_nil, List.set_cons_zero, List.set_cons_succ, Nat.reduceAdd, Nat.reduceLT, xr_lt, xr_eq, xr_toInt, xr_0, xi_add, xi_sub, xi_mul, xr_div, xr_rm, Int.toNat_natCast, bd_t, true_and, and_true, not_false_eq_true, ↓reduceIte, ilt_t, ilt_f, ile_t, x_c1i, x_c1r, x_c1n, and_self, Option.toList_some, Option.toList_none, List.cons_append, List.nil_append, xr_01, xr_00, ieq_f, ieq_t, true_or, or_true]
        rw [mapA_s ee]
        exact i1 _ _
      · have ee : (0 : Int) = rv_doo S s q := by
          unfold rv_doo
          rw [upL_map, hup] at c
          rw [if_neg c]
        simp (disch := first | exact hR _ _ | exact x01a | exact x01b | (unfold x_r; omega) | assumption | omega) only [wM_revoke_91, wM_revoke_92, wM_revoke_95, wM_revoke_96, wM_revoke_98, wM_revoke_99, wM_revoke_102, wM_revoke_103, wM_revoke_106, wM_revoke_107, wM_revoke_108, wM_revoke_111, x_gi_int, x_ga_ref, x_ga_null, List.getElem?_cons_zero, List.getElem?_cons_succ, List.length_cons, List.length_nil, List.set_cons_zero, List.set_cons_succ, Nat.reduceAdd, Nat.reduceLT, xr_lt, xr_eq, xr_toInt, xr_0, xi_add, xi_sub, xi_mul, xr_div, xr_rm, Int.toNat_natCast, bd_t, true_and, and_true, not_false_eq_true, ↓reduceIte, ilt_t, ilt_f, ile_t, x_c1i, x_c1r, x_c1n, and_self, Option.toList_some, Option.toList_none, List.cons_append, List.nil_append, xr_01, xr_00, ieq_f, ieq_t, true_or, or_true]
        rw [mapA_s ee]
        exact i1 _ _
    by_cases c : S 0 q < 0
    · have k1 := kk (-1) (by rw [if_pos c])
      simp (disch := first | exact hR _ _ | exact x01a | exact x01b | (unfold x_r; omega) | assumption | omega) only [wM_revoke_26, wM_revoke_29, wM_revoke_32, wM_revoke_33, wM_revoke_36, wM_revoke_37, wM_revoke_38, wM_revoke_41, wM_revoke_42, wM_revoke_45, wM_revoke_46, wM_revoke_49, wM_revoke_50, wM_revoke_51, wM_revoke_53, wM_revoke_54, x_gi_int, x_ga_ref, x_ga_null, List.getElem?_cons_zero, List.getElem?_cons_succ, List.length_cons, List.length_nil, List.set_cons_zero, List.set_cons_succ, Nat.reduceAdd, Nat.reduceLT, xr_lt, xr_eq, xr_toInt, xr_0, xi_add, xi_sub, xi_mul, xr_div, xr_rm, Int.toNat_natCast, bd_t, true_and, and_true, not_false_eq_true, ↓reduceIte, ilt_t, ilt_f, ile_t, x_c1i, x_c1r, x_c1n, and_self, Option.toList_some, Option.toList_none, List.cons_append, List.nil_append, xr_01, xr_00, ieq_f, ieq_t, e0, e4]
      exact k1
    · have k1 := kk (S 4 q) (by rw [if_neg c])
      simp (disch := first | exact hR _ _ | exact x01a | exact x01b | (unfold x_r; omega) | assumption | omega) only [wM_revoke_26, wM_revoke_29, wM_revoke_32, wM_revoke_33, wM_revoke_36, wM_revoke_37, wM_revoke_38, wM_revoke_41, wM_revoke_42, wM_revoke_45, wM_revoke_46, wM_revoke_49, wM_revoke_50, wM_revoke_51, wM_revoke_53, wM_revoke_54, x_gi_int, x_ga_ref, x_ga_null, List.getElem?_cons_zero, List.getElem?_cons_succ, List.length_cons, List.length_nil, List.set_cons_zero, List.set_cons_succ, Nat.reduceAdd, Nat.reduceLT, xr_lt, xr_eq, xr_toInt, xr_0, xi_add, xi_sub, xi_mul, xr_div, xr_rm, Int.toNat_natCast, bd_t, true_and, and_true, not_false_eq_true, ↓reduceIte, ilt_t, ilt_f, ile_t, x_c1i, x_c1r, x_c1n, and_self, Option.toList_some, Option.toList_none, List.cons_append, List.nil_append, xr_01, xr_00, ieq_f, ieq_t, e0, e4]
      exact k1
set_option maxHeartbeats 4000000 in
theorem m_revoke {a : Int} (hG : GS S) (ha : x_r a) (hQ : Q (some (.int (xi (s_revoke S a).1))) (putR w mo (s_revoke S a).2)) : WP P 94 0 [some (.ref mo), some (.int (xi a)), none, none, none, none] [] (putR w mo S) Q := by
  have hW := hG.1
  have hR := hW.1
  have hn := s_now_in S
  simp (disch := first | exact hR _ _ | exact x01a | exact x01b | (unfold x_r; omega) | assumption | omega) only [wM_revoke_0, x_gi_int, x_ga_ref, x_ga_null, List.getElem?_cons_zero, List.getElem?_cons_succ, List.length_cons, List.length_nil, List.set_cons_zero, List.set_cons_succ, Nat.reduceAdd, Nat.reduceLT, xr_lt, xr_eq, xr_toInt, xr_0, xi_add, xi_sub, xi_mul, xr_div, xr_rm, Int.toNat_natCast, bd_t, true_and, and_true, not_false_eq_true, ↓reduceIte, ilt_t, ilt_f, ile_t, x_c1i, x_c1r, x_c1n, and_self, Option.toList_some, Option.toList_none, List.cons_append, List.nil_append, xr_01, xr_00, ieq_f, ieq_t]
  refine wM_revoke_1 (by simp) rfl rfl (m_now hR ?_)
  unfold s_revoke at hQ
  split at hQ
  next c1 =>
    simp (disch := first | exact hR _ _ | exact x01a | exact x01b | (unfold x_r; omega) | assumption | omega) only [wM_revoke_4, wM_revoke_7, wM_revoke_9, x_gi_int, x_ga_ref, x_ga_null, List.getElem?_cons_zero, List.getElem?_cons_succ, List.length_cons, List.length_nil, List.set_cons_zero, List.set_cons_succ, Nat.reduceAdd, Nat.reduceLT, xr_lt, xr_eq, xr_toInt, xr_0, xi_add, xi_sub, xi_mul, xr_div, xr_rm, Int.toNat_natCast, bd_t, true_and, and_true, not_false_eq_true, ↓reduceIte, ilt_t, ilt_f, ile_t, x_c1i, x_c1r, x_c1n, and_self, Option.toList_some, Option.toList_none, List.cons_append, List.nil_append, xr_01, xr_00, ieq_f, ieq_t]
    exact hQ
  next c1 =>
    have hh := s_having_in hW (by omega) a (-1)
    simp (disch := first | exact hR _ _ | exact x01a | exact x01b | (unfold x_r; omega) | assumption | omega) only [wM_revoke_4, wM_revoke_7, wM_revoke_9, wM_revoke_10, wM_revoke_11, wM_revoke_12, x_gi_int, x_ga_ref, x_ga_null, List.getElem?_cons_zero, List.getElem?_cons_succ, List.length_cons, List.length_nil, List.set_cons_zero, List.set_cons_succ, Nat.reduceAdd, Nat.reduceLT, xr_lt, xr_eq, xr_toInt, xr_0, xi_add, xi_sub, xi_mul, xr_div, xr_rm, Int.toNat_natCast, bd_t, true_and, and_true, not_false_eq_true, ↓reduceIte, ilt_t, ilt_f, ile_t, x_c1i, x_c1r, x_c1n, and_self, Option.toList_some, Option.toList_none, List.cons_append, List.nil_append, xr_01, xr_00, ieq_f, ieq_t]
    refine wM_revoke_13 (by simp) rfl rfl (m_having hW (by omega) ha ⟨by omega, by omega⟩ ?_)
    split at hQ
    next c2 =>
      simp (disch := first | exact hR _ _ | exact x01a | exact x01b | (unfold x_r; omega) | assumption | omega) only [wM_revoke_16, wM_revoke_17, wM_revoke_18, wM_revoke_21, wM_revoke_22, x_gi_int, x_ga_ref, x_ga_null, List.getElem?_cons_zero, List.getElem?_cons_succ, List.length_cons, List.length_nil, List.set_cons_zero, List.set_cons_succ, Nat.reduceAdd, Nat.reduceLT, xr_lt, xr_eq, xr_toInt, xr_0, xi_add, xi_sub, xi_mul, xr_div, xr_rm, Int.toNat_natCast, bd_t, true_and, and_true, not_false_eq_true, ↓reduceIte, ilt_t, ilt_f, ile_t, x_c1i, x_c1r, x_c1n, and_self, Option.toList_some, Option.toList_none, List.cons_append, List.nil_append, xr_01, xr_00, ieq_f, ieq_t]
      exact hQ
    next c2 =>
      simp (disch := first | exact hR _ _ | exact x01a | exact x01b | (unfold x_r; omega) | assumption | omega) only [wM_revoke_16, wM_revoke_17, wM_revoke_18, wM_revoke_21, wM_revoke_22, wM_revoke_23, wM_revoke_24, x_gi_int, x_ga_ref, x_ga_null, List.getElem?_cons_zero, List.getElem?_cons_succ, List.length_cons, List.length_nil, List.set_cons_zero, List.set_cons_succ, Nat.reduceAdd, Nat.reduceLT, xr_lt, xr_eq, xr_toInt, xr_0, xi_add, xi_sub, xi_mul, xr_div, xr_rm, Int.toNat_natCast, bd_t, true_and, and_true, not_false_eq_true, ↓reduceIte, ilt_t, ilt_f, ile_t, x_c1i, x_c1r, x_c1n, and_self, Option.toList_some, Option.toList_none, List.cons_append, List.nil_append, xr_01, xr_00, ieq_f, ieq_t]
      have i1 := m_revO (P := P) (w := w) (Q := Q) (mo := mo) (a := a) (s := s_having S a (-1)) hG.2.1 (by omega) (by omega) (fun l4 l5 => ?_) 128 0 none none rfl
      · rw [show mapA S 9 0 (rv_doo S (s_having S a (-1))) = S from mapA_0 _ _ _] at i1
        exact i1
      · have hI1 : IW (mapA S 9 128 (rv_doo S (s_having S a (-1)))) := hG.2.1.map9 fun i _ => by
          rcases rv_doo_in S (s_having S a (-1)) i with e | e <;> rw [e] <;> exact ⟨by omega, by omega⟩
        simp (disch := first | exact hR _ _ | exact x01a | exact x01b | (unfold x_r; omega) | assumption | omega) only [wM_revoke_114, x_gi_int, x_ga_ref, x_ga_null, List.getElem?_cons_zero, List.getElem?_cons_succ, List.length_cons, List.length_nil, List.set_cons_zero, List.set_cons_succ, Nat.reduceAdd, Nat.reduceLT, xr_lt, xr_eq, xr_toInt, xr_0, xi_add, xi_sub, xi_mul, xr_div, xr_rm, Int.toNat_natCast, bd_t, true_and, and_true, not_false_eq_true, ↓reduceIte, ilt_t, ilt_f, ile_t, x_c1i, x_c1r, x_c1n, and_self, Option.toList_some, Option.toList_none, List.cons_append, List.nil_append, xr_01, xr_00, ieq_f, ieq_t]
        refine wM_revoke_115 (by simp) rfl rfl (m_sweep hI1 ?_)
        simp (disch := first | exact hR _ _ | exact x01a | exact x01b | (unfold x_r; omega) | assumption | omega) only [wM_revoke_118, wM_revoke_119, x_gi_int, x_ga_ref, x_ga_null, List.getElem?_cons_zero, List.getElem?_cons_succ, List.length_cons, List.length_nil, List.set_cons_zero, List.set_cons_succ, Nat.reduceAdd, Nat.reduceLT, xr_lt, xr_eq, xr_toInt, xr_0, xi_add, xi_sub, xi_mul, xr_div, xr_rm, Int.toNat_natCast, bd_t, true_and, and_true, not_false_eq_true, ↓reduceIte, ilt_t, ilt_f, ile_t, x_c1i, x_c1r, x_c1n, and_self, Option.toList_some, Option.toList_none, List.cons_append, List.nil_append, xr_01, xr_00, ieq_f, ieq_t]
        exact hQ
end RN2
