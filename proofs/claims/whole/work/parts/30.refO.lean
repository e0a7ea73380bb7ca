/-! the reference is made -/
def bL : Nat → Nat
  | 0 => 0
  | j + 1 => bL j + rlen j
def bR (w : xH) (j : Nat) : xH := (w.1 + 1 + j, w.2.1 + 29 + bL j,
  fun a => if a = w.1 then some (x_M, 29) else if w.1 < a ∧ a < w.1 + 1 + j then some (rtag (a - w.1 - 1), rlen (a - w.1 - 1)) else w.2.2.1 a,
  fun a k => if a = w.1 then (if k < j then .ref (ra w.1 k) else x_df 11 k) else if w.1 < a ∧ a < w.1 + 1 + j then .int 0 else w.2.2.2 a k)
def wR (w : xH) : xH := (w.1 + 29, w.2.1 + 1665, w.2.2.1, w.2.2.2)
def s_zero : xS := fun _ _ => 0
theorem bR_0 (w : xH) : x_new w 11 29 (x_df 11) = bR w 0 := by
  unfold x_new bR
  refine Prod.ext rfl (Prod.ext rfl (Prod.ext ?_ ?_))
  · funext a
    dsimp only
    by_cases h : a = w.1
    · rw [if_pos h, if_pos h]
    · rw [if_neg h, if_neg h, if_neg (by omega)]
  · funext a k
    dsimp only
    by_cases h : a = w.1
    · rw [if_pos h, if_pos h, if_neg (by omega)]
    · rw [if_neg h, if_neg h, if_neg (by omega)]
theorem bR_s {w : xH} {j t n : Nat} (ht : rtag j = t) (hn : rlen j = n) : x_put (x_new (bR w j) t n (fun _ => .int 0)) (x_sz w) j (.ref (x_sz (bR w j))) = bR w (j + 1) := by
  subst ht hn
  unfold x_new x_put bR x_sz ra
  refine Prod.ext rfl (Prod.ext ?_ (Prod.ext ?_ ?_))
  · show w.2.1 + 29 + bL j + rlen j = w.2.1 + 29 + (bL j + rlen j)
    omega
  · funext a
    dsimp only
    by_cases h : a = w.1
    · rw [if_neg (by omega), if_pos h, if_pos h]
    · by_cases h2 : a = w.1 + 1 + j
      · rw [if_pos h2, if_neg h, if_pos (by omega), show a - w.1 - 1 = j by omega]
      · rw [if_neg h2, if_neg h, if_neg h]
        by_cases h3 : w.1 < a ∧ a < w.1 + 1 + j
        · rw [if_pos h3, if_pos (by omega)]
        · rw [if_neg h3, if_neg (by omega)]
  · funext a k
    dsimp only
    by_cases h : a = w.1
    · by_cases hk : k = j
      · rw [if_pos ⟨h, hk⟩, if_pos h, if_pos (by omega), hk]
      · rw [if_neg (by omega), if_neg (by omega), if_pos h, if_pos h]
        by_cases h3 : k < j
        · rw [if_pos h3, if_pos (by omega)]
        · rw [if_neg h3, if_neg (by omega)]
    · rw [if_neg (by omega), if_neg h]
      by_cases h2 : a = w.1 + 1 + j
      · rw [if_pos h2, if_neg h, if_pos (by omega)]
      · rw [if_neg h2, if_neg h]
        by_cases h3 : w.1 < a ∧ a < w.1 + 1 + j
        · rw [if_pos h3, if_pos (by omega)]
        · rw [if_neg h3, if_neg (by omega)]
theorem bR_has {w : xH} {j t n : Nat} {F : Nat → Value} : x_has (x_new (bR w j) t n F) (x_sz w) [11] ↔ True := by
  refine ⟨fun _ => trivial, fun _ => ⟨11, 29, ?_, by decide⟩⟩
  unfold x_tg x_new bR x_sz
  dsimp only
  rw [if_neg (by omega), if_pos rfl]
theorem x_df_28 : x_df 11 28 = .int 0 := by decide
theorem x_df_29 {k : Nat} (h : 28 < k) : x_df 11 k = .null := by
  unfold x_df
  rw [List.getD_eq_getElem?_getD, List.getElem?_eq_none]
  · rfl
  · show 29 ≤ k
    omega
theorem bR_28 (w : xH) : bR w 28 = putR (wR w) (x_sz w) s_zero := by
  unfold bR putR wR x_sz
  refine Prod.ext rfl (Prod.ext rfl (Prod.ext ?_ ?_))
  · funext a
    dsimp only
  · funext a k
    dsimp only
    by_cases h : a = w.1
    · rw [if_pos h, if_pos h]
      by_cases h2 : k < 28
      · rw [if_pos h2, if_pos h2]
      · rw [if_neg h2, if_neg h2]
        by_cases h4 : k = 28
        · rw [if_pos h4, h4]; exact x_df_28
        · rw [if_neg h4]; exact x_df_29 (by omega)
    · rw [if_neg h, if_neg h]
      by_cases h3 : w.1 < a ∧ a < w.1 + 1 + 28
      · rw [if_pos h3, if_pos (by omega)]; rfl
      · rw [if_neg h3, if_neg (by omega)]
def s_i0 : xS := mapA (mapA s_zero 0 128 (fun _ => -1)) 27 4 (fun _ => -1)
def s_i1 : xS := s_fill (s_fill (s_fill (s_fill s_i0 0 1 0 0 (-1)) 1 2 16 0 (-1)) 2 0 32 5 (-1)) 3 0 64 6 (-1)
def s_init : xS := s_ready (sset (sset (s_begin s_i1 2 16) 11 2 0) 13 2 3) 2
theorem RgS.begin {S : xS} (h : RgS S) (k u : Int) : RgS (s_begin S k u) := by
  unfold s_begin
  have x1 : x_r 1 := ⟨by omega, by omega⟩
  split
  · exact (((((((h.set x1).set x_r_m1).set x_r_m1).set x_r_0).set x_r_0).set x_r_0).set x_r_0).set x_r_0
  · split
    · exact h.set x_r_0
    · split
      · exact h.set x_r_m1
      · exact h
theorem RgS.zero : RgS s_zero := fun _ _ => x_r_0
section RI
variable {P : xP} {lo : List (Option Value)} {r : List Value} {w : xH} {Q : Option Value → xH → Prop} {mo : Nat} {S : xS} {x : Int32} {z : Int}
theorem wMi_247 : WP P 76 247 lo (.ref mo :: r) (putR w mo S) Q ↔ WP P 76 250 lo (.ref (ra mo 0) :: r) (putR w mo S) Q := R_get rfl rfl (by decide) rfl
theorem wMi_252 : WP P 76 252 lo (.int (xi z) :: .int x :: .ref (ra mo 0) :: r) (putR w mo S) Q ↔ ((0 ≤ x.toInt ∧ x.toInt < 128) ∧ WP P 76 253 lo r (putR w mo (sset S 0 x.toInt.toNat z)) Q) := R_iast rfl (by decide) rfl rfl rfl
theorem wMi_267 : WP P 76 267 lo (.ref mo :: r) (putR w mo S) Q ↔ WP P 76 270 lo (.ref (ra mo 27) :: r) (putR w mo S) Q := R_get rfl rfl (by decide) rfl
theorem wMi_272 : WP P 76 272 lo (.int (xi z) :: .int x :: .ref (ra mo 27) :: r) (putR w mo S) Q ↔ ((0 ≤ x.toInt ∧ x.toInt < 4) ∧ WP P 76 273 lo r (putR w mo (sset S 27 x.toInt.toNat z)) Q) := R_iast rfl (by decide) rfl rfl rfl
theorem wMi_327 : WP P 76 327 lo (.ref mo :: r) (putR w mo S) Q ↔ WP P 76 330 lo (.ref (ra mo 11) :: r) (putR w mo S) Q := R_get rfl rfl (by decide) rfl
theorem wMi_332 : WP P 76 332 lo (.int (xi z) :: .int x :: .ref (ra mo 11) :: r) (putR w mo S) Q ↔ ((0 ≤ x.toInt ∧ x.toInt < 16) ∧ WP P 76 333 lo r (putR w mo (sset S 11 x.toInt.toNat z)) Q) := R_iast rfl (by decide) rfl rfl rfl
theorem wMi_334 : WP P 76 334 lo (.ref mo :: r) (putR w mo S) Q ↔ WP P 76 337 lo (.ref (ra mo 13) :: r) (putR w mo S) Q := R_get rfl rfl (by decide) rfl
theorem wMi_339 : WP P 76 339 lo (.int (xi z) :: .int x :: .ref (ra mo 13) :: r) (putR w mo S) Q ↔ ((0 ≤ x.toInt ∧ x.toInt < 16) ∧ WP P 76 340 lo r (putR w mo (sset S 13 x.toInt.toNat z)) Q) := R_iast rfl (by decide) rfl rfl rfl
set_option maxHeartbeats 4000000 in
theorem m_i_l1 (hR0 : RgS S) (hQ : WP P 76 259 [some (.ref mo), some (.int (xi 128))] [] (putR w mo (mapA S 0 128 (fun _ => -1))) Q) : ∀ (d i : Nat), i + d = 128 → WP P 76 239 [some (.ref mo), some (.int (xi i))] [] (putR w mo (mapA S 0 i (fun _ => -1))) Q := by
  intro d
  induction d with
  | zero =>
    intro i hi
    have hR : RgS (mapA S 0 i (fun _ => -1)) := hR0.map fun _ _ => x_r_m1
    obtain rfl : i = 128 := by omega
    simp (disch := first | exact hR _ _ | exact x01a | exact x01b | (unfold x_r; omega) | assumption | omega) only [wM_init_239, wM_init_240, wM_init_243, x_gi_int, x_ga_ref, x_ga_null, List.getElem?_cons_zero, List.getElem?_cons_succ, List.length_cons, List.length_nil, List.set_cons_zero, List.set_cons_succ, Nat.reduceAdd, Nat.reduceLT, xr_lt, xr_eq, xr_toInt, xr_0, xi_add, xi_sub, xi_mul, xr_div, xr_rm, Int.toNat_natCast, bd_t, true_and, and_true, not_false_eq_true, ↓reduceIte, ilt_t, ilt_f, ile_t, x_c1i, x_c1r, x_c1n, and_self, Option.toList_some, Option.toList_none, List.cons_append, List.nil_append, xr_01, xr_00, ieq_f, ieq_t]
    exact hQ
  | succ d ih =>
    intro i hi
    have hR : RgS (mapA S 0 i (fun _ => -1)) := hR0.map fun _ _ => x_r_m1
    have i1 := ih (i + 1) (by omega)
    rw [wM_init_239]
    simp (disch := first | exact hR _ _ | exact x01a | exact x01b | (unfold x_r; omega) | assumption | omega) only [wM_init_240, wM_init_243, wM_init_246, wM_init_250, wM_init_251, wM_init_253, wM_init_256, wMi_247, wMi_252, x_gi_int, x_ga_ref, x_ga_null, List.getElem?_cons_zero, List.getElem?_cons_succ, List.length_cons, List.length_nil, List.set_cons_zero, List.set_cons_succ, Nat.reduceAdd, Nat.reduceLT, xr_lt, xr_eq, xr_toInt, xr_0, xi_add, xi_sub, xi_mul, xr_div, xr_rm, Int.toNat_natCast, bd_t, true_and, and_true, not_false_eq_true, ↓reduceIte, ilt_t, ilt_f, ile_t, x_c1i, x_c1r, x_c1n, and_self, Option.toList_some, Option.toList_none, List.cons_append, List.nil_append, xr_01, xr_00, ieq_f, ieq_t]
    rw [mapA_s (f := fun _ => -1) rfl]
    exact i1
set_option maxHeartbeats 4000000 in
theorem m_i_l2 (hR0 : RgS S) (hQ : WP P 76 279 [some (.ref mo), some (.int (xi 4))] [] (putR w mo (mapA S 27 4 (fun _ => -1))) Q) : ∀ (d i : Nat), i + d = 4 → WP P 76 261 [some (.ref mo), some (.int (xi i))] [] (putR w mo (mapA S 27 i (fun _ => -1))) Q := by
  intro d
  induction d with
  | zero =>
    intro i hi
    have hR : RgS (mapA S 27 i (fun _ => -1)) := hR0.map fun _ _ => x_r_m1
    obtain rfl : i = 4 := by omega
    simp (disch := first | exact hR _ _ | exact x01a | exact x01b | (unfold x_r; omega) | assumption | omega) only [wM_init_261, wM_init_262, wM_init_263, x_gi_int, x_ga_ref, x_ga_null, List.getElem?_cons_zero, List.getElem?_cons_succ, List.length_cons, List.length_nil, List.set_cons_zero, List.set_cons_succ, Nat.reduceAdd, Nat.reduceLT, xr_lt, xr_eq, xr_toInt, xr_0, xi_add, xi_sub, xi_mul, xr_div, xr_rm, Int.toNat_natCast, bd_t, true_and, and_true, not_false_eq_true, ↓reduceIte, ilt_t, ilt_f, ile_t, x_c1i, x_c1r, x_c1n, and_self, Option.toList_some, Option.toList_none, List.cons_append, List.nil_append, xr_01, xr_00, ieq_f, ieq_t]
    exact hQ
  | succ d ih =>
    intro i hi
    have hR : RgS (mapA S 27 i (fun _ => -1)) := hR0.map fun _ _ => x_r_m1
    have i1 := ih (i + 1) (by omega)
    rw [wM_init_261]
    simp (disch := first | exact hR _ _ | exact x01a | exact x01b | (unfold x_r; omega) | assumption | omega) only [wM_init_262, wM_init_263, wM_init_266, wM_init_270, wM_init_271, wM_init_273, wM_init_276, wMi_267, wMi_272, x_gi_int, x_ga_ref, x_ga_null, List.getElem?_cons_zero, List.getElem?_cons_succ, List.length_cons, List.length_nil, List.set_cons_zero, List.set_cons_succ, Nat.reduceAdd, Nat.reduceLT, xr_lt, xr_eq, xr_toInt, xr_0, xi_add, xi_sub, xi_mul, xr_div, xr_rm, Int.toNat_natCast, bd_t, true_and, and_true, not_false_eq_true, ↓reduceIte, ilt_t, ilt_f, ile_t, x_c1i, x_c1r, x_c1n, and_self, Option.toList_some, Option.toList_none, List.cons_append, List.nil_append, xr_01, xr_00, ieq_f, ieq_t]
    rw [mapA_s (f := fun _ => -1) rfl]
    exact i1
set_option maxHeartbeats 4000000 in
theorem m_init (hQ : Q none (putR (wR w) (x_sz w) s_init)) : WP P 76 0 [some (.ref (x_sz w)), none] [] (bR w 0) Q := by
  have ka : WP P 76 237 [some (.ref (x_sz w)), none] [] (bR w 28) Q → WP P 76 0 [some (.ref (x_sz w)), none] [] (bR w 0) Q := by
    intro kk
    simp (disch := first | omega | decide) only [wM_init_0, wM_init_1, wM_init_4, wM_init_5, wM_init_8, wM_init_10, wM_init_13, wM_init_14, wM_init_17, wM_init_19, wM_init_22, wM_init_23, wM_init_26, wM_init_28, wM_init_31, wM_init_32, wM_init_35, wM_init_37, wM_init_40, wM_init_41, wM_init_44, wM_init_46, wM_init_49, wM_init_50, wM_init_53, wM_init_55, wM_init_58, wM_init_59, wM_init_62, wM_init_64, wM_init_67, wM_init_68, wM_init_71, wM_init_73, wM_init_76, wM_init_77, wM_init_80, wM_init_82, wM_init_85, wM_init_86, wM_init_89, wM_init_91, wM_init_94, wM_init_95, wM_init_97, wM_init_99, wM_init_102, wM_init_103, wM_init_105, wM_init_107, wM_init_110, wM_init_111, wM_init_113, wM_init_115, wM_init_118, wM_init_119, wM_init_121, wM_init_123, wM_init_126, wM_init_127, wM_init_129, wM_init_131, wM_init_134, wM_init_135, wM_init_137, wM_init_139, wM_init_142, wM_init_143, wM_init_145, wM_init_147, wM_init_150, wM_init_151, wM_init_153, wM_init_155, wM_init_158, wM_init_159, wM_init_161, wM_init_163, wM_init_166, wM_init_167, wM_init_169, wM_init_171, wM_init_174, wM_init_175, wM_init_177, wM_init_179, wM_init_182, wM_init_183, wM_init_185, wM_init_187, wM_init_190, wM_init_191, wM_init_193, wM_init_195, wM_init_198, wM_init_199, wM_init_201, wM_init_203, wM_init_206, wM_init_207, wM_init_209, wM_init_211, wM_init_214, wM_init_215, wM_init_217, wM_init_219, wM_init_222, wM_init_223, wM_init_225, wM_init_227, wM_init_230, wM_init_231, wM_init_232, wM_init_234, wM_init_1, bR_s, bR_has, Int.reduceToNat, show ∀ a, (x_fit 2 (.ref a) = true) = True from fun _ => by simp [x_fit], x_gi_int, x_ga_ref, x_ga_null, List.getElem?_cons_zero, List.getElem?_cons_succ, List.length_cons, List.length_nil, List.set_cons_zero, List.set_cons_succ, Nat.reduceAdd, Nat.reduceLT, xr_lt, xr_eq, xr_toInt, xr_0, xi_add, xi_sub, xi_mul, xr_div, xr_rm, Int.toNat_natCast, bd_t, true_and, and_true, not_false_eq_true, ↓reduceIte, ilt_t, ilt_f, ile_t, x_c1i, x_c1r, x_c1n, and_self, Option.toList_some, Option.toList_none, List.cons_append, List.nil_append, xr_01, xr_00, ieq_f, ieq_t]
    exact kk
  refine ka ?_
  rw [bR_28]
  simp (disch := first | omega | decide) only [wM_init_237, wM_init_238, x_gi_int, x_ga_ref, x_ga_null, List.getElem?_cons_zero, List.getElem?_cons_succ, List.length_cons, List.length_nil, List.set_cons_zero, List.set_cons_succ, Nat.reduceAdd, Nat.reduceLT, xr_lt, xr_eq, xr_toInt, xr_0, xi_add, xi_sub, xi_mul, xr_div, xr_rm, Int.toNat_natCast, bd_t, true_and, and_true, not_false_eq_true, ↓reduceIte, ilt_t, ilt_f, ile_t, x_c1i, x_c1r, x_c1n, and_self, Option.toList_some, Option.toList_none, List.cons_append, List.nil_append, xr_01, xr_00, ieq_f, ieq_t]
  have i1 := m_i_l1 (P := P) (Q := Q) (w := wR w) (mo := x_sz w) RgS.zero ?_ 128 0 rfl
  · rw [mapA_0] at i1
    exact i1
  have hR1 : RgS (mapA s_zero 0 128 (fun _ => -1)) := RgS.zero.map fun _ _ => x_r_m1
  simp (disch := first | omega | decide) only [wM_init_259, wM_init_260, x_gi_int, x_ga_ref, x_ga_null, List.getElem?_cons_zero, List.getElem?_cons_succ, List.length_cons, List.length_nil, List.set_cons_zero, List.set_cons_succ, Nat.reduceAdd, Nat.reduceLT, xr_lt, xr_eq, xr_toInt, xr_0, xi_add, xi_sub, xi_mul, xr_div, xr_rm, Int.toNat_natCast, bd_t, true_and, and_true, not_false_eq_true, ↓reduceIte, ilt_t, ilt_f, ile_t, x_c1i, x_c1r, x_c1n, and_self, Option.toList_some, Option.toList_none, List.cons_append, List.nil_append, xr_01, xr_00, ieq_f, ieq_t]
  have i2 := m_i_l2 (P := P) (Q := Q) (w := wR w) (mo := x_sz w) hR1 ?_ 4 0 rfl
  · rw [mapA_0] at i2
    exact i2
  have hR2 : RgS s_i0 := hR1.map fun _ _ => x_r_m1
  show WP P 76 279 _ _ (putR (wR w) (x_sz w) s_i0) Q
  simp (disch := first | omega | decide) only [wM_init_279, wM_init_280, wM_init_281, wM_init_282, wM_init_283, wM_init_284, x_gi_int, x_ga_ref, x_ga_null, List.getElem?_cons_zero, List.getElem?_cons_succ, List.length_cons, List.length_nil, List.set_cons_zero, List.set_cons_succ, Nat.reduceAdd, Nat.reduceLT, xr_lt, xr_eq, xr_toInt, xr_0, xi_add, xi_sub, xi_mul, xr_div, xr_rm, Int.toNat_natCast, bd_t, true_and, and_true, not_false_eq_true, ↓reduceIte, ilt_t, ilt_f, ile_t, x_c1i, x_c1r, x_c1n, and_self, Option.toList_some, Option.toList_none, List.cons_append, List.nil_append, xr_01, xr_00, ieq_f, ieq_t]
  refine wM_init_285 putR_tgM (by simp) rfl rfl (m_fill hR2 (by omega) (by omega) ?_)
  have hR3 : RgS (s_fill s_i0 0 1 0 0 (-1)) := hR2.fill ⟨by omega, by omega⟩ ⟨by omega, by omega⟩ ⟨by omega, by omega⟩ ⟨by omega, by omega⟩
  simp (disch := first | omega | decide) only [wM_init_288, wM_init_289, wM_init_290, wM_init_291, wM_init_293, wM_init_294, x_gi_int, x_ga_ref, x_ga_null, List.getElem?_cons_zero, List.getElem?_cons_succ, List.length_cons, List.length_nil, List.set_cons_zero, List.set_cons_succ, Nat.reduceAdd, Nat.reduceLT, xr_lt, xr_eq, xr_toInt, xr_0, xi_add, xi_sub, xi_mul, xr_div, xr_rm, Int.toNat_natCast, bd_t, true_and, and_true, not_false_eq_true, ↓reduceIte, ilt_t, ilt_f, ile_t, x_c1i, x_c1r, x_c1n, and_self, Option.toList_some, Option.toList_none, List.cons_append, List.nil_append, xr_01, xr_00, ieq_f, ieq_t]
  refine wM_init_295 putR_tgM (by simp) rfl rfl (m_fill hR3 (by omega) (by omega) ?_)
  have hR4 : RgS (s_fill (s_fill s_i0 0 1 0 0 (-1)) 1 2 16 0 (-1)) := hR3.fill ⟨by omega, by omega⟩ ⟨by omega, by omega⟩ ⟨by omega, by omega⟩ ⟨by omega, by omega⟩
  simp (disch := first | omega | decide) only [wM_init_298, wM_init_299, wM_init_300, wM_init_301, wM_init_303, wM_init_304, x_gi_int, x_ga_ref, x_ga_null, List.getElem?_cons_zero, List.getElem?_cons_succ, List.length_cons, List.length_nil, List.set_cons_zero, List.set_cons_succ, Nat.reduceAdd, Nat.reduceLT, xr_lt, xr_eq, xr_toInt, xr_0, xi_add, xi_sub, xi_mul, xr_div, xr_rm, Int.toNat_natCast, bd_t, true_and, and_true, not_false_eq_true, ↓reduceIte, ilt_t, ilt_f, ile_t, x_c1i, x_c1r, x_c1n, and_self, Option.toList_some, Option.toList_none, List.cons_append, List.nil_append, xr_01, xr_00, ieq_f, ieq_t]
  refine wM_init_305 putR_tgM (by simp) rfl rfl (m_fill hR4 (by omega) (by omega) ?_)
  have hR5 : RgS (s_fill (s_fill (s_fill s_i0 0 1 0 0 (-1)) 1 2 16 0 (-1)) 2 0 32 5 (-1)) := hR4.fill ⟨by omega, by omega⟩ ⟨by omega, by omega⟩ ⟨by omega, by omega⟩ ⟨by omega, by omega⟩
  simp (disch := first | omega | decide) only [wM_init_308, wM_init_309, wM_init_310, wM_init_311, wM_init_313, wM_init_315, x_gi_int, x_ga_ref, x_ga_null, List.getElem?_cons_zero, List.getElem?_cons_succ, List.length_cons, List.length_nil, List.set_cons_zero, List.set_cons_succ, Nat.reduceAdd, Nat.reduceLT, xr_lt, xr_eq, xr_toInt, xr_0, xi_add, xi_sub, xi_mul, xr_div, xr_rm, Int.toNat_natCast, bd_t, true_and, and_true, not_false_eq_true, ↓reduceIte, ilt_t, ilt_f, ile_t, x_c1i, x_c1r, x_c1n, and_self, Option.toList_some, Option.toList_none, List.cons_append, List.nil_append, xr_01, xr_00, ieq_f, ieq_t]
  refine wM_init_316 putR_tgM (by simp) rfl rfl (m_fill hR5 (by omega) (by omega) ?_)
  have hR6 : RgS s_i1 := hR5.fill ⟨by omega, by omega⟩ ⟨by omega, by omega⟩ ⟨by omega, by omega⟩ ⟨by omega, by omega⟩
  show WP P 76 319 _ _ (putR (wR w) (x_sz w) s_i1) Q
  simp (disch := first | omega | decide) only [wM_init_319, wM_init_320, wM_init_321, x_gi_int, x_ga_ref, x_ga_null, List.getElem?_cons_zero, List.getElem?_cons_succ, List.length_cons, List.length_nil, List.set_cons_zero, List.set_cons_succ, Nat.reduceAdd, Nat.reduceLT, xr_lt, xr_eq, xr_toInt, xr_0, xi_add, xi_sub, xi_mul, xr_div, xr_rm, Int.toNat_natCast, bd_t, true_and, and_true, not_false_eq_true, ↓reduceIte, ilt_t, ilt_f, ile_t, x_c1i, x_c1r, x_c1n, and_self, Option.toList_some, Option.toList_none, List.cons_append, List.nil_append, xr_01, xr_00, ieq_f, ieq_t]
  refine wM_init_323 putR_tgM (by simp) rfl rfl (m_begin hR6 ⟨by omega, by omega⟩ (by omega) (by omega) ?_)
  have hR : RgS (s_begin s_i1 2 16) := hR6.begin _ _
  have e2 : (xi 2).toInt = 2 := by decide
  simp (disch := first | omega | decide) only [wM_init_326, wM_init_330, wM_init_331, wM_init_333, wM_init_337, wM_init_338, wM_init_340, wM_init_341, wMi_327, wMi_332, wMi_334, wMi_339, x_gi_int, x_ga_ref, x_ga_null, List.getElem?_cons_zero, List.getElem?_cons_succ, List.length_cons, List.length_nil, List.set_cons_zero, List.set_cons_succ, Nat.reduceAdd, Nat.reduceLT, xr_lt, xr_eq, xr_toInt, xr_0, xi_add, xi_sub, xi_mul, xr_div, xr_rm, Int.toNat_natCast, bd_t, true_and, and_true, not_false_eq_true, ↓reduceIte, ilt_t, ilt_f, ile_t, x_c1i, x_c1r, x_c1n, and_self, Option.toList_some, Option.toList_none, List.cons_append, List.nil_append, xr_01, xr_00, ieq_f, ieq_t, e2, Int.reduceToNat]
  have hR7 : RgS (sset (sset (s_begin s_i1 2 16) 11 2 0) 13 2 3) := (hR.set x_r_0).set ⟨by omega, by omega⟩
  refine wM_init_342 putR_tgM (by simp) rfl rfl (m_ready hR7 (by omega) (by omega) ?_)
  simp (disch := first | omega | decide) only [wM_init_345, x_gi_int, x_ga_ref, x_ga_null, List.getElem?_cons_zero, List.getElem?_cons_succ, List.length_cons, List.length_nil, List.set_cons_zero, List.set_cons_succ, Nat.reduceAdd, Nat.reduceLT, xr_lt, xr_eq, xr_toInt, xr_0, xi_add, xi_sub, xi_mul, xr_div, xr_rm, Int.toNat_natCast, bd_t, true_and, and_true, not_false_eq_true, ↓reduceIte, ilt_t, ilt_f, ile_t, x_c1i, x_c1r, x_c1n, and_self, Option.toList_some, Option.toList_none, List.cons_append, List.nil_append, xr_01, xr_00, ieq_f, ieq_t]
  exact hQ
end RI
