section LA
variable {P : xP} {w : xH} {Q : Option Value → xH → Prop} {A : xA} {S : xS}
theorem putR_keep {W w1 : xH} {mo n : Nat} (hx : putR W mo S = W) (fr : Fr W w1 n) : putR w1 mo S = w1 := by
  obtain ⟨f1, f2, -⟩ := fr
  have tM : x_tg W mo = some (x_M, 29) := by rw [← hx]; exact putR_tgM
  have tR : ∀ j, j < 28 → x_tg W (ra mo j) = some (rtag j, rlen j) := fun j hj => by rw [← hx]; exact putR_tg hj
  have rt : ∀ j, rtag j = 11 ∨ rtag j = 20 ∨ rtag j = 21 := by
    intro j
    unfold rtag
    split <;> omega
  refine Prod.ext rfl (Prod.ext rfl (Prod.ext ?_ ?_))
  · funext a
    show (if a = mo then some (x_M, 29) else if mo < a ∧ a < mo + 29 then some (rtag (a - mo - 1), rlen (a - mo - 1)) else x_tg w1 a) = x_tg w1 a
    by_cases c1 : a = mo
    · rw [if_pos c1, c1, f1 mo _ _ tM]
    · rw [if_neg c1]
      by_cases c2 : mo < a ∧ a < mo + 29
      · rw [if_pos c2]
        have ea : a = ra mo (a - mo - 1) := by unfold ra; omega
        have := f1 _ _ _ (tR (a - mo - 1) (by omega))
        rw [← ea] at this
        exact this.symm
      · rw [if_neg c2]
  · funext a k
    show (if a = mo then (if k < 28 then Value.ref (ra mo k) else if k = 28 then .int (xi (S 28 0)) else .null) else if mo < a ∧ a < mo + 29 then .int (xi (S (a - mo - 1) k)) else x_fd w1 a k) = x_fd w1 a k
    by_cases c1 : a = mo
    · have e : x_fd w1 mo k = x_fd (putR W mo S) mo k := by rw [hx, f2 mo _ _ tM (Or.inl rfl)]
      have e2 : x_fd (putR W mo S) mo k = (if mo = mo then (if k < 28 then Value.ref (ra mo k) else if k = 28 then .int (xi (S 28 0)) else .null) else if mo < mo ∧ mo < mo + 29 then .int (xi (S (mo - mo - 1) k)) else x_fd W mo k) := rfl
      rw [c1, e, e2, if_pos rfl, if_pos rfl]
    · rw [if_neg c1]
      by_cases c2 : mo < a ∧ a < mo + 29
      · rw [if_pos c2]
        have ea : a = ra mo (a - mo - 1) := by unfold ra; omega
        have e := f2 _ _ _ (tR (a - mo - 1) (by omega)) (rt _)
        rw [← ea] at e
        rw [e, ← hx, ea, putR_fd (by omega)]
        rw [← ea]
      · rw [if_neg c2]
theorem Hp.reg {mo : Nat} {S' : xS} {U : Int → Int → Prop} {F : Int → Int → Nat → Option Value} (h : Hp (putR w mo S) A U F) : Hp (putR w mo S') A U F := by
  obtain ⟨h1, h2, h3, h4⟩ := h
  refine ⟨h1, h2, fun k i f v u e => ?_, h4⟩
  have out : A k i < mo ∨ mo + 29 ≤ A k i := by
    have t := h1 k i u
    have tc := tgK_c k i
    by_cases c : A k i < mo ∨ mo + 29 ≤ A k i
    · exact c
    exfalso
    by_cases c1 : A k i = mo
    · rw [c1, putR_tgM] at t
      have t := Option.some.inj t
      rw [← t] at tc
      have tc : (11 : Nat) < 11 ∨ 30 ≤ (11 : Nat) := tc
      omega
    · have ea : A k i = ra mo (A k i - mo - 1) := by unfold ra; omega
      rw [ea, putR_tg (by omega)] at t
      have t := Option.some.inj t
      rw [← t] at tc
      dsimp only at tc
      unfold rtag at tc
      split at tc <;> omega
  have x := h3 k i f v u e
  rw [putR_fdO out] at x
  rw [putR_fdO out]
  exact x
theorem putR_id {mo : Nat} {S' : xS} : putR (putR w mo S) mo S' = putR w mo S' := by
  refine Prod.ext rfl (Prod.ext rfl (Prod.ext ?_ ?_))
  · funext a
    show (if a = mo then some (x_M, 29) else if mo < a ∧ a < mo + 29 then some (rtag (a - mo - 1), rlen (a - mo - 1)) else x_tg (putR w mo S) a) = x_tg (putR w mo S') a
    by_cases c : a < mo ∨ mo + 29 ≤ a
    · rw [if_neg (by omega), if_neg (by omega)]; rfl
    · show _ = (if a = mo then some (x_M, 29) else if mo < a ∧ a < mo + 29 then some (rtag (a - mo - 1), rlen (a - mo - 1)) else x_tg w a)
      by_cases c1 : a = mo
      · rw [if_pos c1, if_pos c1]
      · rw [if_neg c1, if_neg c1, if_pos (by omega), if_pos (by omega)]
  · funext a k
    show (if a = mo then (if k < 28 then Value.ref (ra mo k) else if k = 28 then .int (xi (S' 28 0)) else .null) else if mo < a ∧ a < mo + 29 then .int (xi (S' (a - mo - 1) k)) else x_fd (putR w mo S) a k) = x_fd (putR w mo S') a k
    by_cases c : a < mo ∨ mo + 29 ≤ a
    · rw [if_neg (by omega), if_neg (by omega), putR_fdO c, putR_fdO c]
    · show _ = (if a = mo then (if k < 28 then Value.ref (ra mo k) else if k = 28 then .int (xi (S' 28 0)) else .null) else if mo < a ∧ a < mo + 29 then .int (xi (S' (a - mo - 1) k)) else x_fd w a k)
      by_cases c1 : a = mo
      · rw [if_pos c1, if_pos c1]
      · rw [if_neg c1, if_neg c1, if_pos (by omega), if_pos (by omega)]
theorem m_tick2 {mo : Nat} (hI : Inv S) (hC : S 28 0 < 2000000000) (hQ : Q (some (.int (xi (s_tick S).1))) (putR w mo (s_tick S).2)) : WP P 114 0 [some (.ref mo), none] [] (putR w mo S) Q := by
  have hR := hI.1.1
  have hn := s_now_in S
  have CL : 0 ≤ S 28 0 := hI.1.2.2.2.2.2.2.2.1.1
  by_cases c1 : s_now S < 0
  · unfold s_tick at hQ
    rw [if_pos c1] at hQ
    simp (disch := first | exact hR _ _ | exact x01a | exact x01b | (unfold x_r; omega) | assumption | omega) only [wM_tick_0, x_gi_int, x_ga_ref, x_ga_null, List.getElem?_cons_zero, List.getElem?_cons_succ, List.length_cons, List.length_nil, List.set_cons_zero, List.set_cons_succ, Nat.reduceAdd, Nat.reduceLT, xr_lt, xr_eq, xr_toInt, xr_0, xi_add, xi_sub, xi_mul, xr_div, xr_rm, Int.toNat_natCast, bd_t, true_and, and_true, not_false_eq_true, ↓reduceIte, ilt_t, ilt_f, ile_t, x_c1i, x_c1r, x_c1n, and_self, Option.toList_some, Option.toList_none, List.cons_append, List.nil_append, xr_01, xr_00, ieq_f, ieq_t]
    refine wM_tick_1 (by simp) rfl rfl (m_now hR ?_)
    simp (disch := first | exact hR _ _ | exact x01a | exact x01b | (unfold x_r; omega) | assumption | omega) only [wM_tick_4, wM_tick_5, wM_tick_6, wM_tick_9, wM_tick_10, x_gi_int, x_ga_ref, x_ga_null, List.getElem?_cons_zero, List.getElem?_cons_succ, List.length_cons, List.length_nil, List.set_cons_zero, List.set_cons_succ, Nat.reduceAdd, Nat.reduceLT, xr_lt, xr_eq, xr_toInt, xr_0, xi_add, xi_sub, xi_mul, xr_div, xr_rm, Int.toNat_natCast, bd_t, true_and, and_true, not_false_eq_true, ↓reduceIte, ilt_t, ilt_f, ile_t, x_c1i, x_c1r, x_c1n, and_self, Option.toList_some, Option.toList_none, List.cons_append, List.nil_append, xr_01, xr_00, ieq_f, ieq_t]
    exact hQ
  · obtain ⟨n1, n2⟩ := now_is c1
    have b := (hI.1.2.2.2.2.2.2.1 (s_now S).toNat (by omega) (by omega)).2.2.2.2.2 n2
    exact m_tick hI.gs ⟨CL, hC⟩ (by omega) hQ
theorem xi_ex (x : Int32) : ∃ a : Int, x = xi a ∧ x_r a := ⟨x.toInt, xi_of x, xi_lo x, xi_hi x⟩
set_option maxHeartbeats 4000000 in
theorem law_retype {N mo : Nat} {g : Nat → Int32} {i : Int} (hP : P.1 P.2.2 = some (N, g)) (hN : (N : Int) < 2147483648) (i0 : 0 ≤ i) (i5 : i + 5 ≤ (N : Int)) (h : Rel w A S (lid S)) (hI : Inv S) (hC : S 28 0 < 2000000000) (hx : putR w mo S = w) (hp2 : x_tg w P.2.2 = none) (hb2 : P.2.2 < x_sz w) (hp : x_tg w P.2.1 = none) {szF : Nat → Int32} (hSZ : P.1 P.2.1 = some (8, szF)) (hsz : ∀ k b : Int, 1 ≤ k → k ≤ 7 → szF k.toNat = xi (s_size k b))
    (step : ∀ w1 A' S', A' 12 0 = A 12 0 → Rel w1 A' S' (lid S') → Fr w w1 4 → putR w1 mo S = w1 → Inv S' → S' 28 0 ≤ S 28 0 + 1 → WP P 119 872 [some (.ref P.2.2), some (.ref (A 12 0)), some (.ref mo), some (.int (xi i))] [] (putR w1 mo S') Q) : WP P 119 128 [some (.ref P.2.2), some (.ref (A 12 0)), some (.ref mo), some (.int (xi i))] [] w Q := by
  have hR : RgS s_zero := RgS.zero
  have t0 : x_tg w (A 12 0) = some (0, 4) := h.tg (us_ker (i := 0) (by omega))
  obtain ⟨a1, e1, x1⟩ := xi_ex (g (i + 1).toNat)
  obtain ⟨a2, e2, x2⟩ := xi_ex (g (i + 2).toNat)
  obtain ⟨a3, e3, x3⟩ := xi_ex (g (i + 3).toNat)
  obtain ⟨a4, e4, x4⟩ := xi_ex (g (i + 4).toNat)
  simp (disch := first | exact hR _ _ | exact x01a | exact x01b | (unfold x_r; omega) | assumption | omega) only [wL_law_128, wL_law_129, wL_law_130, wL_law_131, wL_law_132, wL_law_134, wL_law_135, wL_law_136, wL_law_137, wL_law_139, wL_law_140, wL_law_141, wL_law_142, wL_law_144, wL_law_145, wL_law_146, wL_law_147, wL_law_133 hp2 hP, wL_law_138 hp2 hP, wL_law_143 hp2 hP, wL_law_148 hp2 hP, e1, e2, e3, e4, x_gi_int, x_ga_ref, x_ga_null, List.getElem?_cons_zero, List.getElem?_cons_succ, List.length_cons, List.length_nil, List.set_cons_zero, List.set_cons_succ, Nat.reduceAdd, Nat.reduceLT, xr_lt, xr_eq, xr_toInt, xr_0, xi_add, xi_sub, xi_mul, xr_div, xr_rm, Int.toNat_natCast, bd_t, true_and, and_true, not_false_eq_true, ↓reduceIte, ilt_t, ilt_f, ile_t, x_c1i, x_c1r, x_c1n, and_self, Option.toList_some, Option.toList_none, List.cons_append, List.nil_append, xr_01, xr_00, ieq_f, ieq_t]
  refine wL_law_149 t0 (by simp) rfl rfl (k_retype h hI hp hSZ hsz x1 x2 x3 x4 (fun w1 A' eA h1 fr => ?_))
  have hx1 := putR_keep hx fr
  have hp3 : x_tg w1 P.2.2 = none := by rw [fr.2.2.2.2.2 _ hb2]; exact hp2
  have tM : x_tg w1 mo = some (11, 29) := by rw [← hx1]; exact putR_tgM
  simp (disch := first | exact hR _ _ | exact x01a | exact x01b | (unfold x_r; omega) | assumption | omega) only [wL_law_152, wL_law_153, wL_law_154, wL_law_155, wL_law_156, wL_law_158, wL_law_159, wL_law_160, wL_law_161, wL_law_163, wL_law_164, wL_law_165, wL_law_166, wL_law_168, wL_law_169, wL_law_170, wL_law_171, wL_law_157 hp3 hP, wL_law_162 hp3 hP, wL_law_167 hp3 hP, wL_law_172 hp3 hP, e1, e2, e3, e4, x_gi_int, x_ga_ref, x_ga_null, List.getElem?_cons_zero, List.getElem?_cons_succ, List.length_cons, List.length_nil, List.set_cons_zero, List.set_cons_succ, Nat.reduceAdd, Nat.reduceLT, xr_lt, xr_eq, xr_toInt, xr_0, xi_add, xi_sub, xi_mul, xr_div, xr_rm, Int.toNat_natCast, bd_t, true_and, and_true, not_false_eq_true, ↓reduceIte, ilt_t, ilt_f, ile_t, x_c1i, x_c1r, x_c1n, and_self, Option.toList_some, Option.toList_none, List.cons_append, List.nil_append, xr_01, xr_00, ieq_f, ieq_t]
  refine wL_law_173 tM (by simp) rfl rfl ?_
  rw [← hx1]
  refine m_retype hI.gs hI.hm x1 x2 x3 x4 ?_
  simp only [Option.toList_some, List.cons_append, List.nil_append]
  rw [wL_law_176, if_pos rfl]
  exact step w1 A' _ eA h1 fr hx1 (Inv.retypeC hI x3) (retype_28 S _ _ _ _)
set_option maxHeartbeats 4000000 in
theorem law_copy {N mo : Nat} {g : Nat → Int32} {i : Int} (hP : P.1 P.2.2 = some (N, g)) (hN : (N : Int) < 2147483648) (i0 : 0 ≤ i) (i5 : i + 5 ≤ (N : Int)) (h : Rel w A S (lid S)) (hI : Inv S) (hC : S 28 0 < 2000000000) (hx : putR w mo S = w) (hp2 : x_tg w P.2.2 = none) (hb2 : P.2.2 < x_sz w) (hp : x_tg w P.2.1 = none) {szF : Nat → Int32} (hSZ : P.1 P.2.1 = some (8, szF)) (hsz : ∀ k b : Int, 1 ≤ k → k ≤ 7 → szF k.toNat = xi (s_size k b))
    (step : ∀ w1 A' S', A' 12 0 = A 12 0 → Rel w1 A' S' (lid S') → Fr w w1 4 → putR w1 mo S = w1 → Inv S' → S' 28 0 ≤ S 28 0 + 1 → WP P 119 872 [some (.ref P.2.2), some (.ref (A 12 0)), some (.ref mo), some (.int (xi i))] [] (putR w1 mo S') Q) : WP P 119 181 [some (.ref P.2.2), some (.ref (A 12 0)), some (.ref mo), some (.int (xi i))] [] w Q := by
  have hR : RgS s_zero := RgS.zero
  have t0 : x_tg w (A 12 0) = some (0, 4) := h.tg (us_ker (i := 0) (by omega))
  obtain ⟨a1, e1, x1⟩ := xi_ex (g (i + 1).toNat)
  obtain ⟨a2, e2, x2⟩ := xi_ex (g (i + 2).toNat)
  obtain ⟨a3, e3, x3⟩ := xi_ex (g (i + 3).toNat)
  obtain ⟨a4, e4, x4⟩ := xi_ex (g (i + 4).toNat)
  simp (disch := first | exact hR _ _ | exact x01a | exact x01b | (unfold x_r; omega) | assumption | omega) only [wL_law_181, wL_law_182, wL_law_183, wL_law_184, wL_law_185, wL_law_187, wL_law_188, wL_law_189, wL_law_190, wL_law_192, wL_law_193, wL_law_194, wL_law_195, wL_law_197, wL_law_198, wL_law_199, wL_law_200, wL_law_186 hp2 hP, wL_law_191 hp2 hP, wL_law_196 hp2 hP, wL_law_201 hp2 hP, e1, e2, e3, e4, x_gi_int, x_ga_ref, x_ga_null, List.getElem?_cons_zero, List.getElem?_cons_succ, List.length_cons, List.length_nil, List.set_cons_zero, List.set_cons_succ, Nat.reduceAdd, Nat.reduceLT, xr_lt, xr_eq, xr_toInt, xr_0, xi_add, xi_sub, xi_mul, xr_div, xr_rm, Int.toNat_natCast, bd_t, true_and, and_true, not_false_eq_true, ↓reduceIte, ilt_t, ilt_f, ile_t, x_c1i, x_c1r, x_c1n, and_self, Option.toList_some, Option.toList_none, List.cons_append, List.nil_append, xr_01, xr_00, ieq_f, ieq_t]
  refine wL_law_202 t0 (by simp) rfl rfl (k_copy h hI x1 x2 x3 x4 (fun w1 A' eA h1 fr => ?_))
  have hx1 := putR_keep hx fr
  have hp3 : x_tg w1 P.2.2 = none := by rw [fr.2.2.2.2.2 _ hb2]; exact hp2
  have tM : x_tg w1 mo = some (11, 29) := by rw [← hx1]; exact putR_tgM
  simp (disch := first | exact hR _ _ | exact x01a | exact x01b | (unfold x_r; omega) | assumption | omega) only [wL_law_205, wL_law_206, wL_law_207, wL_law_208, wL_law_209, wL_law_211, wL_law_212, wL_law_213, wL_law_214, wL_law_216, wL_law_217, wL_law_218, wL_law_219, wL_law_221, wL_law_222, wL_law_223, wL_law_224, wL_law_210 hp3 hP, wL_law_215 hp3 hP, wL_law_220 hp3 hP, wL_law_225 hp3 hP, e1, e2, e3, e4, x_gi_int, x_ga_ref, x_ga_null, List.getElem?_cons_zero, List.getElem?_cons_succ, List.length_cons, List.length_nil, List.set_cons_zero, List.set_cons_succ, Nat.reduceAdd, Nat.reduceLT, xr_lt, xr_eq, xr_toInt, xr_0, xi_add, xi_sub, xi_mul, xr_div, xr_rm, Int.toNat_natCast, bd_t, true_and, and_true, not_false_eq_true, ↓reduceIte, ilt_t, ilt_f, ile_t, x_c1i, x_c1r, x_c1n, and_self, Option.toList_some, Option.toList_none, List.cons_append, List.nil_append, xr_01, xr_00, ieq_f, ieq_t]
  refine wL_law_226 tM (by simp) rfl rfl ?_
  rw [← hx1]
  refine m_copy hI.gs x1 x2 x3 x4 ?_
  simp only [Option.toList_some, List.cons_append, List.nil_append]
  rw [wL_law_229, if_pos rfl]
  exact step w1 A' _ eA h1 fr hx1 (hI.copyC _ _ _ _) (copy_28 S _ _ _ _)
set_option maxHeartbeats 4000000 in
theorem law_move {N mo : Nat} {g : Nat → Int32} {i : Int} (hP : P.1 P.2.2 = some (N, g)) (hN : (N : Int) < 2147483648) (i0 : 0 ≤ i) (i5 : i + 5 ≤ (N : Int)) (h : Rel w A S (lid S)) (hI : Inv S) (hC : S 28 0 < 2000000000) (hx : putR w mo S = w) (hp2 : x_tg w P.2.2 = none) (hb2 : P.2.2 < x_sz w) (hp : x_tg w P.2.1 = none) {szF : Nat → Int32} (hSZ : P.1 P.2.1 = some (8, szF)) (hsz : ∀ k b : Int, 1 ≤ k → k ≤ 7 → szF k.toNat = xi (s_size k b))
    (step : ∀ w1 A' S', A' 12 0 = A 12 0 → Rel w1 A' S' (lid S') → Fr w w1 4 → putR w1 mo S = w1 → Inv S' → S' 28 0 ≤ S 28 0 + 1 → WP P 119 872 [some (.ref P.2.2), some (.ref (A 12 0)), some (.ref mo), some (.int (xi i))] [] (putR w1 mo S') Q) : WP P 119 234 [some (.ref P.2.2), some (.ref (A 12 0)), some (.ref mo), some (.int (xi i))] [] w Q := by
  have hR : RgS s_zero := RgS.zero
  have t0 : x_tg w (A 12 0) = some (0, 4) := h.tg (us_ker (i := 0) (by omega))
  obtain ⟨a1, e1, x1⟩ := xi_ex (g (i + 1).toNat)
  obtain ⟨a2, e2, x2⟩ := xi_ex (g (i + 2).toNat)
  simp (disch := first | exact hR _ _ | exact x01a | exact x01b | (unfold x_r; omega) | assumption | omega) only [wL_law_234, wL_law_235, wL_law_236, wL_law_237, wL_law_238, wL_law_240, wL_law_241, wL_law_242, wL_law_243, wL_law_239 hp2 hP, wL_law_244 hp2 hP, e1, e2, x_gi_int, x_ga_ref, x_ga_null, List.getElem?_cons_zero, List.getElem?_cons_succ, List.length_cons, List.length_nil, List.set_cons_zero, List.set_cons_succ, Nat.reduceAdd, Nat.reduceLT, xr_lt, xr_eq, xr_toInt, xr_0, xi_add, xi_sub, xi_mul, xr_div, xr_rm, Int.toNat_natCast, bd_t, true_and, and_true, not_false_eq_true, ↓reduceIte, ilt_t, ilt_f, ile_t, x_c1i, x_c1r, x_c1n, and_self, Option.toList_some, Option.toList_none, List.cons_append, List.nil_append, xr_01, xr_00, ieq_f, ieq_t]
  refine wL_law_245 t0 (by simp) rfl rfl (k_move h hI x1 x2 (fun w1 A' eA h1 fr => ?_))
  have hx1 := putR_keep hx fr
  have hp3 : x_tg w1 P.2.2 = none := by rw [fr.2.2.2.2.2 _ hb2]; exact hp2
  have tM : x_tg w1 mo = some (11, 29) := by rw [← hx1]; exact putR_tgM
  simp (disch := first | exact hR _ _ | exact x01a | exact x01b | (unfold x_r; omega) | assumption | omega) only [wL_law_248, wL_law_249, wL_law_250, wL_law_251, wL_law_252, wL_law_254, wL_law_255, wL_law_256, wL_law_257, wL_law_253 hp3 hP, wL_law_258 hp3 hP, e1, e2, x_gi_int, x_ga_ref, x_ga_null, List.getElem?_cons_zero, List.getElem?_cons_succ, List.length_cons, List.length_nil, List.set_cons_zero, List.set_cons_succ, Nat.reduceAdd, Nat.reduceLT, xr_lt, xr_eq, xr_toInt, xr_0, xi_add, xi_sub, xi_mul, xr_div, xr_rm, Int.toNat_natCast, bd_t, true_and, and_true, not_false_eq_true, ↓reduceIte, ilt_t, ilt_f, ile_t, x_c1i, x_c1r, x_c1n, and_self, Option.toList_some, Option.toList_none, List.cons_append, List.nil_append, xr_01, xr_00, ieq_f, ieq_t]
  refine wL_law_259 tM (by simp) rfl rfl ?_
  rw [← hx1]
  refine m_move hI.gs x1 x2 ?_
  simp only [Option.toList_some, List.cons_append, List.nil_append]
  rw [wL_law_262, if_pos rfl]
  exact step w1 A' _ eA h1 fr hx1 (hI.moveC _ _) (move_28 S _ _)
set_option maxHeartbeats 4000000 in
theorem law_delete {N mo : Nat} {g : Nat → Int32} {i : Int} (hP : P.1 P.2.2 = some (N, g)) (hN : (N : Int) < 2147483648) (i0 : 0 ≤ i) (i5 : i + 5 ≤ (N : Int)) (h : Rel w A S (lid S)) (hI : Inv S) (hC : S 28 0 < 2000000000) (hx : putR w mo S = w) (hp2 : x_tg w P.2.2 = none) (hb2 : P.2.2 < x_sz w) (hp : x_tg w P.2.1 = none) {szF : Nat → Int32} (hSZ : P.1 P.2.1 = some (8, szF)) (hsz : ∀ k b : Int, 1 ≤ k → k ≤ 7 → szF k.toNat = xi (s_size k b))
    (step : ∀ w1 A' S', A' 12 0 = A 12 0 → Rel w1 A' S' (lid S') → Fr w w1 4 → putR w1 mo S = w1 → Inv S' → S' 28 0 ≤ S 28 0 + 1 → WP P 119 872 [some (.ref P.2.2), some (.ref (A 12 0)), some (.ref mo), some (.int (xi i))] [] (putR w1 mo S') Q) : WP P 119 267 [some (.ref P.2.2), some (.ref (A 12 0)), some (.ref mo), some (.int (xi i))] [] w Q := by
  have hR : RgS s_zero := RgS.zero
  have t0 : x_tg w (A 12 0) = some (0, 4) := h.tg (us_ker (i := 0) (by omega))
  obtain ⟨a1, e1, x1⟩ := xi_ex (g (i + 1).toNat)
  simp (disch := first | exact hR _ _ | exact x01a | exact x01b | (unfold x_r; omega) | assumption | omega) only [wL_law_267, wL_law_268, wL_law_269, wL_law_270, wL_law_271, wL_law_272 hp2 hP, e1, x_gi_int, x_ga_ref, x_ga_null, List.getElem?_cons_zero, List.getElem?_cons_succ, List.length_cons, List.length_nil, List.set_cons_zero, List.set_cons_succ, Nat.reduceAdd, Nat.reduceLT, xr_lt, xr_eq, xr_toInt, xr_0, xi_add, xi_sub, xi_mul, xr_div, xr_rm, Int.toNat_natCast, bd_t, true_and, and_true, not_false_eq_true, ↓reduceIte, ilt_t, ilt_f, ile_t, x_c1i, x_c1r, x_c1n, and_self, Option.toList_some, Option.toList_none, List.cons_append, List.nil_append, xr_01, xr_00, ieq_f, ieq_t]
  refine wL_law_273 t0 (by simp) rfl rfl (k_delete h hI x1 (fun w1 h1 fr => ?_))
  have hx1 := putR_keep hx fr
  have hp3 : x_tg w1 P.2.2 = none := by rw [fr.2.2.2.2.2 _ hb2]; exact hp2
  have tM : x_tg w1 mo = some (11, 29) := by rw [← hx1]; exact putR_tgM
  simp (disch := first | exact hR _ _ | exact x01a | exact x01b | (unfold x_r; omega) | assumption | omega) only [wL_law_276, wL_law_277, wL_law_278, wL_law_279, wL_law_280, wL_law_281 hp3 hP, e1, x_gi_int, x_ga_ref, x_ga_null, List.getElem?_cons_zero, List.getElem?_cons_succ, List.length_cons, List.length_nil, List.set_cons_zero, List.set_cons_succ, Nat.reduceAdd, Nat.reduceLT, xr_lt, xr_eq, xr_toInt, xr_0, xi_add, xi_sub, xi_mul, xr_div, xr_rm, Int.toNat_natCast, bd_t, true_and, and_true, not_false_eq_true, ↓reduceIte, ilt_t, ilt_f, ile_t, x_c1i, x_c1r, x_c1n, and_self, Option.toList_some, Option.toList_none, List.cons_append, List.nil_append, xr_01, xr_00, ieq_f, ieq_t]
  refine wL_law_282 tM (by simp) rfl rfl ?_
  rw [← hx1]
  refine m_delete hI.gs x1 ?_
  simp only [Option.toList_some, List.cons_append, List.nil_append]
  rw [wL_law_285, if_pos rfl]
  exact step w1 A _ rfl h1 (fr.le (by omega)) hx1 (hI.delete _) (delete_28 S _)
set_option maxHeartbeats 4000000 in
theorem law_revoke {N mo : Nat} {g : Nat → Int32} {i : Int} (hP : P.1 P.2.2 = some (N, g)) (hN : (N : Int) < 2147483648) (i0 : 0 ≤ i) (i5 : i + 5 ≤ (N : Int)) (h : Rel w A S (lid S)) (hI : Inv S) (hC : S 28 0 < 2000000000) (hx : putR w mo S = w) (hp2 : x_tg w P.2.2 = none) (hb2 : P.2.2 < x_sz w) (hp : x_tg w P.2.1 = none) {szF : Nat → Int32} (hSZ : P.1 P.2.1 = some (8, szF)) (hsz : ∀ k b : Int, 1 ≤ k → k ≤ 7 → szF k.toNat = xi (s_size k b))
    (step : ∀ w1 A' S', A' 12 0 = A 12 0 → Rel w1 A' S' (lid S') → Fr w w1 4 → putR w1 mo S = w1 → Inv S' → S' 28 0 ≤ S 28 0 + 1 → WP P 119 872 [some (.ref P.2.2), some (.ref (A 12 0)), some (.ref mo), some (.int (xi i))] [] (putR w1 mo S') Q) : WP P 119 290 [some (.ref P.2.2), some (.ref (A 12 0)), some (.ref mo), some (.int (xi i))] [] w Q := by
  have hR : RgS s_zero := RgS.zero
  have t0 : x_tg w (A 12 0) = some (0, 4) := h.tg (us_ker (i := 0) (by omega))
  obtain ⟨a1, e1, x1⟩ := xi_ex (g (i + 1).toNat)
  simp (disch := first | exact hR _ _ | exact x01a | exact x01b | (unfold x_r; omega) | assumption | omega) only [wL_law_290, wL_law_291, wL_law_292, wL_law_293, wL_law_294, wL_law_295 hp2 hP, e1, x_gi_int, x_ga_ref, x_ga_null, List.getElem?_cons_zero, List.getElem?_cons_succ, List.length_cons, List.length_nil, List.set_cons_zero, List.set_cons_succ, Nat.reduceAdd, Nat.reduceLT, xr_lt, xr_eq, xr_toInt, xr_0, xi_add, xi_sub, xi_mul, xr_div, xr_rm, Int.toNat_natCast, bd_t, true_and, and_true, not_false_eq_true, ↓reduceIte, ilt_t, ilt_f, ile_t, x_c1i, x_c1r, x_c1n, and_self, Option.toList_some, Option.toList_none, List.cons_append, List.nil_append, xr_01, xr_00, ieq_f, ieq_t]
  refine wL_law_296 t0 (by simp) rfl rfl (k_revoke h hI x1 (fun w1 h1 fr => ?_))
  have hx1 := putR_keep hx fr
  have hp3 : x_tg w1 P.2.2 = none := by rw [fr.2.2.2.2.2 _ hb2]; exact hp2
  have tM : x_tg w1 mo = some (11, 29) := by rw [← hx1]; exact putR_tgM
  simp (disch := first | exact hR _ _ | exact x01a | exact x01b | (unfold x_r; omega) | assumption | omega) only [wL_law_299, wL_law_300, wL_law_301, wL_law_302, wL_law_303, wL_law_304 hp3 hP, e1, x_gi_int, x_ga_ref, x_ga_null, List.getElem?_cons_zero, List.getElem?_cons_succ, List.length_cons, List.length_nil, List.set_cons_zero, List.set_cons_succ, Nat.reduceAdd, Nat.reduceLT, xr_lt, xr_eq, xr_toInt, xr_0, xi_add, xi_sub, xi_mul, xr_div, xr_rm, Int.toNat_natCast, bd_t, true_and, and_true, not_false_eq_true, ↓reduceIte, ilt_t, ilt_f, ile_t, x_c1i, x_c1r, x_c1n, and_self, Option.toList_some, Option.toList_none, List.cons_append, List.nil_append, xr_01, xr_00, ieq_f, ieq_t]
  refine wL_law_305 tM (by simp) rfl rfl ?_
  rw [← hx1]
  refine m_revoke hI.gs x1 ?_
  simp only [Option.toList_some, List.cons_append, List.nil_append]
  rw [wL_law_308, if_pos rfl]
  exact step w1 A _ rfl h1 (fr.le (by omega)) hx1 (hI.revoke _) (revoke_28 S _)
set_option maxHeartbeats 4000000 in
theorem law_configure {N mo : Nat} {g : Nat → Int32} {i : Int} (hP : P.1 P.2.2 = some (N, g)) (hN : (N : Int) < 2147483648) (i0 : 0 ≤ i) (i5 : i + 5 ≤ (N : Int)) (h : Rel w A S (lid S)) (hI : Inv S) (hC : S 28 0 < 2000000000) (hx : putR w mo S = w) (hp2 : x_tg w P.2.2 = none) (hb2 : P.2.2 < x_sz w) (hp : x_tg w P.2.1 = none) {szF : Nat → Int32} (hSZ : P.1 P.2.1 = some (8, szF)) (hsz : ∀ k b : Int, 1 ≤ k → k ≤ 7 → szF k.toNat = xi (s_size k b))
    (step : ∀ w1 A' S', A' 12 0 = A 12 0 → Rel w1 A' S' (lid S') → Fr w w1 4 → putR w1 mo S = w1 → Inv S' → S' 28 0 ≤ S 28 0 + 1 → WP P 119 872 [some (.ref P.2.2), some (.ref (A 12 0)), some (.ref mo), some (.int (xi i))] [] (putR w1 mo S') Q) : WP P 119 313 [some (.ref P.2.2), some (.ref (A 12 0)), some (.ref mo), some (.int (xi i))] [] w Q := by
  have hR : RgS s_zero := RgS.zero
  have t0 : x_tg w (A 12 0) = some (0, 4) := h.tg (us_ker (i := 0) (by omega))
  obtain ⟨a1, e1, x1⟩ := xi_ex (g (i + 1).toNat)
  obtain ⟨a2, e2, x2⟩ := xi_ex (g (i + 2).toNat)
  obtain ⟨a3, e3, x3⟩ := xi_ex (g (i + 3).toNat)
  obtain ⟨a4, e4, x4⟩ := xi_ex (g (i + 4).toNat)
  simp (disch := first | exact hR _ _ | exact x01a | exact x01b | (unfold x_r; omega) | assumption | omega) only [wL_law_313, wL_law_314, wL_law_315, wL_law_316, wL_law_317, wL_law_319, wL_law_320, wL_law_321, wL_law_322, wL_law_324, wL_law_325, wL_law_326, wL_law_327, wL_law_329, wL_law_330, wL_law_331, wL_law_332, wL_law_318 hp2 hP, wL_law_323 hp2 hP, wL_law_328 hp2 hP, wL_law_333 hp2 hP, e1, e2, e3, e4, x_gi_int, x_ga_ref, x_ga_null, List.getElem?_cons_zero, List.getElem?_cons_succ, List.length_cons, List.length_nil, List.set_cons_zero, List.set_cons_succ, Nat.reduceAdd, Nat.reduceLT, xr_lt, xr_eq, xr_toInt, xr_0, xi_add, xi_sub, xi_mul, xr_div, xr_rm, Int.toNat_natCast, bd_t, true_and, and_true, not_false_eq_true, ↓reduceIte, ilt_t, ilt_f, ile_t, x_c1i, x_c1r, x_c1n, and_self, Option.toList_some, Option.toList_none, List.cons_append, List.nil_append, xr_01, xr_00, ieq_f, ieq_t]
  refine wL_law_334 t0 (by simp) rfl rfl (k_configure h hI x1 x2 x3 x4 (fun w1 h1 fr => ?_))
  have hx1 := putR_keep hx fr
  have hp3 : x_tg w1 P.2.2 = none := by rw [fr.2.2.2.2.2 _ hb2]; exact hp2
  have tM : x_tg w1 mo = some (11, 29) := by rw [← hx1]; exact putR_tgM
  simp (disch := first | exact hR _ _ | exact x01a | exact x01b | (unfold x_r; omega) | assumption | omega) only [wL_law_337, wL_law_338, wL_law_339, wL_law_340, wL_law_341, wL_law_343, wL_law_344, wL_law_345, wL_law_346, wL_law_348, wL_law_349, wL_law_350, wL_law_351, wL_law_353, wL_law_354, wL_law_355, wL_law_356, wL_law_342 hp3 hP, wL_law_347 hp3 hP, wL_law_352 hp3 hP, wL_law_357 hp3 hP, e1, e2, e3, e4, x_gi_int, x_ga_ref, x_ga_null, List.getElem?_cons_zero, List.getElem?_cons_succ, List.length_cons, List.length_nil, List.set_cons_zero, List.set_cons_succ, Nat.reduceAdd, Nat.reduceLT, xr_lt, xr_eq, xr_toInt, xr_0, xi_add, xi_sub, xi_mul, xr_div, xr_rm, Int.toNat_natCast, bd_t, true_and, and_true, not_false_eq_true, ↓reduceIte, ilt_t, ilt_f, ile_t, x_c1i, x_c1r, x_c1n, and_self, Option.toList_some, Option.toList_none, List.cons_append, List.nil_append, xr_01, xr_00, ieq_f, ieq_t]
  refine wL_law_358 tM (by simp) rfl rfl ?_
  rw [← hx1]
  have CL : 0 ≤ S 28 0 := hI.1.2.2.2.2.2.2.2.1.1
  refine m_configure hI.gs ⟨CL, hC⟩ x1 x2 x3 x4 ?_
  simp only [Option.toList_some, List.cons_append, List.nil_append]
  rw [wL_law_361, if_pos rfl]
  exact step w1 A _ rfl h1 (fr.le (by omega)) hx1 (hI.configure hC _ _ _ _) (configure_28 S _ _ _ _)
set_option maxHeartbeats 4000000 in
theorem law_run {N mo : Nat} {g : Nat → Int32} {i : Int} (hP : P.1 P.2.2 = some (N, g)) (hN : (N : Int) < 2147483648) (i0 : 0 ≤ i) (i5 : i + 5 ≤ (N : Int)) (h : Rel w A S (lid S)) (hI : Inv S) (hC : S 28 0 < 2000000000) (hx : putR w mo S = w) (hp2 : x_tg w P.2.2 = none) (hb2 : P.2.2 < x_sz w) (hp : x_tg w P.2.1 = none) {szF : Nat → Int32} (hSZ : P.1 P.2.1 = some (8, szF)) (hsz : ∀ k b : Int, 1 ≤ k → k ≤ 7 → szF k.toNat = xi (s_size k b))
    (step : ∀ w1 A' S', A' 12 0 = A 12 0 → Rel w1 A' S' (lid S') → Fr w w1 4 → putR w1 mo S = w1 → Inv S' → S' 28 0 ≤ S 28 0 + 1 → WP P 119 872 [some (.ref P.2.2), some (.ref (A 12 0)), some (.ref mo), some (.int (xi i))] [] (putR w1 mo S') Q) : WP P 119 366 [some (.ref P.2.2), some (.ref (A 12 0)), some (.ref mo), some (.int (xi i))] [] w Q := by
  have hR : RgS s_zero := RgS.zero
  have t0 : x_tg w (A 12 0) = some (0, 4) := h.tg (us_ker (i := 0) (by omega))
  obtain ⟨a1, e1, x1⟩ := xi_ex (g (i + 1).toNat)
  obtain ⟨a2, e2, x2⟩ := xi_ex (g (i + 2).toNat)
  by_cases c : a2 = 0
  · simp (disch := first | exact hR _ _ | exact x01a | exact x01b | (unfold x_r; omega) | assumption | omega) only [wL_law_366, wL_law_367, wL_law_368, wL_law_369, wL_law_370, wL_law_372, wL_law_373, wL_law_374, wL_law_375, wL_law_377, wL_law_380, wL_law_381, wL_law_384, wL_law_371 hp2 hP, wL_law_376 hp2 hP, e1, e2, c, x_gi_int, x_ga_ref, x_ga_null, List.getElem?_cons_zero, List.getElem?_cons_succ, List.length_cons, List.length_nil, List.set_cons_zero, List.set_cons_succ, Nat.reduceAdd, Nat.reduceLT, xr_lt, xr_eq, xr_toInt, xr_0, xi_add, xi_sub, xi_mul, xr_div, xr_rm, Int.toNat_natCast, bd_t, true_and, and_true, not_false_eq_true, ↓reduceIte, ilt_t, ilt_f, ile_t, x_c1i, x_c1r, x_c1n, and_self, Option.toList_some, Option.toList_none, List.cons_append, List.nil_append, xr_01, xr_00, ieq_f, ieq_t]
    refine wL_law_385 t0 (by simp) rfl rfl (k_run h hI x1 (Or.inl rfl) (fun w1 h1 fr => ?_))
    have hx1 := putR_keep hx fr
    have hp3 : x_tg w1 P.2.2 = none := by rw [fr.2.2.2.2.2 _ hb2]; exact hp2
    have tM : x_tg w1 mo = some (11, 29) := by rw [← hx1]; exact putR_tgM
    simp (disch := first | exact hR _ _ | exact x01a | exact x01b | (unfold x_r; omega) | assumption | omega) only [wL_law_388, wL_law_389, wL_law_390, wL_law_391, wL_law_392, wL_law_394, wL_law_395, wL_law_396, wL_law_397, wL_law_399, wL_law_402, wL_law_403, wL_law_406, wL_law_393 hp3 hP, wL_law_398 hp3 hP, e1, e2, c, x_gi_int, x_ga_ref, x_ga_null, List.getElem?_cons_zero, List.getElem?_cons_succ, List.length_cons, List.length_nil, List.set_cons_zero, List.set_cons_succ, Nat.reduceAdd, Nat.reduceLT, xr_lt, xr_eq, xr_toInt, xr_0, xi_add, xi_sub, xi_mul, xr_div, xr_rm, Int.toNat_natCast, bd_t, true_and, and_true, not_false_eq_true, ↓reduceIte, ilt_t, ilt_f, ile_t, x_c1i, x_c1r, x_c1n, and_self, Option.toList_some, Option.toList_none, List.cons_append, List.nil_append, xr_01, xr_00, ieq_f, ieq_t]
    refine wL_law_407 tM (by simp) rfl rfl ?_
    rw [← hx1]
    refine m_run hI.gs x1 (Or.inl rfl) ?_
    simp only [Option.toList_some, List.cons_append, List.nil_append]
    rw [wL_law_410, if_pos rfl]
    exact step w1 A _ rfl h1 (fr.le (by omega)) hx1 (hI.run hC _ _) (run_28 S _ _)
  · simp (disch := first | exact hR _ _ | exact x01a | exact x01b | (unfold x_r; omega) | assumption | omega) only [wL_law_366, wL_law_367, wL_law_368, wL_law_369, wL_law_370, wL_law_372, wL_law_373, wL_law_374, wL_law_375, wL_law_377, wL_law_380, wL_law_381, wL_law_384, wL_law_371 hp2 hP, wL_law_376 hp2 hP, e1, e2, c, x_gi_int, x_ga_ref, x_ga_null, List.getElem?_cons_zero, List.getElem?_cons_succ, List.length_cons, List.length_nil, List.set_cons_zero, List.set_cons_succ, Nat.reduceAdd, Nat.reduceLT, xr_lt, xr_eq, xr_toInt, xr_0, xi_add, xi_sub, xi_mul, xr_div, xr_rm, Int.toNat_natCast, bd_t, true_and, and_true, not_false_eq_true, ↓reduceIte, ilt_t, ilt_f, ile_t, x_c1i, x_c1r, x_c1n, and_self, Option.toList_some, Option.toList_none, List.cons_append, List.nil_append, xr_01, xr_00, ieq_f, ieq_t]
    refine wL_law_385 t0 (by simp) rfl rfl (k_run h hI x1 (Or.inr rfl) (fun w1 h1 fr => ?_))
    have hx1 := putR_keep hx fr
    have hp3 : x_tg w1 P.2.2 = none := by rw [fr.2.2.2.2.2 _ hb2]; exact hp2
    have tM : x_tg w1 mo = some (11, 29) := by rw [← hx1]; exact putR_tgM
    simp (disch := first | exact hR _ _ | exact x01a | exact x01b | (unfold x_r; omega) | assumption | omega) only [wL_law_388, wL_law_389, wL_law_390, wL_law_391, wL_law_392, wL_law_394, wL_law_395, wL_law_396, wL_law_397, wL_law_399, wL_law_402, wL_law_403, wL_law_406, wL_law_393 hp3 hP, wL_law_398 hp3 hP, e1, e2, c, x_gi_int, x_ga_ref, x_ga_null, List.getElem?_cons_zero, List.getElem?_cons_succ, List.length_cons, List.length_nil, List.set_cons_zero, List.set_cons_succ, Nat.reduceAdd, Nat.reduceLT, xr_lt, xr_eq, xr_toInt, xr_0, xi_add, xi_sub, xi_mul, xr_div, xr_rm, Int.toNat_natCast, bd_t, true_and, and_true, not_false_eq_true, ↓reduceIte, ilt_t, ilt_f, ile_t, x_c1i, x_c1r, x_c1n, and_self, Option.toList_some, Option.toList_none, List.cons_append, List.nil_append, xr_01, xr_00, ieq_f, ieq_t]
    refine wL_law_407 tM (by simp) rfl rfl ?_
    rw [← hx1]
    refine m_run hI.gs x1 (Or.inr rfl) ?_
    simp only [Option.toList_some, List.cons_append, List.nil_append]
    rw [wL_law_410, if_pos rfl]
    exact step w1 A _ rfl h1 (fr.le (by omega)) hx1 (hI.run hC _ _) (run_28 S _ _)
set_option maxHeartbeats 4000000 in
theorem law_send {N mo : Nat} {g : Nat → Int32} {i : Int} (hP : P.1 P.2.2 = some (N, g)) (hN : (N : Int) < 2147483648) (i0 : 0 ≤ i) (i5 : i + 5 ≤ (N : Int)) (h : Rel w A S (lid S)) (hI : Inv S) (hC : S 28 0 < 2000000000) (hx : putR w mo S = w) (hp2 : x_tg w P.2.2 = none) (hb2 : P.2.2 < x_sz w) (hp : x_tg w P.2.1 = none) {szF : Nat → Int32} (hSZ : P.1 P.2.1 = some (8, szF)) (hsz : ∀ k b : Int, 1 ≤ k → k ≤ 7 → szF k.toNat = xi (s_size k b))
    (step : ∀ w1 A' S', A' 12 0 = A 12 0 → Rel w1 A' S' (lid S') → Fr w w1 4 → putR w1 mo S = w1 → Inv S' → S' 28 0 ≤ S 28 0 + 1 → WP P 119 872 [some (.ref P.2.2), some (.ref (A 12 0)), some (.ref mo), some (.int (xi i))] [] (putR w1 mo S') Q) : WP P 119 415 [some (.ref P.2.2), some (.ref (A 12 0)), some (.ref mo), some (.int (xi i))] [] w Q := by
  have hR : RgS s_zero := RgS.zero
  have t0 : x_tg w (A 12 0) = some (0, 4) := h.tg (us_ker (i := 0) (by omega))
  obtain ⟨a1, e1, x1⟩ := xi_ex (g (i + 1).toNat)
  obtain ⟨a2, e2, x2⟩ := xi_ex (g (i + 2).toNat)
  obtain ⟨a3, e3, x3⟩ := xi_ex (g (i + 3).toNat)
  obtain ⟨a4, e4, x4⟩ := xi_ex (g (i + 4).toNat)
  by_cases c : a4 = 0
  · simp (disch := first | exact hR _ _ | exact x01a | exact x01b | (unfold x_r; omega) | assumption | omega) only [wL_law_415, wL_law_416, wL_law_417, wL_law_418, wL_law_419, wL_law_421, wL_law_422, wL_law_423, wL_law_424, wL_law_426, wL_law_427, wL_law_428, wL_law_429, wL_law_431, wL_law_432, wL_law_433, wL_law_434, wL_law_436, wL_law_439, wL_law_440, wL_law_443, wL_law_420 hp2 hP, wL_law_425 hp2 hP, wL_law_430 hp2 hP, wL_law_435 hp2 hP, e1, e2, e3, e4, c, x_gi_int, x_ga_ref, x_ga_null, List.getElem?_cons_zero, List.getElem?_cons_succ, List.length_cons, List.length_nil, List.set_cons_zero, List.set_cons_succ, Nat.reduceAdd, Nat.reduceLT, xr_lt, xr_eq, xr_toInt, xr_0, xi_add, xi_sub, xi_mul, xr_div, xr_rm, Int.toNat_natCast, bd_t, true_and, and_true, not_false_eq_true, ↓reduceIte, ilt_t, ilt_f, ile_t, x_c1i, x_c1r, x_c1n, and_self, Option.toList_some, Option.toList_none, List.cons_append, List.nil_append, xr_01, xr_00, ieq_f, ieq_t]
    refine wL_law_444 t0 (by simp) rfl rfl (k_send h hI hC x1 x2 x3 (Or.inl rfl) (fun w1 A' eA h1 fr => ?_))
    have hx1 := putR_keep hx fr
    have hp3 : x_tg w1 P.2.2 = none := by rw [fr.2.2.2.2.2 _ hb2]; exact hp2
    have tM : x_tg w1 mo = some (11, 29) := by rw [← hx1]; exact putR_tgM
    simp (disch := first | exact hR _ _ | exact x01a | exact x01b | (unfold x_r; omega) | assumption | omega) only [wL_law_447, wL_law_448, wL_law_449, wL_law_450, wL_law_451, wL_law_453, wL_law_454, wL_law_455, wL_law_456, wL_law_458, wL_law_459, wL_law_460, wL_law_461, wL_law_463, wL_law_464, wL_law_465, wL_law_466, wL_law_468, wL_law_471, wL_law_472, wL_law_475, wL_law_452 hp3 hP, wL_law_457 hp3 hP, wL_law_462 hp3 hP, wL_law_467 hp3 hP, e1, e2, e3, e4, c, x_gi_int, x_ga_ref, x_ga_null, List.getElem?_cons_zero, List.getElem?_cons_succ, List.length_cons, List.length_nil, List.set_cons_zero, List.set_cons_succ, Nat.reduceAdd, Nat.reduceLT, xr_lt, xr_eq, xr_toInt, xr_0, xi_add, xi_sub, xi_mul, xr_div, xr_rm, Int.toNat_natCast, bd_t, true_and, and_true, not_false_eq_true, ↓reduceIte, ilt_t, ilt_f, ile_t, x_c1i, x_c1r, x_c1n, and_self, Option.toList_some, Option.toList_none, List.cons_append, List.nil_append, xr_01, xr_00, ieq_f, ieq_t]
    refine wL_law_476 tM (by simp) rfl rfl ?_
    rw [← hx1]
    refine m_send hI.gs x1 x2 x3 (Or.inl rfl) ?_
    simp only [Option.toList_some, List.cons_append, List.nil_append]
    rw [wL_law_479, if_pos rfl]
    exact step w1 A' _ eA h1 fr hx1 (hI.send hC x2 x3) (send_28 S _ _ _ _)
  · simp (disch := first | exact hR _ _ | exact x01a | exact x01b | (unfold x_r; omega) | assumption | omega) only [wL_law_415, wL_law_416, wL_law_417, wL_law_418, wL_law_419, wL_law_421, wL_law_422, wL_law_423, wL_law_424, wL_law_426, wL_law_427, wL_law_428, wL_law_429, wL_law_431, wL_law_432, wL_law_433, wL_law_434, wL_law_436, wL_law_439, wL_law_440, wL_law_443, wL_law_420 hp2 hP, wL_law_425 hp2 hP, wL_law_430 hp2 hP, wL_law_435 hp2 hP, e1, e2, e3, e4, c, x_gi_int, x_ga_ref, x_ga_null, List.getElem?_cons_zero, List.getElem?_cons_succ, List.length_cons, List.length_nil, List.set_cons_zero, List.set_cons_succ, Nat.reduceAdd, Nat.reduceLT, xr_lt, xr_eq, xr_toInt, xr_0, xi_add, xi_sub, xi_mul, xr_div, xr_rm, Int.toNat_natCast, bd_t, true_and, and_true, not_false_eq_true, ↓reduceIte, ilt_t, ilt_f, ile_t, x_c1i, x_c1r, x_c1n, and_self, Option.toList_some, Option.toList_none, List.cons_append, List.nil_append, xr_01, xr_00, ieq_f, ieq_t]
    refine wL_law_444 t0 (by simp) rfl rfl (k_send h hI hC x1 x2 x3 (Or.inr rfl) (fun w1 A' eA h1 fr => ?_))
    have hx1 := putR_keep hx fr
    have hp3 : x_tg w1 P.2.2 = none := by rw [fr.2.2.2.2.2 _ hb2]; exact hp2
    have tM : x_tg w1 mo = some (11, 29) := by rw [← hx1]; exact putR_tgM
    simp (disch := first | exact hR _ _ | exact x01a | exact x01b | (unfold x_r; omega) | assumption | omega) only [wL_law_447, wL_law_448, wL_law_449, wL_law_450, wL_law_451, wL_law_453, wL_law_454, wL_law_455, wL_law_456, wL_law_458, wL_law_459, wL_law_460, wL_law_461, wL_law_463, wL_law_464, wL_law_465, wL_law_466, wL_law_468, wL_law_471, wL_law_472, wL_law_475, wL_law_452 hp3 hP, wL_law_457 hp3 hP, wL_law_462 hp3 hP, wL_law_467 hp3 hP, e1, e2, e3, e4, c, x_gi_int, x_ga_ref, x_ga_null, List.getElem?_cons_zero, List.getElem?_cons_succ, List.length_cons, List.length_nil, List.set_cons_zero, List.set_cons_succ, Nat.reduceAdd, Nat.reduceLT, xr_lt, xr_eq, xr_toInt, xr_0, xi_add, xi_sub, xi_mul, xr_div, xr_rm, Int.toNat_natCast, bd_t, true_and, and_true, not_false_eq_true, ↓reduceIte, ilt_t, ilt_f, ile_t, x_c1i, x_c1r, x_c1n, and_self, Option.toList_some, Option.toList_none, List.cons_append, List.nil_append, xr_01, xr_00, ieq_f, ieq_t]
    refine wL_law_476 tM (by simp) rfl rfl ?_
    rw [← hx1]
    refine m_send hI.gs x1 x2 x3 (Or.inr rfl) ?_
    simp only [Option.toList_some, List.cons_append, List.nil_append]
    rw [wL_law_479, if_pos rfl]
    exact step w1 A' _ eA h1 fr hx1 (hI.send hC x2 x3) (send_28 S _ _ _ _)
set_option maxHeartbeats 4000000 in
theorem law_receive {N mo : Nat} {g : Nat → Int32} {i : Int} (hP : P.1 P.2.2 = some (N, g)) (hN : (N : Int) < 2147483648) (i0 : 0 ≤ i) (i5 : i + 5 ≤ (N : Int)) (h : Rel w A S (lid S)) (hI : Inv S) (hC : S 28 0 < 2000000000) (hx : putR w mo S = w) (hp2 : x_tg w P.2.2 = none) (hb2 : P.2.2 < x_sz w) (hp : x_tg w P.2.1 = none) {szF : Nat → Int32} (hSZ : P.1 P.2.1 = some (8, szF)) (hsz : ∀ k b : Int, 1 ≤ k → k ≤ 7 → szF k.toNat = xi (s_size k b))
    (step : ∀ w1 A' S', A' 12 0 = A 12 0 → Rel w1 A' S' (lid S') → Fr w w1 4 → putR w1 mo S = w1 → Inv S' → S' 28 0 ≤ S 28 0 + 1 → WP P 119 872 [some (.ref P.2.2), some (.ref (A 12 0)), some (.ref mo), some (.int (xi i))] [] (putR w1 mo S') Q) : WP P 119 484 [some (.ref P.2.2), some (.ref (A 12 0)), some (.ref mo), some (.int (xi i))] [] w Q := by
  have hR : RgS s_zero := RgS.zero
  have t0 : x_tg w (A 12 0) = some (0, 4) := h.tg (us_ker (i := 0) (by omega))
  obtain ⟨a1, e1, x1⟩ := xi_ex (g (i + 1).toNat)
  obtain ⟨a2, e2, x2⟩ := xi_ex (g (i + 2).toNat)
  obtain ⟨a3, e3, x3⟩ := xi_ex (g (i + 3).toNat)
  by_cases c : a3 = 0
  · simp (disch := first | exact hR _ _ | exact x01a | exact x01b | (unfold x_r; omega) | assumption | omega) only [wL_law_484, wL_law_485, wL_law_486, wL_law_487, wL_law_488, wL_law_490, wL_law_491, wL_law_492, wL_law_493, wL_law_495, wL_law_496, wL_law_497, wL_law_498, wL_law_500, wL_law_503, wL_law_504, wL_law_507, wL_law_489 hp2 hP, wL_law_494 hp2 hP, wL_law_499 hp2 hP, e1, e2, e3, c, x_gi_int, x_ga_ref, x_ga_null, List.getElem?_cons_zero, List.getElem?_cons_succ, List.length_cons, List.length_nil, List.set_cons_zero, List.set_cons_succ, Nat.reduceAdd, Nat.reduceLT, xr_lt, xr_eq, xr_toInt, xr_0, xi_add, xi_sub, xi_mul, xr_div, xr_rm, Int.toNat_natCast, bd_t, true_and, and_true, not_false_eq_true, ↓reduceIte, ilt_t, ilt_f, ile_t, x_c1i, x_c1r, x_c1n, and_self, Option.toList_some, Option.toList_none, List.cons_append, List.nil_append, xr_01, xr_00, ieq_f, ieq_t]
    refine wL_law_508 t0 (by simp) rfl rfl (k_receive h hI hC x1 x2 (Or.inl rfl) (fun w1 A' eA h1 fr => ?_))
    have hx1 := putR_keep hx fr
    have hp3 : x_tg w1 P.2.2 = none := by rw [fr.2.2.2.2.2 _ hb2]; exact hp2
    have tM : x_tg w1 mo = some (11, 29) := by rw [← hx1]; exact putR_tgM
    simp (disch := first | exact hR _ _ | exact x01a | exact x01b | (unfold x_r; omega) | assumption | omega) only [wL_law_511, wL_law_512, wL_law_513, wL_law_514, wL_law_515, wL_law_517, wL_law_518, wL_law_519, wL_law_520, wL_law_522, wL_law_523, wL_law_524, wL_law_525, wL_law_527, wL_law_530, wL_law_531, wL_law_534, wL_law_516 hp3 hP, wL_law_521 hp3 hP, wL_law_526 hp3 hP, e1, e2, e3, c, x_gi_int, x_ga_ref, x_ga_null, List.getElem?_cons_zero, List.getElem?_cons_succ, List.length_cons, List.length_nil, List.set_cons_zero, List.set_cons_succ, Nat.reduceAdd, Nat.reduceLT, xr_lt, xr_eq, xr_toInt, xr_0, xi_add, xi_sub, xi_mul, xr_div, xr_rm, Int.toNat_natCast, bd_t, true_and, and_true, not_false_eq_true, ↓reduceIte, ilt_t, ilt_f, ile_t, x_c1i, x_c1r, x_c1n, and_self, Option.toList_some, Option.toList_none, List.cons_append, List.nil_append, xr_01, xr_00, ieq_f, ieq_t]
    refine wL_law_535 tM (by simp) rfl rfl ?_
    rw [← hx1]
    refine m_receive hI.gs x1 x2 (Or.inl rfl) ?_
    simp only [Option.toList_some, List.cons_append, List.nil_append]
    rw [wL_law_538, if_pos rfl]
    exact step w1 A' _ eA h1 fr hx1 (hI.receive hC x2) (receive_28 S _ _ _)
  · simp (disch := first | exact hR _ _ | exact x01a | exact x01b | (unfold x_r; omega) | assumption | omega) only [wL_law_484, wL_law_485, wL_law_486, wL_law_487, wL_law_488, wL_law_490, wL_law_491, wL_law_492, wL_law_493, wL_law_495, wL_law_496, wL_law_497, wL_law_498, wL_law_500, wL_law_503, wL_law_504, wL_law_507, wL_law_489 hp2 hP, wL_law_494 hp2 hP, wL_law_499 hp2 hP, e1, e2, e3, c, x_gi_int, x_ga_ref, x_ga_null, List.getElem?_cons_zero, List.getElem?_cons_succ, List.length_cons, List.length_nil, List.set_cons_zero, List.set_cons_succ, Nat.reduceAdd, Nat.reduceLT, xr_lt, xr_eq, xr_toInt, xr_0, xi_add, xi_sub, xi_mul, xr_div, xr_rm, Int.toNat_natCast, bd_t, true_and, and_true, not_false_eq_true, ↓reduceIte, ilt_t, ilt_f, ile_t, x_c1i, x_c1r, x_c1n, and_self, Option.toList_some, Option.toList_none, List.cons_append, List.nil_append, xr_01, xr_00, ieq_f, ieq_t]
    refine wL_law_508 t0 (by simp) rfl rfl (k_receive h hI hC x1 x2 (Or.inr rfl) (fun w1 A' eA h1 fr => ?_))
    have hx1 := putR_keep hx fr
    have hp3 : x_tg w1 P.2.2 = none := by rw [fr.2.2.2.2.2 _ hb2]; exact hp2
    have tM : x_tg w1 mo = some (11, 29) := by rw [← hx1]; exact putR_tgM
    simp (disch := first | exact hR _ _ | exact x01a | exact x01b | (unfold x_r; omega) | assumption | omega) only [wL_law_511, wL_law_512, wL_law_513, wL_law_514, wL_law_515, wL_law_517, wL_law_518, wL_law_519, wL_law_520, wL_law_522, wL_law_523, wL_law_524, wL_law_525, wL_law_527, wL_law_530, wL_law_531, wL_law_534, wL_law_516 hp3 hP, wL_law_521 hp3 hP, wL_law_526 hp3 hP, e1, e2, e3, c, x_gi_int, x_ga_ref, x_ga_null, List.getElem?_cons_zero, List.getElem?_cons_succ, List.length_cons, List.length_nil, List.set_cons_zero, List.set_cons_succ, Nat.reduceAdd, Nat.reduceLT, xr_lt, xr_eq, xr_toInt, xr_0, xi_add, xi_sub, xi_mul, xr_div, xr_rm, Int.toNat_natCast, bd_t, true_and, and_true, not_false_eq_true, ↓reduceIte, ilt_t, ilt_f, ile_t, x_c1i, x_c1r, x_c1n, and_self, Option.toList_some, Option.toList_none, List.cons_append, List.nil_append, xr_01, xr_00, ieq_f, ieq_t]
    refine wL_law_535 tM (by simp) rfl rfl ?_
    rw [← hx1]
    refine m_receive hI.gs x1 x2 (Or.inr rfl) ?_
    simp only [Option.toList_some, List.cons_append, List.nil_append]
    rw [wL_law_538, if_pos rfl]
    exact step w1 A' _ eA h1 fr hx1 (hI.receive hC x2) (receive_28 S _ _ _)
set_option maxHeartbeats 4000000 in
theorem law_signal {N mo : Nat} {g : Nat → Int32} {i : Int} (hP : P.1 P.2.2 = some (N, g)) (hN : (N : Int) < 2147483648) (i0 : 0 ≤ i) (i5 : i + 5 ≤ (N : Int)) (h : Rel w A S (lid S)) (hI : Inv S) (hC : S 28 0 < 2000000000) (hx : putR w mo S = w) (hp2 : x_tg w P.2.2 = none) (hb2 : P.2.2 < x_sz w) (hp : x_tg w P.2.1 = none) {szF : Nat → Int32} (hSZ : P.1 P.2.1 = some (8, szF)) (hsz : ∀ k b : Int, 1 ≤ k → k ≤ 7 → szF k.toNat = xi (s_size k b))
    (step : ∀ w1 A' S', A' 12 0 = A 12 0 → Rel w1 A' S' (lid S') → Fr w w1 4 → putR w1 mo S = w1 → Inv S' → S' 28 0 ≤ S 28 0 + 1 → WP P 119 872 [some (.ref P.2.2), some (.ref (A 12 0)), some (.ref mo), some (.int (xi i))] [] (putR w1 mo S') Q) : WP P 119 543 [some (.ref P.2.2), some (.ref (A 12 0)), some (.ref mo), some (.int (xi i))] [] w Q := by
  have hR : RgS s_zero := RgS.zero
  have t0 : x_tg w (A 12 0) = some (0, 4) := h.tg (us_ker (i := 0) (by omega))
  obtain ⟨a1, e1, x1⟩ := xi_ex (g (i + 1).toNat)
  simp (disch := first | exact hR _ _ | exact x01a | exact x01b | (unfold x_r; omega) | assumption | omega) only [wL_law_543, wL_law_544, wL_law_545, wL_law_546, wL_law_547, wL_law_548 hp2 hP, e1, x_gi_int, x_ga_ref, x_ga_null, List.getElem?_cons_zero, List.getElem?_cons_succ, List.length_cons, List.length_nil, List.set_cons_zero, List.set_cons_succ, Nat.reduceAdd, Nat.reduceLT, xr_lt, xr_eq, xr_toInt, xr_0, xi_add, xi_sub, xi_mul, xr_div, xr_rm, Int.toNat_natCast, bd_t, true_and, and_true, not_false_eq_true, ↓reduceIte, ilt_t, ilt_f, ile_t, x_c1i, x_c1r, x_c1n, and_self, Option.toList_some, Option.toList_none, List.cons_append, List.nil_append, xr_01, xr_00, ieq_f, ieq_t]
  refine wL_law_549 t0 (by simp) rfl rfl (k_signal h hI x1 (fun w1 h1 fr => ?_))
  have hx1 := putR_keep hx fr
  have hp3 : x_tg w1 P.2.2 = none := by rw [fr.2.2.2.2.2 _ hb2]; exact hp2
  have tM : x_tg w1 mo = some (11, 29) := by rw [← hx1]; exact putR_tgM
  simp (disch := first | exact hR _ _ | exact x01a | exact x01b | (unfold x_r; omega) | assumption | omega) only [wL_law_552, wL_law_553, wL_law_554, wL_law_555, wL_law_556, wL_law_557 hp3 hP, e1, x_gi_int, x_ga_ref, x_ga_null, List.getElem?_cons_zero, List.getElem?_cons_succ, List.length_cons, List.length_nil, List.set_cons_zero, List.set_cons_succ, Nat.reduceAdd, Nat.reduceLT, xr_lt, xr_eq, xr_toInt, xr_0, xi_add, xi_sub, xi_mul, xr_div, xr_rm, Int.toNat_natCast, bd_t, true_and, and_true, not_false_eq_true, ↓reduceIte, ilt_t, ilt_f, ile_t, x_c1i, x_c1r, x_c1n, and_self, Option.toList_some, Option.toList_none, List.cons_append, List.nil_append, xr_01, xr_00, ieq_f, ieq_t]
  refine wL_law_558 tM (by simp) rfl rfl ?_
  rw [← hx1]
  refine m_signal hI.gs x1 ?_
  simp only [Option.toList_some, List.cons_append, List.nil_append]
  rw [wL_law_561, if_pos rfl]
  exact step w1 A _ rfl h1 (fr.le (by omega)) hx1 (hI.signal hC _) (signal_28 S _)
set_option maxHeartbeats 4000000 in
theorem law_listen {N mo : Nat} {g : Nat → Int32} {i : Int} (hP : P.1 P.2.2 = some (N, g)) (hN : (N : Int) < 2147483648) (i0 : 0 ≤ i) (i5 : i + 5 ≤ (N : Int)) (h : Rel w A S (lid S)) (hI : Inv S) (hC : S 28 0 < 2000000000) (hx : putR w mo S = w) (hp2 : x_tg w P.2.2 = none) (hb2 : P.2.2 < x_sz w) (hp : x_tg w P.2.1 = none) {szF : Nat → Int32} (hSZ : P.1 P.2.1 = some (8, szF)) (hsz : ∀ k b : Int, 1 ≤ k → k ≤ 7 → szF k.toNat = xi (s_size k b))
    (step : ∀ w1 A' S', A' 12 0 = A 12 0 → Rel w1 A' S' (lid S') → Fr w w1 4 → putR w1 mo S = w1 → Inv S' → S' 28 0 ≤ S 28 0 + 1 → WP P 119 872 [some (.ref P.2.2), some (.ref (A 12 0)), some (.ref mo), some (.int (xi i))] [] (putR w1 mo S') Q) : WP P 119 566 [some (.ref P.2.2), some (.ref (A 12 0)), some (.ref mo), some (.int (xi i))] [] w Q := by
  have hR : RgS s_zero := RgS.zero
  have t0 : x_tg w (A 12 0) = some (0, 4) := h.tg (us_ker (i := 0) (by omega))
  obtain ⟨a1, e1, x1⟩ := xi_ex (g (i + 1).toNat)
  obtain ⟨a2, e2, x2⟩ := xi_ex (g (i + 2).toNat)
  by_cases c : a2 = 0
  · simp (disch := first | exact hR _ _ | exact x01a | exact x01b | (unfold x_r; omega) | assumption | omega) only [wL_law_566, wL_law_567, wL_law_568, wL_law_569, wL_law_570, wL_law_572, wL_law_573, wL_law_574, wL_law_575, wL_law_577, wL_law_580, wL_law_581, wL_law_584, wL_law_571 hp2 hP, wL_law_576 hp2 hP, e1, e2, c, x_gi_int, x_ga_ref, x_ga_null, List.getElem?_cons_zero, List.getElem?_cons_succ, List.length_cons, List.length_nil, List.set_cons_zero, List.set_cons_succ, Nat.reduceAdd, Nat.reduceLT, xr_lt, xr_eq, xr_toInt, xr_0, xi_add, xi_sub, xi_mul, xr_div, xr_rm, Int.toNat_natCast, bd_t, true_and, and_true, not_false_eq_true, ↓reduceIte, ilt_t, ilt_f, ile_t, x_c1i, x_c1r, x_c1n, and_self, Option.toList_some, Option.toList_none, List.cons_append, List.nil_append, xr_01, xr_00, ieq_f, ieq_t]
    refine wL_law_585 t0 (by simp) rfl rfl (k_listen h hI x1 (Or.inl rfl) (fun w1 h1 fr => ?_))
    have hx1 := putR_keep hx fr
    have hp3 : x_tg w1 P.2.2 = none := by rw [fr.2.2.2.2.2 _ hb2]; exact hp2
    have tM : x_tg w1 mo = some (11, 29) := by rw [← hx1]; exact putR_tgM
    simp (disch := first | exact hR _ _ | exact x01a | exact x01b | (unfold x_r; omega) | assumption | omega) only [wL_law_588, wL_law_589, wL_law_590, wL_law_591, wL_law_592, wL_law_594, wL_law_595, wL_law_596, wL_law_597, wL_law_599, wL_law_602, wL_law_603, wL_law_606, wL_law_593 hp3 hP, wL_law_598 hp3 hP, e1, e2, c, x_gi_int, x_ga_ref, x_ga_null, List.getElem?_cons_zero, List.getElem?_cons_succ, List.length_cons, List.length_nil, List.set_cons_zero, List.set_cons_succ, Nat.reduceAdd, Nat.reduceLT, xr_lt, xr_eq, xr_toInt, xr_0, xi_add, xi_sub, xi_mul, xr_div, xr_rm, Int.toNat_natCast, bd_t, true_and, and_true, not_false_eq_true, ↓reduceIte, ilt_t, ilt_f, ile_t, x_c1i, x_c1r, x_c1n, and_self, Option.toList_some, Option.toList_none, List.cons_append, List.nil_append, xr_01, xr_00, ieq_f, ieq_t]
    refine wL_law_607 tM (by simp) rfl rfl ?_
    rw [← hx1]
    refine m_listen hI.gs x1 (Or.inl rfl) ?_
    simp only [Option.toList_some, List.cons_append, List.nil_append]
    rw [wL_law_610, if_pos rfl]
    exact step w1 A _ rfl h1 (fr.le (by omega)) hx1 (hI.listen hC _ _) (listen_28 S _ _)
  · simp (disch := first | exact hR _ _ | exact x01a | exact x01b | (unfold x_r; omega) | assumption | omega) only [wL_law_566, wL_law_567, wL_law_568, wL_law_569, wL_law_570, wL_law_572, wL_law_573, wL_law_574, wL_law_575, wL_law_577, wL_law_580, wL_law_581, wL_law_584, wL_law_571 hp2 hP, wL_law_576 hp2 hP, e1, e2, c, x_gi_int, x_ga_ref, x_ga_null, List.getElem?_cons_zero, List.getElem?_cons_succ, List.length_cons, List.length_nil, List.set_cons_zero, List.set_cons_succ, Nat.reduceAdd, Nat.reduceLT, xr_lt, xr_eq, xr_toInt, xr_0, xi_add, xi_sub, xi_mul, xr_div, xr_rm, Int.toNat_natCast, bd_t, true_and, and_true, not_false_eq_true, ↓reduceIte, ilt_t, ilt_f, ile_t, x_c1i, x_c1r, x_c1n, and_self, Option.toList_some, Option.toList_none, List.cons_append, List.nil_append, xr_01, xr_00, ieq_f, ieq_t]
    refine wL_law_585 t0 (by simp) rfl rfl (k_listen h hI x1 (Or.inr rfl) (fun w1 h1 fr => ?_))
    have hx1 := putR_keep hx fr
    have hp3 : x_tg w1 P.2.2 = none := by rw [fr.2.2.2.2.2 _ hb2]; exact hp2
    have tM : x_tg w1 mo = some (11, 29) := by rw [← hx1]; exact putR_tgM
    simp (disch := first | exact hR _ _ | exact x01a | exact x01b | (unfold x_r; omega) | assumption | omega) only [wL_law_588, wL_law_589, wL_law_590, wL_law_591, wL_law_592, wL_law_594, wL_law_595, wL_law_596, wL_law_597, wL_law_599, wL_law_602, wL_law_603, wL_law_606, wL_law_593 hp3 hP, wL_law_598 hp3 hP, e1, e2, c, x_gi_int, x_ga_ref, x_ga_null, List.getElem?_cons_zero, List.getElem?_cons_succ, List.length_cons, List.length_nil, List.set_cons_zero, List.set_cons_succ, Nat.reduceAdd, Nat.reduceLT, xr_lt, xr_eq, xr_toInt, xr_0, xi_add, xi_sub, xi_mul, xr_div, xr_rm, Int.toNat_natCast, bd_t, true_and, and_true, not_false_eq_true, ↓reduceIte, ilt_t, ilt_f, ile_t, x_c1i, x_c1r, x_c1n, and_self, Option.toList_some, Option.toList_none, List.cons_append, List.nil_append, xr_01, xr_00, ieq_f, ieq_t]
    refine wL_law_607 tM (by simp) rfl rfl ?_
    rw [← hx1]
    refine m_listen hI.gs x1 (Or.inr rfl) ?_
    simp only [Option.toList_some, List.cons_append, List.nil_append]
    rw [wL_law_610, if_pos rfl]
    exact step w1 A _ rfl h1 (fr.le (by omega)) hx1 (hI.listen hC _ _) (listen_28 S _ _)
set_option maxHeartbeats 4000000 in
theorem law_map {N mo : Nat} {g : Nat → Int32} {i : Int} (hP : P.1 P.2.2 = some (N, g)) (hN : (N : Int) < 2147483648) (i0 : 0 ≤ i) (i5 : i + 5 ≤ (N : Int)) (h : Rel w A S (lid S)) (hI : Inv S) (hC : S 28 0 < 2000000000) (hx : putR w mo S = w) (hp2 : x_tg w P.2.2 = none) (hb2 : P.2.2 < x_sz w) (hp : x_tg w P.2.1 = none) {szF : Nat → Int32} (hSZ : P.1 P.2.1 = some (8, szF)) (hsz : ∀ k b : Int, 1 ≤ k → k ≤ 7 → szF k.toNat = xi (s_size k b))
    (step : ∀ w1 A' S', A' 12 0 = A 12 0 → Rel w1 A' S' (lid S') → Fr w w1 4 → putR w1 mo S = w1 → Inv S' → S' 28 0 ≤ S 28 0 + 1 → WP P 119 872 [some (.ref P.2.2), some (.ref (A 12 0)), some (.ref mo), some (.int (xi i))] [] (putR w1 mo S') Q) : WP P 119 615 [some (.ref P.2.2), some (.ref (A 12 0)), some (.ref mo), some (.int (xi i))] [] w Q := by
  have hR : RgS s_zero := RgS.zero
  have t0 : x_tg w (A 12 0) = some (0, 4) := h.tg (us_ker (i := 0) (by omega))
  obtain ⟨a1, e1, x1⟩ := xi_ex (g (i + 1).toNat)
  obtain ⟨a2, e2, x2⟩ := xi_ex (g (i + 2).toNat)
  obtain ⟨a3, e3, x3⟩ := xi_ex (g (i + 3).toNat)
  simp (disch := first | exact hR _ _ | exact x01a | exact x01b | (unfold x_r; omega) | assumption | omega) only [wL_law_615, wL_law_616, wL_law_617, wL_law_618, wL_law_619, wL_law_621, wL_law_622, wL_law_623, wL_law_624, wL_law_626, wL_law_627, wL_law_628, wL_law_629, wL_law_620 hp2 hP, wL_law_625 hp2 hP, wL_law_630 hp2 hP, e1, e2, e3, x_gi_int, x_ga_ref, x_ga_null, List.getElem?_cons_zero, List.getElem?_cons_succ, List.length_cons, List.length_nil, List.set_cons_zero, List.set_cons_succ, Nat.reduceAdd, Nat.reduceLT, xr_lt, xr_eq, xr_toInt, xr_0, xi_add, xi_sub, xi_mul, xr_div, xr_rm, Int.toNat_natCast, bd_t, true_and, and_true, not_false_eq_true, ↓reduceIte, ilt_t, ilt_f, ile_t, x_c1i, x_c1r, x_c1n, and_self, Option.toList_some, Option.toList_none, List.cons_append, List.nil_append, xr_01, xr_00, ieq_f, ieq_t]
  refine wL_law_631 t0 (by simp) rfl rfl (k_map h hI x1 x2 x3 (fun w1 h1 fr => ?_))
  have hx1 := putR_keep hx fr
  have hp3 : x_tg w1 P.2.2 = none := by rw [fr.2.2.2.2.2 _ hb2]; exact hp2
  have tM : x_tg w1 mo = some (11, 29) := by rw [← hx1]; exact putR_tgM
  simp (disch := first | exact hR _ _ | exact x01a | exact x01b | (unfold x_r; omega) | assumption | omega) only [wL_law_634, wL_law_635, wL_law_636, wL_law_637, wL_law_638, wL_law_640, wL_law_641, wL_law_642, wL_law_643, wL_law_645, wL_law_646, wL_law_647, wL_law_648, wL_law_639 hp3 hP, wL_law_644 hp3 hP, wL_law_649 hp3 hP, e1, e2, e3, x_gi_int, x_ga_ref, x_ga_null, List.getElem?_cons_zero, List.getElem?_cons_succ, List.length_cons, List.length_nil, List.set_cons_zero, List.set_cons_succ, Nat.reduceAdd, Nat.reduceLT, xr_lt, xr_eq, xr_toInt, xr_0, xi_add, xi_sub, xi_mul, xr_div, xr_rm, Int.toNat_natCast, bd_t, true_and, and_true, not_false_eq_true, ↓reduceIte, ilt_t, ilt_f, ile_t, x_c1i, x_c1r, x_c1n, and_self, Option.toList_some, Option.toList_none, List.cons_append, List.nil_append, xr_01, xr_00, ieq_f, ieq_t]
  refine wL_law_650 tM (by simp) rfl rfl ?_
  rw [← hx1]
  refine m_map hI.gs x1 x2 x3 ?_
  simp only [Option.toList_some, List.cons_append, List.nil_append]
  rw [wL_law_653, if_pos rfl]
  exact step w1 A _ rfl h1 (fr.le (by omega)) hx1 (hI.map _ _ _) (map_28 S _ _ _)
set_option maxHeartbeats 4000000 in
theorem law_unmap {N mo : Nat} {g : Nat → Int32} {i : Int} (hP : P.1 P.2.2 = some (N, g)) (hN : (N : Int) < 2147483648) (i0 : 0 ≤ i) (i5 : i + 5 ≤ (N : Int)) (h : Rel w A S (lid S)) (hI : Inv S) (hC : S 28 0 < 2000000000) (hx : putR w mo S = w) (hp2 : x_tg w P.2.2 = none) (hb2 : P.2.2 < x_sz w) (hp : x_tg w P.2.1 = none) {szF : Nat → Int32} (hSZ : P.1 P.2.1 = some (8, szF)) (hsz : ∀ k b : Int, 1 ≤ k → k ≤ 7 → szF k.toNat = xi (s_size k b))
    (step : ∀ w1 A' S', A' 12 0 = A 12 0 → Rel w1 A' S' (lid S') → Fr w w1 4 → putR w1 mo S = w1 → Inv S' → S' 28 0 ≤ S 28 0 + 1 → WP P 119 872 [some (.ref P.2.2), some (.ref (A 12 0)), some (.ref mo), some (.int (xi i))] [] (putR w1 mo S') Q) : WP P 119 658 [some (.ref P.2.2), some (.ref (A 12 0)), some (.ref mo), some (.int (xi i))] [] w Q := by
  have hR : RgS s_zero := RgS.zero
  have t0 : x_tg w (A 12 0) = some (0, 4) := h.tg (us_ker (i := 0) (by omega))
  obtain ⟨a1, e1, x1⟩ := xi_ex (g (i + 1).toNat)
  simp (disch := first | exact hR _ _ | exact x01a | exact x01b | (unfold x_r; omega) | assumption | omega) only [wL_law_658, wL_law_659, wL_law_660, wL_law_661, wL_law_662, wL_law_663 hp2 hP, e1, x_gi_int, x_ga_ref, x_ga_null, List.getElem?_cons_zero, List.getElem?_cons_succ, List.length_cons, List.length_nil, List.set_cons_zero, List.set_cons_succ, Nat.reduceAdd, Nat.reduceLT, xr_lt, xr_eq, xr_toInt, xr_0, xi_add, xi_sub, xi_mul, xr_div, xr_rm, Int.toNat_natCast, bd_t, true_and, and_true, not_false_eq_true, ↓reduceIte, ilt_t, ilt_f, ile_t, x_c1i, x_c1r, x_c1n, and_self, Option.toList_some, Option.toList_none, List.cons_append, List.nil_append, xr_01, xr_00, ieq_f, ieq_t]
  refine wL_law_664 t0 (by simp) rfl rfl (k_unmap h hI x1 (fun w1 h1 fr => ?_))
  have hx1 := putR_keep hx fr
  have hp3 : x_tg w1 P.2.2 = none := by rw [fr.2.2.2.2.2 _ hb2]; exact hp2
  have tM : x_tg w1 mo = some (11, 29) := by rw [← hx1]; exact putR_tgM
  simp (disch := first | exact hR _ _ | exact x01a | exact x01b | (unfold x_r; omega) | assumption | omega) only [wL_law_667, wL_law_668, wL_law_669, wL_law_670, wL_law_671, wL_law_672 hp3 hP, e1, x_gi_int, x_ga_ref, x_ga_null, List.getElem?_cons_zero, List.getElem?_cons_succ, List.length_cons, List.length_nil, List.set_cons_zero, List.set_cons_succ, Nat.reduceAdd, Nat.reduceLT, xr_lt, xr_eq, xr_toInt, xr_0, xi_add, xi_sub, xi_mul, xr_div, xr_rm, Int.toNat_natCast, bd_t, true_and, and_true, not_false_eq_true, ↓reduceIte, ilt_t, ilt_f, ile_t, x_c1i, x_c1r, x_c1n, and_self, Option.toList_some, Option.toList_none, List.cons_append, List.nil_append, xr_01, xr_00, ieq_f, ieq_t]
  refine wL_law_673 tM (by simp) rfl rfl ?_
  rw [← hx1]
  refine m_unmap hI.gs x1 ?_
  simp only [Option.toList_some, List.cons_append, List.nil_append]
  rw [wL_law_676, if_pos rfl]
  exact step w1 A _ rfl h1 (fr.le (by omega)) hx1 (hI.unmap _) (unmap_28 S _)
set_option maxHeartbeats 4000000 in
theorem law_bind {N mo : Nat} {g : Nat → Int32} {i : Int} (hP : P.1 P.2.2 = some (N, g)) (hN : (N : Int) < 2147483648) (i0 : 0 ≤ i) (i5 : i + 5 ≤ (N : Int)) (h : Rel w A S (lid S)) (hI : Inv S) (hC : S 28 0 < 2000000000) (hx : putR w mo S = w) (hp2 : x_tg w P.2.2 = none) (hb2 : P.2.2 < x_sz w) (hp : x_tg w P.2.1 = none) {szF : Nat → Int32} (hSZ : P.1 P.2.1 = some (8, szF)) (hsz : ∀ k b : Int, 1 ≤ k → k ≤ 7 → szF k.toNat = xi (s_size k b))
    (step : ∀ w1 A' S', A' 12 0 = A 12 0 → Rel w1 A' S' (lid S') → Fr w w1 4 → putR w1 mo S = w1 → Inv S' → S' 28 0 ≤ S 28 0 + 1 → WP P 119 872 [some (.ref P.2.2), some (.ref (A 12 0)), some (.ref mo), some (.int (xi i))] [] (putR w1 mo S') Q) : WP P 119 681 [some (.ref P.2.2), some (.ref (A 12 0)), some (.ref mo), some (.int (xi i))] [] w Q := by
  have hR : RgS s_zero := RgS.zero
  have t0 : x_tg w (A 12 0) = some (0, 4) := h.tg (us_ker (i := 0) (by omega))
  obtain ⟨a1, e1, x1⟩ := xi_ex (g (i + 1).toNat)
  obtain ⟨a2, e2, x2⟩ := xi_ex (g (i + 2).toNat)
  simp (disch := first | exact hR _ _ | exact x01a | exact x01b | (unfold x_r; omega) | assumption | omega) only [wL_law_681, wL_law_682, wL_law_683, wL_law_684, wL_law_685, wL_law_687, wL_law_688, wL_law_689, wL_law_690, wL_law_686 hp2 hP, wL_law_691 hp2 hP, e1, e2, x_gi_int, x_ga_ref, x_ga_null, List.getElem?_cons_zero, List.getElem?_cons_succ, List.length_cons, List.length_nil, List.set_cons_zero, List.set_cons_succ, Nat.reduceAdd, Nat.reduceLT, xr_lt, xr_eq, xr_toInt, xr_0, xi_add, xi_sub, xi_mul, xr_div, xr_rm, Int.toNat_natCast, bd_t, true_and, and_true, not_false_eq_true, ↓reduceIte, ilt_t, ilt_f, ile_t, x_c1i, x_c1r, x_c1n, and_self, Option.toList_some, Option.toList_none, List.cons_append, List.nil_append, xr_01, xr_00, ieq_f, ieq_t]
  refine wL_law_692 t0 (by simp) rfl rfl (k_bind h hI x1 x2 (fun w1 h1 fr => ?_))
  have hx1 := putR_keep hx fr
  have hp3 : x_tg w1 P.2.2 = none := by rw [fr.2.2.2.2.2 _ hb2]; exact hp2
  have tM : x_tg w1 mo = some (11, 29) := by rw [← hx1]; exact putR_tgM
  simp (disch := first | exact hR _ _ | exact x01a | exact x01b | (unfold x_r; omega) | assumption | omega) only [wL_law_695, wL_law_696, wL_law_697, wL_law_698, wL_law_699, wL_law_701, wL_law_702, wL_law_703, wL_law_704, wL_law_700 hp3 hP, wL_law_705 hp3 hP, e1, e2, x_gi_int, x_ga_ref, x_ga_null, List.getElem?_cons_zero, List.getElem?_cons_succ, List.length_cons, List.length_nil, List.set_cons_zero, List.set_cons_succ, Nat.reduceAdd, Nat.reduceLT, xr_lt, xr_eq, xr_toInt, xr_0, xi_add, xi_sub, xi_mul, xr_div, xr_rm, Int.toNat_natCast, bd_t, true_and, and_true, not_false_eq_true, ↓reduceIte, ilt_t, ilt_f, ile_t, x_c1i, x_c1r, x_c1n, and_self, Option.toList_some, Option.toList_none, List.cons_append, List.nil_append, xr_01, xr_00, ieq_f, ieq_t]
  refine wL_law_706 tM (by simp) rfl rfl ?_
  rw [← hx1]
  refine m_bind hI.gs x1 x2 ?_
  simp only [Option.toList_some, List.cons_append, List.nil_append]
  rw [wL_law_709, if_pos rfl]
  exact step w1 A _ rfl h1 (fr.le (by omega)) hx1 (hI.bind _ _) (bind_28 S _ _)
set_option maxHeartbeats 4000000 in
theorem law_interrupt {N mo : Nat} {g : Nat → Int32} {i : Int} (hP : P.1 P.2.2 = some (N, g)) (hN : (N : Int) < 2147483648) (i0 : 0 ≤ i) (i5 : i + 5 ≤ (N : Int)) (h : Rel w A S (lid S)) (hI : Inv S) (hC : S 28 0 < 2000000000) (hx : putR w mo S = w) (hp2 : x_tg w P.2.2 = none) (hb2 : P.2.2 < x_sz w) (hp : x_tg w P.2.1 = none) {szF : Nat → Int32} (hSZ : P.1 P.2.1 = some (8, szF)) (hsz : ∀ k b : Int, 1 ≤ k → k ≤ 7 → szF k.toNat = xi (s_size k b))
    (step : ∀ w1 A' S', A' 12 0 = A 12 0 → Rel w1 A' S' (lid S') → Fr w w1 4 → putR w1 mo S = w1 → Inv S' → S' 28 0 ≤ S 28 0 + 1 → WP P 119 872 [some (.ref P.2.2), some (.ref (A 12 0)), some (.ref mo), some (.int (xi i))] [] (putR w1 mo S') Q) : WP P 119 714 [some (.ref P.2.2), some (.ref (A 12 0)), some (.ref mo), some (.int (xi i))] [] w Q := by
  have hR : RgS s_zero := RgS.zero
  have t0 : x_tg w (A 12 0) = some (0, 4) := h.tg (us_ker (i := 0) (by omega))
  obtain ⟨a1, e1, x1⟩ := xi_ex (g (i + 1).toNat)
  simp (disch := first | exact hR _ _ | exact x01a | exact x01b | (unfold x_r; omega) | assumption | omega) only [wL_law_714, wL_law_715, wL_law_716, wL_law_717, wL_law_718, wL_law_719 hp2 hP, e1, x_gi_int, x_ga_ref, x_ga_null, List.getElem?_cons_zero, List.getElem?_cons_succ, List.length_cons, List.length_nil, List.set_cons_zero, List.set_cons_succ, Nat.reduceAdd, Nat.reduceLT, xr_lt, xr_eq, xr_toInt, xr_0, xi_add, xi_sub, xi_mul, xr_div, xr_rm, Int.toNat_natCast, bd_t, true_and, and_true, not_false_eq_true, ↓reduceIte, ilt_t, ilt_f, ile_t, x_c1i, x_c1r, x_c1n, and_self, Option.toList_some, Option.toList_none, List.cons_append, List.nil_append, xr_01, xr_00, ieq_f, ieq_t]
  refine wL_law_720 t0 (by simp) rfl rfl (k_interrupt h hI x1 (fun w1 h1 fr => ?_))
  have hx1 := putR_keep hx fr
  have hp3 : x_tg w1 P.2.2 = none := by rw [fr.2.2.2.2.2 _ hb2]; exact hp2
  have tM : x_tg w1 mo = some (11, 29) := by rw [← hx1]; exact putR_tgM
  simp (disch := first | exact hR _ _ | exact x01a | exact x01b | (unfold x_r; omega) | assumption | omega) only [wL_law_723, wL_law_724, wL_law_725, wL_law_726, wL_law_727, wL_law_728 hp3 hP, e1, x_gi_int, x_ga_ref, x_ga_null, List.getElem?_cons_zero, List.getElem?_cons_succ, List.length_cons, List.length_nil, List.set_cons_zero, List.set_cons_succ, Nat.reduceAdd, Nat.reduceLT, xr_lt, xr_eq, xr_toInt, xr_0, xi_add, xi_sub, xi_mul, xr_div, xr_rm, Int.toNat_natCast, bd_t, true_and, and_true, not_false_eq_true, ↓reduceIte, ilt_t, ilt_f, ile_t, x_c1i, x_c1r, x_c1n, and_self, Option.toList_some, Option.toList_none, List.cons_append, List.nil_append, xr_01, xr_00, ieq_f, ieq_t]
  refine wL_law_729 tM (by simp) rfl rfl ?_
  rw [← hx1]
  refine m_interrupt hI.gs x1 ?_
  simp only [Option.toList_some, List.cons_append, List.nil_append]
  rw [wL_law_732, if_pos rfl]
  exact step w1 A _ rfl h1 (fr.le (by omega)) hx1 (hI.interrupt hC _) (interrupt_28 S _)
set_option maxHeartbeats 4000000 in
theorem law_tick {N mo : Nat} {g : Nat → Int32} {i : Int} (hP : P.1 P.2.2 = some (N, g)) (hN : (N : Int) < 2147483648) (i0 : 0 ≤ i) (i5 : i + 5 ≤ (N : Int)) (h : Rel w A S (lid S)) (hI : Inv S) (hC : S 28 0 < 2000000000) (hx : putR w mo S = w) (hp2 : x_tg w P.2.2 = none) (hb2 : P.2.2 < x_sz w) (hp : x_tg w P.2.1 = none) {szF : Nat → Int32} (hSZ : P.1 P.2.1 = some (8, szF)) (hsz : ∀ k b : Int, 1 ≤ k → k ≤ 7 → szF k.toNat = xi (s_size k b))
    (step : ∀ w1 A' S', A' 12 0 = A 12 0 → Rel w1 A' S' (lid S') → Fr w w1 4 → putR w1 mo S = w1 → Inv S' → S' 28 0 ≤ S 28 0 + 1 → WP P 119 872 [some (.ref P.2.2), some (.ref (A 12 0)), some (.ref mo), some (.int (xi i))] [] (putR w1 mo S') Q) : WP P 119 737 [some (.ref P.2.2), some (.ref (A 12 0)), some (.ref mo), some (.int (xi i))] [] w Q := by
  have hR : RgS s_zero := RgS.zero
  have t0 : x_tg w (A 12 0) = some (0, 4) := h.tg (us_ker (i := 0) (by omega))
  simp (disch := first | exact hR _ _ | exact x01a | exact x01b | (unfold x_r; omega) | assumption | omega) only [wL_law_737, x_gi_int, x_ga_ref, x_ga_null, List.getElem?_cons_zero, List.getElem?_cons_succ, List.length_cons, List.length_nil, List.set_cons_zero, List.set_cons_succ, Nat.reduceAdd, Nat.reduceLT, xr_lt, xr_eq, xr_toInt, xr_0, xi_add, xi_sub, xi_mul, xr_div, xr_rm, Int.toNat_natCast, bd_t, true_and, and_true, not_false_eq_true, ↓reduceIte, ilt_t, ilt_f, ile_t, x_c1i, x_c1r, x_c1n, and_self, Option.toList_some, Option.toList_none, List.cons_append, List.nil_append, xr_01, xr_00, ieq_f, ieq_t]
  refine wL_law_738 t0 (by simp) rfl rfl (k_tick h hI hC  (fun w1 h1 fr => ?_))
  have hx1 := putR_keep hx fr
  have hp3 : x_tg w1 P.2.2 = none := by rw [fr.2.2.2.2.2 _ hb2]; exact hp2
  have tM : x_tg w1 mo = some (11, 29) := by rw [← hx1]; exact putR_tgM
  simp (disch := first | exact hR _ _ | exact x01a | exact x01b | (unfold x_r; omega) | assumption | omega) only [wL_law_741, x_gi_int, x_ga_ref, x_ga_null, List.getElem?_cons_zero, List.getElem?_cons_succ, List.length_cons, List.length_nil, List.set_cons_zero, List.set_cons_succ, Nat.reduceAdd, Nat.reduceLT, xr_lt, xr_eq, xr_toInt, xr_0, xi_add, xi_sub, xi_mul, xr_div, xr_rm, Int.toNat_natCast, bd_t, true_and, and_true, not_false_eq_true, ↓reduceIte, ilt_t, ilt_f, ile_t, x_c1i, x_c1r, x_c1n, and_self, Option.toList_some, Option.toList_none, List.cons_append, List.nil_append, xr_01, xr_00, ieq_f, ieq_t]
  refine wL_law_742 tM (by simp) rfl rfl ?_
  rw [← hx1]
  refine m_tick2 hI hC  ?_
  simp only [Option.toList_some, List.cons_append, List.nil_append]
  rw [wL_law_745, if_pos rfl]
  exact step w1 A _ rfl h1 (fr.le (by omega)) hx1 (hI.tick hC) (tick_28 S)
set_option maxHeartbeats 4000000 in
theorem law_current {N mo : Nat} {g : Nat → Int32} {i : Int} (hP : P.1 P.2.2 = some (N, g)) (hN : (N : Int) < 2147483648) (i0 : 0 ≤ i) (i5 : i + 5 ≤ (N : Int)) (h : Rel w A S (lid S)) (hI : Inv S) (hC : S 28 0 < 2000000000) (hx : putR w mo S = w) (hp2 : x_tg w P.2.2 = none) (hb2 : P.2.2 < x_sz w) (hp : x_tg w P.2.1 = none) {szF : Nat → Int32} (hSZ : P.1 P.2.1 = some (8, szF)) (hsz : ∀ k b : Int, 1 ≤ k → k ≤ 7 → szF k.toNat = xi (s_size k b))
    (step : ∀ w1 A' S', A' 12 0 = A 12 0 → Rel w1 A' S' (lid S') → Fr w w1 4 → putR w1 mo S = w1 → Inv S' → S' 28 0 ≤ S 28 0 + 1 → WP P 119 872 [some (.ref P.2.2), some (.ref (A 12 0)), some (.ref mo), some (.int (xi i))] [] (putR w1 mo S') Q) : WP P 119 750 [some (.ref P.2.2), some (.ref (A 12 0)), some (.ref mo), some (.int (xi i))] [] w Q := by
  have hR : RgS s_zero := RgS.zero
  have t0 : x_tg w (A 12 0) = some (0, 4) := h.tg (us_ker (i := 0) (by omega))
  simp (disch := first | exact hR _ _ | exact x01a | exact x01b | (unfold x_r; omega) | assumption | omega) only [wL_law_750, x_gi_int, x_ga_ref, x_ga_null, List.getElem?_cons_zero, List.getElem?_cons_succ, List.length_cons, List.length_nil, List.set_cons_zero, List.set_cons_succ, Nat.reduceAdd, Nat.reduceLT, xr_lt, xr_eq, xr_toInt, xr_0, xi_add, xi_sub, xi_mul, xr_div, xr_rm, Int.toNat_natCast, bd_t, true_and, and_true, not_false_eq_true, ↓reduceIte, ilt_t, ilt_f, ile_t, x_c1i, x_c1r, x_c1n, and_self, Option.toList_some, Option.toList_none, List.cons_append, List.nil_append, xr_01, xr_00, ieq_f, ieq_t]
  refine wL_law_751 t0 (by simp) rfl rfl (k_current h hI  ?_)
  have tM : x_tg w mo = some (11, 29) := by rw [← hx]; exact putR_tgM
  simp (disch := first | exact hR _ _ | exact x01a | exact x01b | (unfold x_r; omega) | assumption | omega) only [wL_law_754, x_gi_int, x_ga_ref, x_ga_null, List.getElem?_cons_zero, List.getElem?_cons_succ, List.length_cons, List.length_nil, List.set_cons_zero, List.set_cons_succ, Nat.reduceAdd, Nat.reduceLT, xr_lt, xr_eq, xr_toInt, xr_0, xi_add, xi_sub, xi_mul, xr_div, xr_rm, Int.toNat_natCast, bd_t, true_and, and_true, not_false_eq_true, ↓reduceIte, ilt_t, ilt_f, ile_t, x_c1i, x_c1r, x_c1n, and_self, Option.toList_some, Option.toList_none, List.cons_append, List.nil_append, xr_01, xr_00, ieq_f, ieq_t]
  refine wL_law_755 tM (by simp) rfl rfl ?_
  rw [← hx]
  refine m_current hI.1.1  ?_
  simp only [Option.toList_some, List.cons_append, List.nil_append]
  rw [wL_law_758, if_pos rfl]
  exact step w A S rfl h (Fr.refl w |>.le (by omega)) hx hI (by omega)
set_option maxHeartbeats 4000000 in
theorem law_slot {N mo : Nat} {g : Nat → Int32} {i : Int} (hP : P.1 P.2.2 = some (N, g)) (hN : (N : Int) < 2147483648) (i0 : 0 ≤ i) (i5 : i + 5 ≤ (N : Int)) (h : Rel w A S (lid S)) (hI : Inv S) (hC : S 28 0 < 2000000000) (hx : putR w mo S = w) (hp2 : x_tg w P.2.2 = none) (hb2 : P.2.2 < x_sz w) (hp : x_tg w P.2.1 = none) {szF : Nat → Int32} (hSZ : P.1 P.2.1 = some (8, szF)) (hsz : ∀ k b : Int, 1 ≤ k → k ≤ 7 → szF k.toNat = xi (s_size k b))
    (step : ∀ w1 A' S', A' 12 0 = A 12 0 → Rel w1 A' S' (lid S') → Fr w w1 4 → putR w1 mo S = w1 → Inv S' → S' 28 0 ≤ S 28 0 + 1 → WP P 119 872 [some (.ref P.2.2), some (.ref (A 12 0)), some (.ref mo), some (.int (xi i))] [] (putR w1 mo S') Q) : WP P 119 763 [some (.ref P.2.2), some (.ref (A 12 0)), some (.ref mo), some (.int (xi i))] [] w Q := by
  have hR : RgS s_zero := RgS.zero
  have t0 : x_tg w (A 12 0) = some (0, 4) := h.tg (us_ker (i := 0) (by omega))
  obtain ⟨a1, e1, x1⟩ := xi_ex (g (i + 1).toNat)
  obtain ⟨a2, e2, x2⟩ := xi_ex (g (i + 2).toNat)
  obtain ⟨a3, e3, x3⟩ := xi_ex (g (i + 3).toNat)
  simp (disch := first | exact hR _ _ | exact x01a | exact x01b | (unfold x_r; omega) | assumption | omega) only [wL_law_763, wL_law_764, wL_law_765, wL_law_766, wL_law_767, wL_law_769, wL_law_770, wL_law_771, wL_law_772, wL_law_774, wL_law_775, wL_law_776, wL_law_777, wL_law_768 hp2 hP, wL_law_773 hp2 hP, wL_law_778 hp2 hP, e1, e2, e3, x_gi_int, x_ga_ref, x_ga_null, List.getElem?_cons_zero, List.getElem?_cons_succ, List.length_cons, List.length_nil, List.set_cons_zero, List.set_cons_succ, Nat.reduceAdd, Nat.reduceLT, xr_lt, xr_eq, xr_toInt, xr_0, xi_add, xi_sub, xi_mul, xr_div, xr_rm, Int.toNat_natCast, bd_t, true_and, and_true, not_false_eq_true, ↓reduceIte, ilt_t, ilt_f, ile_t, x_c1i, x_c1r, x_c1n, and_self, Option.toList_some, Option.toList_none, List.cons_append, List.nil_append, xr_01, xr_00, ieq_f, ieq_t]
  refine wL_law_779 t0 (by simp) rfl rfl (k_slot h hI x1 x2 x3 ?_)
  have tM : x_tg w mo = some (11, 29) := by rw [← hx]; exact putR_tgM
  simp (disch := first | exact hR _ _ | exact x01a | exact x01b | (unfold x_r; omega) | assumption | omega) only [wL_law_782, wL_law_783, wL_law_784, wL_law_785, wL_law_786, wL_law_788, wL_law_789, wL_law_790, wL_law_791, wL_law_793, wL_law_794, wL_law_795, wL_law_796, wL_law_787 hp2 hP, wL_law_792 hp2 hP, wL_law_797 hp2 hP, e1, e2, e3, x_gi_int, x_ga_ref, x_ga_null, List.getElem?_cons_zero, List.getElem?_cons_succ, List.length_cons, List.length_nil, List.set_cons_zero, List.set_cons_succ, Nat.reduceAdd, Nat.reduceLT, xr_lt, xr_eq, xr_toInt, xr_0, xi_add, xi_sub, xi_mul, xr_div, xr_rm, Int.toNat_natCast, bd_t, true_and, and_true, not_false_eq_true, ↓reduceIte, ilt_t, ilt_f, ile_t, x_c1i, x_c1r, x_c1n, and_self, Option.toList_some, Option.toList_none, List.cons_append, List.nil_append, xr_01, xr_00, ieq_f, ieq_t]
  refine wL_law_798 tM (by simp) rfl rfl ?_
  rw [← hx]
  refine m_slot hI.gs x1 x2 x3 ?_
  simp only [Option.toList_some, List.cons_append, List.nil_append]
  rw [wL_law_801, if_pos rfl]
  exact step w A S rfl h (Fr.refl w |>.le (by omega)) hx hI (by omega)
set_option maxHeartbeats 4000000 in
theorem law_thread {N mo : Nat} {g : Nat → Int32} {i : Int} (hP : P.1 P.2.2 = some (N, g)) (hN : (N : Int) < 2147483648) (i0 : 0 ≤ i) (i5 : i + 5 ≤ (N : Int)) (h : Rel w A S (lid S)) (hI : Inv S) (hC : S 28 0 < 2000000000) (hx : putR w mo S = w) (hp2 : x_tg w P.2.2 = none) (hb2 : P.2.2 < x_sz w) (hp : x_tg w P.2.1 = none) {szF : Nat → Int32} (hSZ : P.1 P.2.1 = some (8, szF)) (hsz : ∀ k b : Int, 1 ≤ k → k ≤ 7 → szF k.toNat = xi (s_size k b))
    (step : ∀ w1 A' S', A' 12 0 = A 12 0 → Rel w1 A' S' (lid S') → Fr w w1 4 → putR w1 mo S = w1 → Inv S' → S' 28 0 ≤ S 28 0 + 1 → WP P 119 872 [some (.ref P.2.2), some (.ref (A 12 0)), some (.ref mo), some (.int (xi i))] [] (putR w1 mo S') Q) : WP P 119 806 [some (.ref P.2.2), some (.ref (A 12 0)), some (.ref mo), some (.int (xi i))] [] w Q := by
  have hR : RgS s_zero := RgS.zero
  have t0 : x_tg w (A 12 0) = some (0, 4) := h.tg (us_ker (i := 0) (by omega))
  obtain ⟨a1, e1, x1⟩ := xi_ex (g (i + 1).toNat)
  obtain ⟨a2, e2, x2⟩ := xi_ex (g (i + 2).toNat)
  simp (disch := first | exact hR _ _ | exact x01a | exact x01b | (unfold x_r; omega) | assumption | omega) only [wL_law_806, wL_law_807, wL_law_808, wL_law_809, wL_law_810, wL_law_812, wL_law_813, wL_law_814, wL_law_815, wL_law_811 hp2 hP, wL_law_816 hp2 hP, e1, e2, x_gi_int, x_ga_ref, x_ga_null, List.getElem?_cons_zero, List.getElem?_cons_succ, List.length_cons, List.length_nil, List.set_cons_zero, List.set_cons_succ, Nat.reduceAdd, Nat.reduceLT, xr_lt, xr_eq, xr_toInt, xr_0, xi_add, xi_sub, xi_mul, xr_div, xr_rm, Int.toNat_natCast, bd_t, true_and, and_true, not_false_eq_true, ↓reduceIte, ilt_t, ilt_f, ile_t, x_c1i, x_c1r, x_c1n, and_self, Option.toList_some, Option.toList_none, List.cons_append, List.nil_append, xr_01, xr_00, ieq_f, ieq_t]
  refine wL_law_817 t0 (by simp) rfl rfl (k_thread h hI x1 x2 ?_)
  have tM : x_tg w mo = some (11, 29) := by rw [← hx]; exact putR_tgM
  simp (disch := first | exact hR _ _ | exact x01a | exact x01b | (unfold x_r; omega) | assumption | omega) only [wL_law_820, wL_law_821, wL_law_822, wL_law_823, wL_law_824, wL_law_826, wL_law_827, wL_law_828, wL_law_829, wL_law_825 hp2 hP, wL_law_830 hp2 hP, e1, e2, x_gi_int, x_ga_ref, x_ga_null, List.getElem?_cons_zero, List.getElem?_cons_succ, List.length_cons, List.length_nil, List.set_cons_zero, List.set_cons_succ, Nat.reduceAdd, Nat.reduceLT, xr_lt, xr_eq, xr_toInt, xr_0, xi_add, xi_sub, xi_mul, xr_div, xr_rm, Int.toNat_natCast, bd_t, true_and, and_true, not_false_eq_true, ↓reduceIte, ilt_t, ilt_f, ile_t, x_c1i, x_c1r, x_c1n, and_self, Option.toList_some, Option.toList_none, List.cons_append, List.nil_append, xr_01, xr_00, ieq_f, ieq_t]
  refine wL_law_831 tM (by simp) rfl rfl ?_
  rw [← hx]
  refine m_thread hI.gs x1 x2 ?_
  simp only [Option.toList_some, List.cons_append, List.nil_append]
  rw [wL_law_834, if_pos rfl]
  exact step w A S rfl h (Fr.refl w |>.le (by omega)) hx hI (by omega)
set_option maxHeartbeats 4000000 in
theorem law_page {N mo : Nat} {g : Nat → Int32} {i : Int} (hP : P.1 P.2.2 = some (N, g)) (hN : (N : Int) < 2147483648) (i0 : 0 ≤ i) (i5 : i + 5 ≤ (N : Int)) (h : Rel w A S (lid S)) (hI : Inv S) (hC : S 28 0 < 2000000000) (hx : putR w mo S = w) (hp2 : x_tg w P.2.2 = none) (hb2 : P.2.2 < x_sz w) (hp : x_tg w P.2.1 = none) {szF : Nat → Int32} (hSZ : P.1 P.2.1 = some (8, szF)) (hsz : ∀ k b : Int, 1 ≤ k → k ≤ 7 → szF k.toNat = xi (s_size k b))
    (step : ∀ w1 A' S', A' 12 0 = A 12 0 → Rel w1 A' S' (lid S') → Fr w w1 4 → putR w1 mo S = w1 → Inv S' → S' 28 0 ≤ S 28 0 + 1 → WP P 119 872 [some (.ref P.2.2), some (.ref (A 12 0)), some (.ref mo), some (.int (xi i))] [] (putR w1 mo S') Q) : WP P 119 839 [some (.ref P.2.2), some (.ref (A 12 0)), some (.ref mo), some (.int (xi i))] [] w Q := by
  have hR : RgS s_zero := RgS.zero
  have t0 : x_tg w (A 12 0) = some (0, 4) := h.tg (us_ker (i := 0) (by omega))
  obtain ⟨a1, e1, x1⟩ := xi_ex (g (i + 1).toNat)
  obtain ⟨a2, e2, x2⟩ := xi_ex (g (i + 2).toNat)
  simp (disch := first | exact hR _ _ | exact x01a | exact x01b | (unfold x_r; omega) | assumption | omega) only [wL_law_839, wL_law_840, wL_law_841, wL_law_842, wL_law_843, wL_law_845, wL_law_846, wL_law_847, wL_law_848, wL_law_844 hp2 hP, wL_law_849 hp2 hP, e1, e2, x_gi_int, x_ga_ref, x_ga_null, List.getElem?_cons_zero, List.getElem?_cons_succ, List.length_cons, List.length_nil, List.set_cons_zero, List.set_cons_succ, Nat.reduceAdd, Nat.reduceLT, xr_lt, xr_eq, xr_toInt, xr_0, xi_add, xi_sub, xi_mul, xr_div, xr_rm, Int.toNat_natCast, bd_t, true_and, and_true, not_false_eq_true, ↓reduceIte, ilt_t, ilt_f, ile_t, x_c1i, x_c1r, x_c1n, and_self, Option.toList_some, Option.toList_none, List.cons_append, List.nil_append, xr_01, xr_00, ieq_f, ieq_t]
  refine wL_law_850 t0 (by simp) rfl rfl (k_page h hI x1 x2 ?_)
  have tM : x_tg w mo = some (11, 29) := by rw [← hx]; exact putR_tgM
  simp (disch := first | exact hR _ _ | exact x01a | exact x01b | (unfold x_r; omega) | assumption | omega) only [wL_law_853, wL_law_854, wL_law_855, wL_law_856, wL_law_857, wL_law_859, wL_law_860, wL_law_861, wL_law_862, wL_law_858 hp2 hP, wL_law_863 hp2 hP, e1, e2, x_gi_int, x_ga_ref, x_ga_null, List.getElem?_cons_zero, List.getElem?_cons_succ, List.length_cons, List.length_nil, List.set_cons_zero, List.set_cons_succ, Nat.reduceAdd, Nat.reduceLT, xr_lt, xr_eq, xr_toInt, xr_0, xi_add, xi_sub, xi_mul, xr_div, xr_rm, Int.toNat_natCast, bd_t, true_and, and_true, not_false_eq_true, ↓reduceIte, ilt_t, ilt_f, ile_t, x_c1i, x_c1r, x_c1n, and_self, Option.toList_some, Option.toList_none, List.cons_append, List.nil_append, xr_01, xr_00, ieq_f, ieq_t]
  refine wL_law_864 tM (by simp) rfl rfl ?_
  rw [← hx]
  refine m_page hI.gs x1 x2 ?_
  simp only [Option.toList_some, List.cons_append, List.nil_append]
  rw [wL_law_867, if_pos rfl]
  exact step w A S rfl h (Fr.refl w |>.le (by omega)) hx hI (by omega)
end LA
