/-- array j of S with f at its first k places -/
def mapA (S : xS) (j k : Nat) (f : Nat → Int) : xS := fun j' i => if j' = j ∧ i < k then f i else S j' i
theorem mapA_at (S : xS) (j k : Nat) (f : Nat → Int) (j' i : Nat) : mapA S j k f j' i = if j' = j ∧ i < k then f i else S j' i := rfl
theorem mapA_0 (S : xS) (j : Nat) (f : Nat → Int) : mapA S j 0 f = S := by
  funext j' i
  rw [mapA_at, if_neg (by omega)]
theorem mapA_s {S : xS} {j k : Nat} {f : Nat → Int} {v : Int} (h : v = f k) : sset (mapA S j k f) j k v = mapA S j (k + 1) f := by
  funext j' i
  rw [sset_at, mapA_at, mapA_at]
  by_cases c1 : j' = j
  · by_cases c2 : i = k
    · rw [if_pos ⟨c1, c2⟩, if_pos ⟨c1, by omega⟩, h, c2]
    · rw [if_neg (fun q => c2 q.2)]
      by_cases c3 : i < k
      · rw [if_pos ⟨c1, c3⟩, if_pos ⟨c1, by omega⟩]
      · rw [if_neg (fun q => c3 q.2), if_neg (by omega)]
  · rw [if_neg (fun q => c1 q.1), if_neg (fun q => c1 q.1), if_neg (fun q => c1 q.1)]
theorem mapA_c {S : xS} {j k j2 i : Nat} {f : Nat → Int} {v : Int} (h : j2 ≠ j) : sset (mapA S j k f) j2 i v = mapA (sset S j2 i v) j k f := by
  funext j' i'
  rw [sset_at, mapA_at, mapA_at, sset_at]
  by_cases c1 : j' = j
  · rw [if_neg (fun q => h (q.1.symm.trans c1))]
    by_cases c3 : i' < k
    · rw [if_pos ⟨c1, c3⟩, if_pos ⟨c1, c3⟩]
    · rw [if_neg (fun q => c3 q.2), if_neg (fun q => c3 q.2), if_neg (fun q => h (q.1.symm.trans c1))]
  · by_cases c2 : j' = j2 ∧ i' = i
    · rw [if_pos c2, if_neg (fun q => c1 q.1), if_pos c2]
    · rw [if_neg c2, if_neg (fun q => c1 q.1), if_neg (fun q => c1 q.1), if_neg c2]
def rm_par (S : xS) (s : Int) (q : Nat) : Int := if S 4 q = s then S 4 s.toNat else S 4 q
def rm_tab (S : xS) (k u : Int) (t : Nat) : Int := if k = 1 ∧ S 11 t = u then -1 else S 11 t
def rm_spa (S : xS) (k u : Int) (t : Nat) : Int := if k = 5 ∧ S 12 t = u then -1 else S 12 t
def rm_sta (S : xS) (k u : Int) (t : Nat) : Int := if (k = 3 ∨ k = 4) ∧ 3 ≤ S 10 t ∧ S 19 t = u then 1 else if k = 2 ∧ (t : Int) = u / 8 then 0 else S 10 t
def rm_doo (S : xS) (k u : Int) (q : Nat) : Int := if S 9 q ≠ 0 ∨ (k = 1 ∧ (q : Int) / 16 = u / 16 ∧ 0 ≤ S 0 q) then 1 else 0
def rm_inl (S : xS) (k u : Int) (q : Nat) : Int := if k = 6 ∧ S 7 q = u then -1 else S 7 q
def rm_les (S : xS) (k u : Int) (q : Nat) : Int := if (k = 6 ∧ (q : Int) = u / 4) ∨ (k = 5 ∧ S 25 q = u) then -1 else S 25 q
def rm_lin (S : xS) (k u : Int) (q : Nat) : Int := if k = 4 ∧ S 27 q = u then -1 else S 27 q
section RD
variable {P : xP} {w : xH} {Q : Option Value → xH → Prop} {mo : Nat} {S : xS}
set_option maxHeartbeats 4000000 in
theorem m_rm1 {s k u : Int} {b : Option Value} (hR : RgS S) (h0 : 0 ≤ s) (h1 : s < 128) (hs : S 4 s.toNat ≠ s) (hQ : WP P 92 79 [some (.ref mo), some (.int (xi s)), some (.int (xi k)), some (.int (xi u)), some (.int (xi 128)), b] [] (putR w mo (mapA S 4 128 (rm_par S s))) Q) : ∀ (d i : Nat), i + d = 128 →
    WP P 92 31 [some (.ref mo), some (.int (xi s)), some (.int (xi k)), some (.int (xi u)), some (.int (xi i)), b] [] (putR w mo (mapA S 4 i (rm_par S s))) Q := by
  intro d
  have e0 : ∀ i, mapA S 4 i (rm_par S s) 4 s.toNat = S 4 s.toNat := by
    intro i
    rw [mapA_at]
    split
    · unfold rm_par
      rw [if_neg hs]
    · rfl
  induction d with
  | zero =>
    intro i hi
    obtain rfl : i = 128 := by omega
    simp (disch := first | exact hR _ _ | exact x01a | exact x01b | (unfold x_r; omega) | assumption | omega) only [wM_remove_31, wM_remove_33, wM_remove_36, x_gi_int, x_ga_ref, x_ga_null, List.getElem?_cons_zero, List.getElem?_cons_succ, List.length_cons, List.length_nil, List.set_cons_zero, List.set_cons_succ, Nat.reduceAdd, Nat.reduceLT, xr_lt, xr_eq, xr_toInt, xr_0, xi_add, xi_sub, xi_mul, xr_div, xr_rm, Int.toNat_natCast, bd_t, true_and, and_true, not_false_eq_true, ↓reduceIte, ilt_t, ilt_f, ile_t, x_c1i, x_c1r, x_c1n, and_self, Option.toList_some, Option.toList_none, List.cons_append, List.nil_append, xr_01, xr_00, ieq_f, ieq_t]
    exact hQ
  | succ d ih =>
    intro i hi
    have i1 := ih (i + 1) (by omega)
    rw [wM_remove_31]
    have e1 : mapA S 4 i (rm_par S s) 4 i = S 4 i := by rw [mapA_at, if_neg (by omega)]
    by_cases c1 : S 4 i = s
    · simp (disch := first | exact hR _ _ | exact x01a | exact x01b | (unfold x_r; omega) | assumption | omega) only [wM_remove_33, wM_remove_36, wM_remove_39, wM_remove_40, wM_remove_43, wM_remove_45, wM_remove_46, wM_remove_49, wM_remove_51, wM_remove_52, wM_remove_53, wM_remove_56, wM_remove_57, wM_remove_60, wM_remove_61, wM_remove_62, wM_remove_65, wM_remove_66, wM_remove_69, wM_remove_71, wM_remove_72, wM_remove_73, wM_remove_76, x_gi_int, x_ga_ref, x_ga_null, List.getElem?_cons_zero, List.getElem?_cons_succ, List.length_cons, List.length_nil, List.set_cons_zero, List.set_cons_succ, Nat.reduceAdd, Nat.reduceLT, xr_lt, xr_eq, xr_toInt, xr_0, xi_add, xi_sub, xi_mul, xr_div, xr_rm, Int.toNat_natCast, bd_t, true_and, and_true, not_false_eq_true, ↓reduceIte, ilt_t, ilt_f, ile_t, x_c1i, x_c1r, x_c1n, and_self, Option.toList_some, Option.toList_none, List.cons_append, List.nil_append, xr_01, xr_00, ieq_f, ieq_t, e0, e1]
      rw [mapA_s (show S 4 s.toNat = rm_par S s i by unfold rm_par; rw [if_pos c1])]
      exact i1
    · simp (disch := first | exact hR _ _ | exact x01a | exact x01b | (unfold x_r; omega) | assumption | omega) only [wM_remove_33, wM_remove_36, wM_remove_39, wM_remove_40, wM_remove_43, wM_remove_45, wM_remove_46, wM_remove_49, wM_remove_51, wM_remove_52, wM_remove_53, wM_remove_56, wM_remove_57, wM_remove_60, wM_remove_61, wM_remove_62, wM_remove_65, wM_remove_66, wM_remove_69, wM_remove_71, wM_remove_72, wM_remove_73, wM_remove_76, x_gi_int, x_ga_ref, x_ga_null, List.getElem?_cons_zero, List.getElem?_cons_succ, List.length_cons, List.length_nil, List.set_cons_zero, List.set_cons_succ, Nat.reduceAdd, Nat.reduceLT, xr_lt, xr_eq, xr_toInt, xr_0, xi_add, xi_sub, xi_mul, xr_div, xr_rm, Int.toNat_natCast, bd_t, true_and, and_true, not_false_eq_true, ↓reduceIte, ilt_t, ilt_f, ile_t, x_c1i, x_c1r, x_c1n, and_self, Option.toList_some, Option.toList_none, List.cons_append, List.nil_append, xr_01, xr_00, ieq_f, ieq_t, e0, e1]
      rw [mapA_s (show S 4 i = rm_par S s i by unfold rm_par; rw [if_neg c1])]
      exact i1
set_option maxHeartbeats 4000000 in
theorem m_rm2 {s k u : Int} {b : Option Value} (hR : RgS S) (hk : x_r k) (hu0 : 0 ≤ u) (hu1 : u < 128) (hQ : ∀ b, WP P 92 257 [some (.ref mo), some (.int (xi s)), some (.int (xi k)), some (.int (xi u)), some (.int (xi 16)), b] [] (putR w mo (mapA (mapA (mapA S 11 16 (rm_tab S k u)) 12 16 (rm_spa S k u)) 10 16 (rm_sta S k u))) Q) : ∀ (d i : Nat) (b : Option Value), i + d = 16 →
    WP P 92 96 [some (.ref mo), some (.int (xi s)), some (.int (xi k)), some (.int (xi u)), some (.int (xi i)), b] [] (putR w mo (mapA (mapA (mapA S 11 i (rm_tab S k u)) 12 i (rm_spa S k u)) 10 i (rm_sta S k u))) Q := by
  intro d
  have hk1 := hk.1
  have hk2 := hk.2
  induction d with
  | zero =>
    intro i b hi
    obtain rfl : i = 16 := by omega
    simp (disch := first | exact hR _ _ | exact x01a | exact x01b | (unfold x_r; omega) | assumption | omega) only [wM_remove_96, wM_remove_98, wM_remove_100, x_gi_int, x_ga_ref, x_ga_null, List.getElem?_cons_zero, List.getElem?_cons_succ, List.length_cons, List.length_nil, List.set_cons_zero, List.set_cons_succ, Nat.reduceAdd, Nat.reduceLT, xr_lt, xr_eq, xr_toInt, xr_0, xi_add, xi_sub, xi_mul, xr_div, xr_rm, Int.toNat_natCast, bd_t, true_and, and_true, not_false_eq_true, ↓reduceIte, ilt_t, ilt_f, ile_t, x_c1i, x_c1r, x_c1n, and_self, Option.toList_some, Option.toList_none, List.cons_append, List.nil_append, xr_01, xr_00, ieq_f, ieq_t]
    exact hQ b
  | succ d ih =>
    intro i b hi
    have i1 := fun b => ih (i + 1) b (by omega)
    rw [wM_remove_96]
    -- the state's part
    have k3 : ∀ (ta sp : Int), ta = rm_tab S k u i → sp = rm_spa S k u i → WP P 92 171 [some (.ref mo), some (.int (xi s)), some (.int (xi k)), some (.int (xi u)), some (.int (xi i)), b] [] (putR w mo (sset (sset (mapA (mapA (mapA S 11 i (rm_tab S k u)) 12 i (rm_spa S k u)) 10 i (rm_sta S k u)) 11 i ta) 12 i sp)) Q := by
      intro ta sp hta hsp
      have key : ∀ v, v = rm_sta S k u i → sset (sset (sset (mapA (mapA (mapA S 11 i (rm_tab S k u)) 12 i (rm_spa S k u)) 10 i (rm_sta S k u)) 11 i ta) 12 i sp) 10 i v = mapA (mapA (mapA S 11 (i + 1) (rm_tab S k u)) 12 (i + 1) (rm_spa S k u)) 10 (i + 1) (rm_sta S k u) := by
        intro v hv
        rw [mapA_c (j := 10) (j2 := 11) (by omega), mapA_c (j := 10) (j2 := 12) (by omega), mapA_s hv, mapA_c (j := 12) (j2 := 11) (by omega), mapA_s hta, mapA_s hsp]
      have e10 : ∀ j, j = 10 ∨ j = 19 → (sset (sset (mapA (mapA (mapA S 11 i (rm_tab S k u)) 12 i (rm_spa S k u)) 10 i (rm_sta S k u)) 11 i ta) 12 i sp) j i = S j i := by
        intro j hj
        simp only [sset_at, mapA_at]
        rcases hj with rfl | rfl <;> simp
      have a1 := e10 10 (Or.inl rfl)
      have a2 := e10 19 (Or.inr rfl)
      have k4 : ∀ be : Int, (be = 1 ∧ ((k = 3 ∨ k = 4) ∧ 3 ≤ S 10 i ∧ S 19 i = u)) ∨ (be = 0 ∧ ¬ ((k = 3 ∨ k = 4) ∧ 3 ≤ S 10 i ∧ S 19 i = u)) → WP P 92 208 [some (.ref mo), some (.int (xi s)), some (.int (xi k)), some (.int (xi u)), some (.int (xi i)), b] [.int (xi be)] (putR w mo (sset (sset (mapA (mapA (mapA S 11 i (rm_tab S k u)) 12 i (rm_spa S k u)) 10 i (rm_sta S k u)) 11 i ta) 12 i sp)) Q := by
        intro be hbe
        rcases hbe with ⟨rfl, hB⟩ | ⟨rfl, hB⟩
        · simp (disch := first | exact hR _ _ | exact x01a | exact x01b | (unfold x_r; omega) | assumption | omega) only [wM_remove_208, wM_remove_210, wM_remove_211, wM_remove_214, wM_remove_216, wM_remove_218, wM_remove_221, wM_remove_222, wM_remove_225, wM_remove_226, wM_remove_227, wM_remove_230, wM_remove_232, wM_remove_233, wM_remove_235, wM_remove_236, wM_remove_239, wM_remove_240, wM_remove_243, wM_remove_244, wM_remove_247, wM_remove_249, wM_remove_250, wM_remove_251, wM_remove_254, x_gi_int, x_ga_ref, x_ga_null, List.getElem?_cons_zero, List.getElem?_cons_succ, List.length_cons, List.length_nil, List.set_cons_zero, List.set_cons_succ, Nat.reduceAdd, Nat.reduceLT, xr_lt, xr_eq, xr_toInt, xr_0, xi_add, xi_sub, xi_mul, xr_div, xr_rm, Int.toNat_natCast, bd_t, true_and, and_true, not_false_eq_true, ↓reduceIte, ilt_t, ilt_f, ile_t, x_c1i, x_c1r, x_c1n, and_self, Option.toList_some, Option.toList_none, List.cons_append, List.nil_append, xr_01, xr_00, ieq_f, ieq_t]
          rw [key 1 (by unfold rm_sta; rw [if_pos hB])]
          exact i1 _
        · by_cases c5 : k = 2
          · by_cases c6 : (i : Int) = u / 8
            · simp (disch := first | exact hR _ _ | exact x01a | exact x01b | (unfold x_r; omega) | assumption | omega) only [wM_remove_208, wM_remove_210, wM_remove_211, wM_remove_214, wM_remove_216, wM_remove_218, wM_remove_221, wM_remove_222, wM_remove_225, wM_remove_226, wM_remove_227, wM_remove_230, wM_remove_232, wM_remove_233, wM_remove_235, wM_remove_236, wM_remove_239, wM_remove_240, wM_remove_243, wM_remove_244, wM_remove_247, wM_remove_249, wM_remove_250, wM_remove_251, wM_remove_254, x_gi_int, x_ga_ref, x_ga_null, List.getElem?_cons_zero, List.getElem?_cons_succ, List.length_cons, List.length_nil, List.set_cons_zero, List.set_cons_succ, Nat.reduceAdd, Nat.reduceLT, xr_lt, xr_eq, xr_toInt, xr_0, xi_add, xi_sub, xi_mul, xr_div, xr_rm, Int.toNat_natCast, bd_t, true_and, and_true, not_false_eq_true, ↓reduceIte, ilt_t, ilt_f, ile_t, x_c1i, x_c1r, x_c1n, and_self, Option.toList_some, Option.toList_none, List.cons_append, List.nil_append, xr_01, xr_00, ieq_f, ieq_t]
              rw [key 0 (by unfold rm_sta; rw [if_neg hB, if_pos ⟨c5, c6⟩])]
              exact i1 _
            · simp (disch := first | exact hR _ _ | exact x01a | exact x01b | (unfold x_r; omega) | assumption | omega) only [wM_remove_208, wM_remove_210, wM_remove_211, wM_remove_214, wM_remove_216, wM_remove_218, wM_remove_221, wM_remove_222, wM_remove_225, wM_remove_226, wM_remove_227, wM_remove_230, wM_remove_232, wM_remove_233, wM_remove_235, wM_remove_236, wM_remove_239, wM_remove_240, wM_remove_243, wM_remove_244, wM_remove_247, wM_remove_249, wM_remove_250, wM_remove_251, wM_remove_254, x_gi_int, x_ga_ref, x_ga_null, List.getElem?_cons_zero, List.getElem?_cons_succ, List.length_cons, List.length_nil, List.set_cons_zero, List.set_cons_succ, Nat.reduceAdd, Nat.reduceLT, xr_lt, xr_eq, xr_toInt, xr_0, xi_add, xi_sub, xi_mul, xr_div, xr_rm, Int.toNat_natCast, bd_t, true_and, and_true, not_false_eq_true, ↓reduceIte, ilt_t, ilt_f, ile_t, x_c1i, x_c1r, x_c1n, and_self, Option.toList_some, Option.toList_none, List.cons_append, List.nil_append, xr_01, xr_00, ieq_f, ieq_t, a1]
              rw [key (S 10 i) (by unfold rm_sta; rw [if_neg hB, if_neg (fun q => c6 q.2)])]
              exact i1 _
          · simp (disch := first | exact hR _ _ | exact x01a | exact x01b | (unfold x_r; omega) | assumption | omega) only [wM_remove_208, wM_remove_210, wM_remove_211, wM_remove_214, wM_remove_216, wM_remove_218, wM_remove_221, wM_remove_222, wM_remove_225, wM_remove_226, wM_remove_227, wM_remove_230, wM_remove_232, wM_remove_233, wM_remove_235, wM_remove_236, wM_remove_239, wM_remove_240, wM_remove_243, wM_remove_244, wM_remove_247, wM_remove_249, wM_remove_250, wM_remove_251, wM_remove_254, x_gi_int, x_ga_ref, x_ga_null, List.getElem?_cons_zero, List.getElem?_cons_succ, List.length_cons, List.length_nil, List.set_cons_zero, List.set_cons_succ, Nat.reduceAdd, Nat.reduceLT, xr_lt, xr_eq, xr_toInt, xr_0, xi_add, xi_sub, xi_mul, xr_div, xr_rm, Int.toNat_natCast, bd_t, true_and, and_true, not_false_eq_true, ↓reduceIte, ilt_t, ilt_f, ile_t, x_c1i, x_c1r, x_c1n, and_self, Option.toList_some, Option.toList_none, List.cons_append, List.nil_append, xr_01, xr_00, ieq_f, ieq_t, a1]
            rw [key (S 10 i) (by unfold rm_sta; rw [if_neg hB, if_neg (fun q => c5 q.1)])]
            exact i1 _
      by_cases c1 : k = 3
      · by_cases c3 : S 10 i < 3
        · simp (disch := first | exact hR _ _ | exact x01a | exact x01b | (unfold x_r; omega) | assumption | omega) only [wM_remove_171, wM_remove_172, wM_remove_173, wM_remove_176, wM_remove_177, wM_remove_178, wM_remove_181, wM_remove_182, wM_remove_185, wM_remove_187, wM_remove_188, wM_remove_189, wM_remove_192, wM_remove_193, wM_remove_196, wM_remove_198, wM_remove_199, wM_remove_200, wM_remove_203, wM_remove_204, wM_remove_207, x_gi_int, x_ga_ref, x_ga_null, List.getElem?_cons_zero, List.getElem?_cons_succ, List.length_cons, List.length_nil, List.set_cons_zero, List.set_cons_succ, Nat.reduceAdd, Nat.reduceLT, xr_lt, xr_eq, xr_toInt, xr_0, xi_add, xi_sub, xi_mul, xr_div, xr_rm, Int.toNat_natCast, bd_t, true_and, and_true, not_false_eq_true, ↓reduceIte, ilt_t, ilt_f, ile_t, x_c1i, x_c1r, x_c1n, and_self, Option.toList_some, Option.toList_none, List.cons_append, List.nil_append, xr_01, xr_00, ieq_f, ieq_t, a1, a2]
          exact k4 0 (Or.inr ⟨rfl, by omega⟩)
        · by_cases c4 : S 19 i = u
          · simp (disch := first | exact hR _ _ | exact x01a | exact x01b | (unfold x_r; omega) | assumption | omega) only [wM_remove_171, wM_remove_172, wM_remove_173, wM_remove_176, wM_remove_177, wM_remove_178, wM_remove_181, wM_remove_182, wM_remove_185, wM_remove_187, wM_remove_188, wM_remove_189, wM_remove_192, wM_remove_193, wM_remove_196, wM_remove_198, wM_remove_199, wM_remove_200, wM_remove_203, wM_remove_204, wM_remove_207, x_gi_int, x_ga_ref, x_ga_null, List.getElem?_cons_zero, List.getElem?_cons_succ, List.length_cons, List.length_nil, List.set_cons_zero, List.set_cons_succ, Nat.reduceAdd, Nat.reduceLT, xr_lt, xr_eq, xr_toInt, xr_0, xi_add, xi_sub, xi_mul, xr_div, xr_rm, Int.toNat_natCast, bd_t, true_and, and_true, not_false_eq_true, ↓reduceIte, ilt_t, ilt_f, ile_t, x_c1i, x_c1r, x_c1n, and_self, Option.toList_some, Option.toList_none, List.cons_append, List.nil_append, xr_01, xr_00, ieq_f, ieq_t, a1, a2]
            exact k4 1 (Or.inl ⟨rfl, by omega⟩)
          · simp (disch := first | exact hR _ _ | exact x01a | exact x01b | (unfold x_r; omega) | assumption | omega) only [wM_remove_171, wM_remove_172, wM_remove_173, wM_remove_176, wM_remove_177, wM_remove_178, wM_remove_181, wM_remove_182, wM_remove_185, wM_remove_187, wM_remove_188, wM_remove_189, wM_remove_192, wM_remove_193, wM_remove_196, wM_remove_198, wM_remove_199, wM_remove_200, wM_remove_203, wM_remove_204, wM_remove_207, x_gi_int, x_ga_ref, x_ga_null, List.getElem?_cons_zero, List.getElem?_cons_succ, List.length_cons, List.length_nil, List.set_cons_zero, List.set_cons_succ, Nat.reduceAdd, Nat.reduceLT, xr_lt, xr_eq, xr_toInt, xr_0, xi_add, xi_sub, xi_mul, xr_div, xr_rm, Int.toNat_natCast, bd_t, true_and, and_true, not_false_eq_true, ↓reduceIte, ilt_t, ilt_f, ile_t, x_c1i, x_c1r, x_c1n, and_self, Option.toList_some, Option.toList_none, List.cons_append, List.nil_append, xr_01, xr_00, ieq_f, ieq_t, a1, a2]
            exact k4 0 (Or.inr ⟨rfl, by omega⟩)
      · by_cases c2 : k = 4
        · by_cases c3 : S 10 i < 3
          · simp (disch := first | exact hR _ _ | exact x01a | exact x01b | (unfold x_r; omega) | assumption | omega) only [wM_remove_171, wM_remove_172, wM_remove_173, wM_remove_176, wM_remove_177, wM_remove_178, wM_remove_181, wM_remove_182, wM_remove_185, wM_remove_187, wM_remove_188, wM_remove_189, wM_remove_192, wM_remove_193, wM_remove_196, wM_remove_198, wM_remove_199, wM_remove_200, wM_remove_203, wM_remove_204, wM_remove_207, x_gi_int, x_ga_ref, x_ga_null, List.getElem?_cons_zero, List.getElem?_cons_succ, List.length_cons, List.length_nil, List.set_cons_zero, List.set_cons_succ, Nat.reduceAdd, Nat.reduceLT, xr_lt, xr_eq, xr_toInt, xr_0, xi_add, xi_sub, xi_mul, xr_div, xr_rm, Int.toNat_natCast, bd_t, true_and, and_true, not_false_eq_true, ↓reduceIte, ilt_t, ilt_f, ile_t, x_c1i, x_c1r, x_c1n, and_self, Option.toList_some, Option.toList_none, List.cons_append, List.nil_append, xr_01, xr_00, ieq_f, ieq_t, a1, a2]
            exact k4 0 (Or.inr ⟨rfl, by omega⟩)
          · by_cases c4 : S 19 i = u
            · simp (disch := first | exact hR _ _ | exact x01a | exact x01b | (unfold x_r; omega) | assumption | omega) only [wM_remove_171, wM_remove_172, wM_remove_173, wM_remove_176, wM_remove_177, wM_remove_178, wM_remove_181, wM_remove_182, wM_remove_185, wM_remove_187, wM_remove_188, wM_remove_189, wM_remove_192, wM_remove_193, wM_remove_196, wM_remove_198, wM_remove_199, wM_remove_200, wM_remove_203, wM_remove_204, wM_remove_207, x_gi_int, x_ga_ref, x_ga_null, List.getElem?_cons_zero, List.getElem?_cons_succ, List.length_cons, List.length_nil, List.set_cons_zero, List.set_cons_succ, Nat.reduceAdd, Nat.reduceLT, xr_lt, xr_eq, xr_toInt, xr_0, xi_add, xi_sub, xi_mul, xr_div, xr_rm, Int.toNat_natCast, bd_t, true_and, and_true, not_false_eq_true, ↓reduceIte, ilt_t, ilt_f, ile_t, x_c1i, x_c1r, x_c1n, and_self, Option.toList_some, Option.toList_none, List.cons_append, List.nil_append, xr_01, xr_00, ieq_f, ieq_t, a1, a2]
              exact k4 1 (Or.inl ⟨rfl, by omega⟩)
            · simp (disch := first | exact hR _ _ | exact x01a | exact x01b | (unfold x_r; omega) | assumption | omega) only [wM_remove_171, wM_remove_172, wM_remove_173, wM_remove_176, wM_remove_177, wM_remove_178, wM_remove_181, wM_remove_182, wM_remove_185, wM_remove_187, wM_remove_188, wM_remove_189, wM_remove_192, wM_remove_193, wM_remove_196, wM_remove_198, wM_remove_199, wM_remove_200, wM_remove_203, wM_remove_204, wM_remove_207, x_gi_int, x_ga_ref, x_ga_null, List.getElem?_cons_zero, List.getElem?_cons_succ, List.length_cons, List.length_nil, List.set_cons_zero, List.set_cons_succ, Nat.reduceAdd, Nat.reduceLT, xr_lt, xr_eq, xr_toInt, xr_0, xi_add, xi_sub, xi_mul, xr_div, xr_rm, Int.toNat_natCast, bd_t, true_and, and_true, not_false_eq_true, ↓reduceIte, ilt_t, ilt_f, ile_t, x_c1i, x_c1r, x_c1n, and_self, Option.toList_some, Option.toList_none, List.cons_append, List.nil_append, xr_01, xr_00, ieq_f, ieq_t, a1, a2]
              exact k4 0 (Or.inr ⟨rfl, by omega⟩)
        · simp (disch := first | exact hR _ _ | exact x01a | exact x01b | (unfold x_r; omega) | assumption | omega) only [wM_remove_171, wM_remove_172, wM_remove_173, wM_remove_176, wM_remove_177, wM_remove_178, wM_remove_181, wM_remove_182, wM_remove_185, wM_remove_187, wM_remove_188, wM_remove_189, wM_remove_192, wM_remove_193, wM_remove_196, wM_remove_198, wM_remove_199, wM_remove_200, wM_remove_203, wM_remove_204, wM_remove_207, x_gi_int, x_ga_ref, x_ga_null, List.getElem?_cons_zero, List.getElem?_cons_succ, List.length_cons, List.length_nil, List.set_cons_zero, List.set_cons_succ, Nat.reduceAdd, Nat.reduceLT, xr_lt, xr_eq, xr_toInt, xr_0, xi_add, xi_sub, xi_mul, xr_div, xr_rm, Int.toNat_natCast, bd_t, true_and, and_true, not_false_eq_true, ↓reduceIte, ilt_t, ilt_f, ile_t, x_c1i, x_c1r, x_c1n, and_self, Option.toList_some, Option.toList_none, List.cons_append, List.nil_append, xr_01, xr_00, ieq_f, ieq_t, a1, a2]
          exact k4 0 (Or.inr ⟨rfl, by omega⟩)
    -- the space's part
    have k2 : ∀ ta : Int, ta = rm_tab S k u i → WP P 92 137 [some (.ref mo), some (.int (xi s)), some (.int (xi k)), some (.int (xi u)), some (.int (xi i)), b] [] (putR w mo (sset (mapA (mapA (mapA S 11 i (rm_tab S k u)) 12 i (rm_spa S k u)) 10 i (rm_sta S k u)) 11 i ta)) Q := by
      intro ta hta
      have a1 : (sset (mapA (mapA (mapA S 11 i (rm_tab S k u)) 12 i (rm_spa S k u)) 10 i (rm_sta S k u)) 11 i ta) 12 i = S 12 i := by simp [sset_at, mapA_at]
      by_cases c1 : k = 5
      · by_cases c2 : S 12 i = u
        · simp (disch := first | exact hR _ _ | exact x01a | exact x01b | (unfold x_r; omega) | assumption | omega) only [wM_remove_137, wM_remove_138, wM_remove_141, wM_remove_143, wM_remove_144, wM_remove_145, wM_remove_148, wM_remove_149, wM_remove_152, wM_remove_154, wM_remove_155, wM_remove_156, wM_remove_159, wM_remove_160, wM_remove_163, wM_remove_164, wM_remove_167, wM_remove_169, wM_remove_170, x_gi_int, x_ga_ref, x_ga_null, List.getElem?_cons_zero, List.getElem?_cons_succ, List.length_cons, List.length_nil, List.set_cons_zero, List.set_cons_succ, Nat.reduceAdd, Nat.reduceLT, xr_lt, xr_eq, xr_toInt, xr_0, xi_add, xi_sub, xi_mul, xr_div, xr_rm, Int.toNat_natCast, bd_t, true_and, and_true, not_false_eq_true, ↓reduceIte, ilt_t, ilt_f, ile_t, x_c1i, x_c1r, x_c1n, and_self, Option.toList_some, Option.toList_none, List.cons_append, List.nil_append, xr_01, xr_00, ieq_f, ieq_t, a1]
          exact k3 ta (-1) hta (by unfold rm_spa; rw [if_pos ⟨c1, c2⟩])
        · simp (disch := first | exact hR _ _ | exact x01a | exact x01b | (unfold x_r; omega) | assumption | omega) only [wM_remove_137, wM_remove_138, wM_remove_141, wM_remove_143, wM_remove_144, wM_remove_145, wM_remove_148, wM_remove_149, wM_remove_152, wM_remove_154, wM_remove_155, wM_remove_156, wM_remove_159, wM_remove_160, wM_remove_163, wM_remove_164, wM_remove_167, wM_remove_169, wM_remove_170, x_gi_int, x_ga_ref, x_ga_null, List.getElem?_cons_zero, List.getElem?_cons_succ, List.length_cons, List.length_nil, List.set_cons_zero, List.set_cons_succ, Nat.reduceAdd, Nat.reduceLT, xr_lt, xr_eq, xr_toInt, xr_0, xi_add, xi_sub, xi_mul, xr_div, xr_rm, Int.toNat_natCast, bd_t, true_and, and_true, not_false_eq_true, ↓reduceIte, ilt_t, ilt_f, ile_t, x_c1i, x_c1r, x_c1n, and_self, Option.toList_some, Option.toList_none, List.cons_append, List.nil_append, xr_01, xr_00, ieq_f, ieq_t, a1]
          exact k3 ta (S 12 i) hta (by unfold rm_spa; rw [if_neg (fun q => c2 q.2)])
      · simp (disch := first | exact hR _ _ | exact x01a | exact x01b | (unfold x_r; omega) | assumption | omega) only [wM_remove_137, wM_remove_138, wM_remove_141, wM_remove_143, wM_remove_144, wM_remove_145, wM_remove_148, wM_remove_149, wM_remove_152, wM_remove_154, wM_remove_155, wM_remove_156, wM_remove_159, wM_remove_160, wM_remove_163, wM_remove_164, wM_remove_167, wM_remove_169, wM_remove_170, x_gi_int, x_ga_ref, x_ga_null, List.getElem?_cons_zero, List.getElem?_cons_succ, List.length_cons, List.length_nil, List.set_cons_zero, List.set_cons_succ, Nat.reduceAdd, Nat.reduceLT, xr_lt, xr_eq, xr_toInt, xr_0, xi_add, xi_sub, xi_mul, xr_div, xr_rm, Int.toNat_natCast, bd_t, true_and, and_true, not_false_eq_true, ↓reduceIte, ilt_t, ilt_f, ile_t, x_c1i, x_c1r, x_c1n, and_self, Option.toList_some, Option.toList_none, List.cons_append, List.nil_append, xr_01, xr_00, ieq_f, ieq_t, a1]
        exact k3 ta (S 12 i) hta (by unfold rm_spa; rw [if_neg (fun q => c1 q.1)])
    have a1 : (mapA (mapA (mapA S 11 i (rm_tab S k u)) 12 i (rm_spa S k u)) 10 i (rm_sta S k u)) 11 i = S 11 i := by simp [mapA_at]
    by_cases c1 : k = 1
    · by_cases c2 : S 11 i = u
      · simp (disch := first | exact hR _ _ | exact x01a | exact x01b | (unfold x_r; omega) | assumption | omega) only [wM_remove_98, wM_remove_100, wM_remove_103, wM_remove_104, wM_remove_107, wM_remove_109, wM_remove_110, wM_remove_111, wM_remove_114, wM_remove_115, wM_remove_118, wM_remove_120, wM_remove_121, wM_remove_122, wM_remove_125, wM_remove_126, wM_remove_129, wM_remove_130, wM_remove_133, wM_remove_135, wM_remove_136, x_gi_int, x_ga_ref, x_ga_null, List.getElem?_cons_zero, List.getElem?_cons_succ, List.length_cons, List.length_nil, List.set_cons_zero, List.set_cons_succ, Nat.reduceAdd, Nat.reduceLT, xr_lt, xr_eq, xr_toInt, xr_0, xi_add, xi_sub, xi_mul, xr_div, xr_rm, Int.toNat_natCast, bd_t, true_and, and_true, not_false_eq_true, ↓reduceIte, ilt_t, ilt_f, ile_t, x_c1i, x_c1r, x_c1n, and_self, Option.toList_some, Option.toList_none, List.cons_append, List.nil_append, xr_01, xr_00, ieq_f, ieq_t, a1]
        exact k2 (-1) (by unfold rm_tab; rw [if_pos ⟨c1, c2⟩])
      · simp (disch := first | exact hR _ _ | exact x01a | exact x01b | (unfold x_r; omega) | assumption | omega) only [wM_remove_98, wM_remove_100, wM_remove_103, wM_remove_104, wM_remove_107, wM_remove_109, wM_remove_110, wM_remove_111, wM_remove_114, wM_remove_115, wM_remove_118, wM_remove_120, wM_remove_121, wM_remove_122, wM_remove_125, wM_remove_126, wM_remove_129, wM_remove_130, wM_remove_133, wM_remove_135, wM_remove_136, x_gi_int, x_ga_ref, x_ga_null, List.getElem?_cons_zero, List.getElem?_cons_succ, List.length_cons, List.length_nil, List.set_cons_zero, List.set_cons_succ, Nat.reduceAdd, Nat.reduceLT, xr_lt, xr_eq, xr_toInt, xr_0, xi_add, xi_sub, xi_mul, xr_div, xr_rm, Int.toNat_natCast, bd_t, true_and, and_true, not_false_eq_true, ↓reduceIte, ilt_t, ilt_f, ile_t, x_c1i, x_c1r, x_c1n, and_self, Option.toList_some, Option.toList_none, List.cons_append, List.nil_append, xr_01, xr_00, ieq_f, ieq_t, a1]
        exact k2 (S 11 i) (by unfold rm_tab; rw [if_neg (fun q => c2 q.2)])
    · simp (disch := first | exact hR _ _ | exact x01a | exact x01b | (unfold x_r; omega) | assumption | omega) only [wM_remove_98, wM_remove_100, wM_remove_103, wM_remove_104, wM_remove_107, wM_remove_109, wM_remove_110, wM_remove_111, wM_remove_114, wM_remove_115, wM_remove_118, wM_remove_120, wM_remove_121, wM_remove_122, wM_remove_125, wM_remove_126, wM_remove_129, wM_remove_130, wM_remove_133, wM_remove_135, wM_remove_136, x_gi_int, x_ga_ref, x_ga_null, List.getElem?_cons_zero, List.getElem?_cons_succ, List.length_cons, List.length_nil, List.set_cons_zero, List.set_cons_succ, Nat.reduceAdd, Nat.reduceLT, xr_lt, xr_eq, xr_toInt, xr_0, xi_add, xi_sub, xi_mul, xr_div, xr_rm, Int.toNat_natCast, bd_t, true_and, and_true, not_false_eq_true, ↓reduceIte, ilt_t, ilt_f, ile_t, x_c1i, x_c1r, x_c1n, and_self, Option.toList_some, Option.toList_none, List.cons_append, List.nil_append, xr_01, xr_00, ieq_f, ieq_t, a1]
      exact k2 (S 11 i) (by unfold rm_tab; rw [if_neg (fun q => c1 q.1)])
end RD
