section RE
variable {P : xP} {w : xH} {Q : Option Value → xH → Prop} {mo : Nat} {S : xS}
set_option maxHeartbeats 4000000 in
theorem m_rm3 {s k u : Int} {b : Option Value} (hR : RgS S) (hk : x_r k) (hu0 : 0 ≤ u) (hu1 : u < 128) (hQ : WP P 92 358 [some (.ref mo), some (.int (xi s)), some (.int (xi k)), some (.int (xi u)), some (.int (xi 128)), b] [] (putR w mo (mapA (mapA S 9 128 (rm_doo S k u)) 7 128 (rm_inl S k u))) Q) : ∀ (d i : Nat), i + d = 128 →
    WP P 92 260 [some (.ref mo), some (.int (xi s)), some (.int (xi k)), some (.int (xi u)), some (.int (xi i)), b] [] (putR w mo (mapA (mapA S 9 i (rm_doo S k u)) 7 i (rm_inl S k u))) Q := by
  intro d
  have hk1 := hk.1
  have hk2 := hk.2
  induction d with
  | zero =>
    intro i hi
    obtain rfl : i = 128 := by omega
    simp (disch := first | exact hR _ _ | exact x01a | exact x01b | (unfold x_r; omega) | assumption | omega) only [wM_remove_260, wM_remove_262, wM_remove_265, x_gi_int, x_ga_ref, x_ga_null, List.getElem?_cons_zero, List.getElem?_cons_succ, List.length_cons, List.length_nil, List.set_cons_zero, List.set_cons_succ, Nat.reduceAdd, Nat.reduceLT, xr_lt, xr_eq, xr_toInt, xr_0, xi_add, xi_sub, xi_mul, xr_div, xr_rm, Int.toNat_natCast, bd_t, true_and, and_true, not_false_eq_true, ↓reduceIte, ilt_t, ilt_f, ile_t, x_c1i, x_c1r, x_c1n, and_self, Option.toList_some, Option.toList_none, List.cons_append, List.nil_append, xr_01, xr_00, ieq_f, ieq_t]
    exact hQ
  | succ d ih =>
    intro i hi
    have i1 := ih (i + 1) (by omega)
    rw [wM_remove_260]
    have a9 : (mapA (mapA S 9 i (rm_doo S k u)) 7 i (rm_inl S k u)) 9 i = S 9 i := by simp [mapA_at]
    have a0 : (mapA (mapA S 9 i (rm_doo S k u)) 7 i (rm_inl S k u)) 0 i = S 0 i := by simp [mapA_at]
    have k2 : ∀ v : Int, v = rm_doo S k u i → WP P 92 317 [some (.ref mo), some (.int (xi s)), some (.int (xi k)), some (.int (xi u)), some (.int (xi i)), b] [] (putR w mo (sset (mapA (mapA S 9 i (rm_doo S k u)) 7 i (rm_inl S k u)) 9 i v)) Q := by
      intro v hv
      have a7 : (sset (mapA (mapA S 9 i (rm_doo S k u)) 7 i (rm_inl S k u)) 9 i v) 7 i = S 7 i := by simp [sset_at, mapA_at]
      have key : ∀ z, z = rm_inl S k u i → sset (sset (mapA (mapA S 9 i (rm_doo S k u)) 7 i (rm_inl S k u)) 9 i v) 7 i z = mapA (mapA S 9 (i + 1) (rm_doo S k u)) 7 (i + 1) (rm_inl S k u) := by
        intro z hz
        rw [mapA_c (j := 7) (j2 := 9) (by omega), mapA_s hz, mapA_s hv]
      by_cases c1 : k = 6
      · by_cases c2 : S 7 i = u
        · simp (disch := first | exact hR _ _ | exact x01a | exact x01b | (unfold x_r; omega) | assumption | omega) only [wM_remove_317, wM_remove_318, wM_remove_321, wM_remove_323, wM_remove_324, wM_remove_326, wM_remove_329, wM_remove_330, wM_remove_333, wM_remove_335, wM_remove_336, wM_remove_337, wM_remove_340, wM_remove_341, wM_remove_344, wM_remove_345, wM_remove_348, wM_remove_350, wM_remove_351, wM_remove_352, wM_remove_355, x_gi_int, x_ga_ref, x_ga_null, List.getElem?_cons_zero, List.getElem?_cons_succ, List.length_cons, List.length_nil, List.set_cons_zero, List.set_cons_succ, Nat.reduceAdd, Nat.reduceLT, xr_lt, xr_eq, xr_toInt, xr_0, xi_add, xi_sub, xi_mul, xr_div, xr_rm, Int.toNat_natCast, bd_t, true_and, and_true, not_false_eq_true, ↓reduceIte, ilt_t, ilt_f, ile_t, x_c1i, x_c1r, x_c1n, and_self, Option.toList_some, Option.toList_none, List.cons_append, List.nil_append, xr_01, xr_00, ieq_f, ieq_t, a7]
          rw [key (-1) (by unfold rm_inl; rw [if_pos ⟨c1, c2⟩])]
          exact i1
        · simp (disch := first | exact hR _ _ | exact x01a | exact x01b | (unfold x_r; omega) | assumption | omega) only [wM_remove_317, wM_remove_318, wM_remove_321, wM_remove_323, wM_remove_324, wM_remove_326, wM_remove_329, wM_remove_330, wM_remove_333, wM_remove_335, wM_remove_336, wM_remove_337, wM_remove_340, wM_remove_341, wM_remove_344, wM_remove_345, wM_remove_348, wM_remove_350, wM_remove_351, wM_remove_352, wM_remove_355, x_gi_int, x_ga_ref, x_ga_null, List.getElem?_cons_zero, List.getElem?_cons_succ, List.length_cons, List.length_nil, List.set_cons_zero, List.set_cons_succ, Nat.reduceAdd, Nat.reduceLT, xr_lt, xr_eq, xr_toInt, xr_0, xi_add, xi_sub, xi_mul, xr_div, xr_rm, Int.toNat_natCast, bd_t, true_and, and_true, not_false_eq_true, ↓reduceIte, ilt_t, ilt_f, ile_t, x_c1i, x_c1r, x_c1n, and_self, Option.toList_some, Option.toList_none, List.cons_append, List.nil_append, xr_01, xr_00, ieq_f, ieq_t, a7]
          rw [key (S 7 i) (by unfold rm_inl; rw [if_neg (fun q => c2 q.2)])]
          exact i1
      · simp (disch := first | exact hR _ _ | exact x01a | exact x01b | (unfold x_r; omega) | assumption | omega) only [wM_remove_317, wM_remove_318, wM_remove_321, wM_remove_323, wM_remove_324, wM_remove_326, wM_remove_329, wM_remove_330, wM_remove_333, wM_remove_335, wM_remove_336, wM_remove_337, wM_remove_340, wM_remove_341, wM_remove_344, wM_remove_345, wM_remove_348, wM_remove_350, wM_remove_351, wM_remove_352, wM_remove_355, x_gi_int, x_ga_ref, x_ga_null, List.getElem?_cons_zero, List.getElem?_cons_succ, List.length_cons, List.length_nil, List.set_cons_zero, List.set_cons_succ, Nat.reduceAdd, Nat.reduceLT, xr_lt, xr_eq, xr_toInt, xr_0, xi_add, xi_sub, xi_mul, xr_div, xr_rm, Int.toNat_natCast, bd_t, true_and, and_true, not_false_eq_true, ↓reduceIte, ilt_t, ilt_f, ile_t, x_c1i, x_c1r, x_c1n, and_self, Option.toList_some, Option.toList_none, List.cons_append, List.nil_append, xr_01, xr_00, ieq_f, ieq_t, a7]
        rw [key (S 7 i) (by unfold rm_inl; rw [if_neg (fun q => c1 q.1)])]
        exact i1
    by_cases c0 : S 9 i = 0
    · by_cases c1 : k = 1
      · by_cases c2 : (i : Int) / 16 = u / 16
        · by_cases c3 : S 0 i < 0
          · simp (disch := first | exact hR _ _ | exact x01a | exact x01b | (unfold x_r; omega) | assumption | omega) only [wM_remove_262, wM_remove_265, wM_remove_268, wM_remove_269, wM_remove_272, wM_remove_274, wM_remove_275, wM_remove_278, wM_remove_280, wM_remove_281, wM_remove_284, wM_remove_285, wM_remove_286, wM_remove_289, wM_remove_291, wM_remove_293, wM_remove_294, wM_remove_295, wM_remove_297, wM_remove_298, wM_remove_301, wM_remove_302, wM_remove_305, wM_remove_307, wM_remove_308, wM_remove_311, wM_remove_312, wM_remove_315, wM_remove_316, x_gi_int, x_ga_ref, x_ga_null, List.getElem?_cons_zero, List.getElem?_cons_succ, List.length_cons, List.length_nil, List.set_cons_zero, List.set_cons_succ, Nat.reduceAdd, Nat.reduceLT, xr_lt, xr_eq, xr_toInt, xr_0, xi_add, xi_sub, xi_mul, xr_div, xr_rm, Int.toNat_natCast, bd_t, true_and, and_true, not_false_eq_true, ↓reduceIte, ilt_t, ilt_f, ile_t, x_c1i, x_c1r, x_c1n, and_self, Option.toList_some, Option.toList_none, List.cons_append, List.nil_append, xr_01, xr_00, ieq_f, ieq_t, a9, a0, true_or, or_true]
            exact k2 0 (by unfold rm_doo; rw [if_neg (by omega)])
          · simp (disch := first | exact hR _ _ | exact x01a | exact x01b | (unfold x_r; omega) | assumption | omega) only [wM_remove_262, wM_remove_265, wM_remove_268, wM_remove_269, wM_remove_272, wM_remove_274, wM_remove_275, wM_remove_278, wM_remove_280, wM_remove_281, wM_remove_284, wM_remove_285, wM_remove_286, wM_remove_289, wM_remove_291, wM_remove_293, wM_remove_294, wM_remove_295, wM_remove_297, wM_remove_298, wM_remove_301, wM_remove_302, wM_remove_305, wM_remove_307, wM_remove_308, wM_remove_311, wM_remove_312, wM_remove_315, wM_remove_316, x_gi_int, x_ga_ref, x_ga_null, List.getElem?_cons_zero, List.getElem?_cons_succ, List.length_cons, List.length_nil, List.set_cons_zero, List.set_cons_succ, Nat.reduceAdd, Nat.reduceLT, xr_lt, xr_eq, xr_toInt, xr_0, xi_add, xi_sub, xi_mul, xr_div, xr_rm, Int.toNat_natCast, bd_t, true_and, and_true, not_false_eq_true, ↓reduceIte, ilt_t, ilt_f, ile_t, x_c1i, x_c1r, x_c1n, and_self, Option.toList_some, Option.toList_none, List.cons_append, List.nil_append, xr_01, xr_00, ieq_f, ieq_t, a9, a0, true_or, or_true]
            exact k2 1 (by unfold rm_doo; rw [if_pos (by omega)])
        · simp (disch := first | exact hR _ _ | exact x01a | exact x01b | (unfold x_r; omega) | assumption | omega) only [wM_remove_262, wM_remove_265, wM_remove_268, wM_remove_269, wM_remove_272, wM_remove_274, wM_remove_275, wM_remove_278, wM_remove_280, wM_remove_281, wM_remove_284, wM_remove_285, wM_remove_286, wM_remove_289, wM_remove_291, wM_remove_293, wM_remove_294, wM_remove_295, wM_remove_297, wM_remove_298, wM_remove_301, wM_remove_302, wM_remove_305, wM_remove_307, wM_remove_308, wM_remove_311, wM_remove_312, wM_remove_315, wM_remove_316, x_gi_int, x_ga_ref, x_ga_null, List.getElem?_cons_zero, List.getElem?_cons_succ, List.length_cons, List.length_nil, List.set_cons_zero, List.set_cons_succ, Nat.reduceAdd, Nat.reduceLT, xr_lt, xr_eq, xr_toInt, xr_0, xi_add, xi_sub, xi_mul, xr_div, xr_rm, Int.toNat_natCast, bd_t, true_and, and_true, not_false_eq_true, ↓reduceIte, ilt_t, ilt_f, ile_t, x_c1i, x_c1r, x_c1n, and_self, Option.toList_some, Option.toList_none, List.cons_append, List.nil_append, xr_01, xr_00, ieq_f, ieq_t, a9, a0, true_or, or_true]
          exact k2 0 (by unfold rm_doo; rw [if_neg (by omega)])
      · simp (disch := first | exact hR _ _ | exact x01a | exact x01b | (unfold x_r; omega) | assumption | omega) only [wM_remove_262, wM_remove_265, wM_remove_268, wM_remove_269, wM_remove_272, wM_remove_274, wM_remove_275, wM_remove_278, wM_remove_280, wM_remove_281, wM_remove_284, wM_remove_285, wM_remove_286, wM_remove_289, wM_remove_291, wM_remove_293, wM_remove_294, wM_remove_295, wM_remove_297, wM_remove_298, wM_remove_301, wM_remove_302, wM_remove_305, wM_remove_307, wM_remove_308, wM_remove_311, wM_remove_312, wM_remove_315, wM_remove_316, x_gi_int, x_ga_ref, x_ga_null, List.getElem?_cons_zero, List.getElem?_cons_succ, List.length_cons, List.length_nil, List.set_cons_zero, List.set_cons_succ, Nat.reduceAdd, Nat.reduceLT, xr_lt, xr_eq, xr_toInt, xr_0, xi_add, xi_sub, xi_mul, xr_div, xr_rm, Int.toNat_natCast, bd_t, true_and, and_true, not_false_eq_true, ↓reduceIte, ilt_t, ilt_f, ile_t, x_c1i, x_c1r, x_c1n, and_self, Option.toList_some, Option.toList_none, List.cons_append, List.nil_append, xr_01, xr_00, ieq_f, ieq_t, a9, a0, true_or, or_true]
        exact k2 0 (by unfold rm_doo; rw [if_neg (by omega)])
    · simp (disch := first | exact hR _ _ | exact x01a | exact x01b | (unfold x_r; omega) | assumption | omega) only [wM_remove_262, wM_remove_265, wM_remove_268, wM_remove_269, wM_remove_272, wM_remove_274, wM_remove_275, wM_remove_278, wM_remove_280, wM_remove_281, wM_remove_284, wM_remove_285, wM_remove_286, wM_remove_289, wM_remove_291, wM_remove_293, wM_remove_294, wM_remove_295, wM_remove_297, wM_remove_298, wM_remove_301, wM_remove_302, wM_remove_305, wM_remove_307, wM_remove_308, wM_remove_311, wM_remove_312, wM_remove_315, wM_remove_316, x_gi_int, x_ga_ref, x_ga_null, List.getElem?_cons_zero, List.getElem?_cons_succ, List.length_cons, List.length_nil, List.set_cons_zero, List.set_cons_succ, Nat.reduceAdd, Nat.reduceLT, xr_lt, xr_eq, xr_toInt, xr_0, xi_add, xi_sub, xi_mul, xr_div, xr_rm, Int.toNat_natCast, bd_t, true_and, and_true, not_false_eq_true, ↓reduceIte, ilt_t, ilt_f, ile_t, x_c1i, x_c1r, x_c1n, and_self, Option.toList_some, Option.toList_none, List.cons_append, List.nil_append, xr_01, xr_00, ieq_f, ieq_t, a9, a0, true_or, or_true]
      exact k2 1 (by unfold rm_doo; rw [if_pos (Or.inl c0)])
set_option maxHeartbeats 4000000 in
theorem m_rm4 {s k u : Int} {b : Option Value} (hR : RgS S) (hk : x_r k) (hu0 : 0 ≤ u) (hu1 : u < 128) (hQ : WP P 92 422 [some (.ref mo), some (.int (xi s)), some (.int (xi k)), some (.int (xi u)), some (.int (xi 32)), b] [] (putR w mo (mapA S 25 32 (rm_les S k u))) Q) : ∀ (d i : Nat), i + d = 32 →
    WP P 92 361 [some (.ref mo), some (.int (xi s)), some (.int (xi k)), some (.int (xi u)), some (.int (xi i)), b] [] (putR w mo (mapA S 25 i (rm_les S k u))) Q := by
  intro d
  have hk1 := hk.1
  have hk2 := hk.2
  induction d with
  | zero =>
    intro i hi
    obtain rfl : i = 32 := by omega
    simp (disch := first | exact hR _ _ | exact x01a | exact x01b | (unfold x_r; omega) | assumption | omega) only [wM_remove_361, wM_remove_363, wM_remove_365, x_gi_int, x_ga_ref, x_ga_null, List.getElem?_cons_zero, List.getElem?_cons_succ, List.length_cons, List.length_nil, List.set_cons_zero, List.set_cons_succ, Nat.reduceAdd, Nat.reduceLT, xr_lt, xr_eq, xr_toInt, xr_0, xi_add, xi_sub, xi_mul, xr_div, xr_rm, Int.toNat_natCast, bd_t, true_and, and_true, not_false_eq_true, ↓reduceIte, ilt_t, ilt_f, ile_t, x_c1i, x_c1r, x_c1n, and_self, Option.toList_some, Option.toList_none, List.cons_append, List.nil_append, xr_01, xr_00, ieq_f, ieq_t]
    exact hQ
  | succ d ih =>
    intro i hi
    have i1 := ih (i + 1) (by omega)
    rw [wM_remove_361]
    have a5 : (mapA S 25 i (rm_les S k u)) 25 i = S 25 i := by simp [mapA_at]
    by_cases c1 : k = 6
    · by_cases c2 : (i : Int) = u / 4
      · simp (disch := first | exact hR _ _ | exact x01a | exact x01b | (unfold x_r; omega) | assumption | omega) only [wM_remove_363, wM_remove_365, wM_remove_368, wM_remove_369, wM_remove_372, wM_remove_374, wM_remove_375, wM_remove_377, wM_remove_380, wM_remove_382, wM_remove_383, wM_remove_384, wM_remove_385, wM_remove_388, wM_remove_389, wM_remove_390, wM_remove_393, wM_remove_394, wM_remove_397, wM_remove_399, wM_remove_400, wM_remove_401, wM_remove_404, wM_remove_405, wM_remove_408, wM_remove_409, wM_remove_412, wM_remove_414, wM_remove_415, wM_remove_416, wM_remove_419, x_gi_int, x_ga_ref, x_ga_null, List.getElem?_cons_zero, List.getElem?_cons_succ, List.length_cons, List.length_nil, List.set_cons_zero, List.set_cons_succ, Nat.reduceAdd, Nat.reduceLT, xr_lt, xr_eq, xr_toInt, xr_0, xi_add, xi_sub, xi_mul, xr_div, xr_rm, Int.toNat_natCast, bd_t, true_and, and_true, not_false_eq_true, ↓reduceIte, ilt_t, ilt_f, ile_t, x_c1i, x_c1r, x_c1n, and_self, Option.toList_some, Option.toList_none, List.cons_append, List.nil_append, xr_01, xr_00, ieq_f, ieq_t, a5]
        rw [mapA_s (show (-1 : Int) = rm_les S k u i by unfold rm_les; rw [if_pos (by omega)])]
        exact i1
      · simp (disch := first | exact hR _ _ | exact x01a | exact x01b | (unfold x_r; omega) | assumption | omega) only [wM_remove_363, wM_remove_365, wM_remove_368, wM_remove_369, wM_remove_372, wM_remove_374, wM_remove_375, wM_remove_377, wM_remove_380, wM_remove_382, wM_remove_383, wM_remove_384, wM_remove_385, wM_remove_388, wM_remove_389, wM_remove_390, wM_remove_393, wM_remove_394, wM_remove_397, wM_remove_399, wM_remove_400, wM_remove_401, wM_remove_404, wM_remove_405, wM_remove_408, wM_remove_409, wM_remove_412, wM_remove_414, wM_remove_415, wM_remove_416, wM_remove_419, x_gi_int, x_ga_ref, x_ga_null, List.getElem?_cons_zero, List.getElem?_cons_succ, List.length_cons, List.length_nil, List.set_cons_zero, List.set_cons_succ, Nat.reduceAdd, Nat.reduceLT, xr_lt, xr_eq, xr_toInt, xr_0, xi_add, xi_sub, xi_mul, xr_div, xr_rm, Int.toNat_natCast, bd_t, true_and, and_true, not_false_eq_true, ↓reduceIte, ilt_t, ilt_f, ile_t, x_c1i, x_c1r, x_c1n, and_self, Option.toList_some, Option.toList_none, List.cons_append, List.nil_append, xr_01, xr_00, ieq_f, ieq_t, a5]
        rw [mapA_s (show S 25 i = rm_les S k u i by unfold rm_les; rw [if_neg (by omega)])]
        exact i1
    · by_cases c3 : k = 5
      · by_cases c4 : S 25 i = u
        · simp (disch := first | exact hR _ _ | exact x01a | exact x01b | (unfold x_r; omega) | assumption | omega) only [wM_remove_363, wM_remove_365, wM_remove_368, wM_remove_369, wM_remove_372, wM_remove_374, wM_remove_375, wM_remove_377, wM_remove_380, wM_remove_382, wM_remove_383, wM_remove_384, wM_remove_385, wM_remove_388, wM_remove_389, wM_remove_390, wM_remove_393, wM_remove_394, wM_remove_397, wM_remove_399, wM_remove_400, wM_remove_401, wM_remove_404, wM_remove_405, wM_remove_408, wM_remove_409, wM_remove_412, wM_remove_414, wM_remove_415, wM_remove_416, wM_remove_419, x_gi_int, x_ga_ref, x_ga_null, List.getElem?_cons_zero, List.getElem?_cons_succ, List.length_cons, List.length_nil, List.set_cons_zero, List.set_cons_succ, Nat.reduceAdd, Nat.reduceLT, xr_lt, xr_eq, xr_toInt, xr_0, xi_add, xi_sub, xi_mul, xr_div, xr_rm, Int.toNat_natCast, bd_t, true_and, and_true, not_false_eq_true, ↓reduceIte, ilt_t, ilt_f, ile_t, x_c1i, x_c1r, x_c1n, and_self, Option.toList_some, Option.toList_none, List.cons_append, List.nil_append, xr_01, xr_00, ieq_f, ieq_t, a5]
          rw [mapA_s (show (-1 : Int) = rm_les S k u i by unfold rm_les; rw [if_pos (by omega)])]
          exact i1
        · simp (disch := first | exact hR _ _ | exact x01a | exact x01b | (unfold x_r; omega) | assumption | omega) only [wM_remove_363, wM_remove_365, wM_remove_368, wM_remove_369, wM_remove_372, wM_remove_374, wM_remove_375, wM_remove_377, wM_remove_380, wM_remove_382, wM_remove_383, wM_remove_384, wM_remove_385, wM_remove_388, wM_remove_389, wM_remove_390, wM_remove_393, wM_remove_394, wM_remove_397, wM_remove_399, wM_remove_400, wM_remove_401, wM_remove_404, wM_remove_405, wM_remove_408, wM_remove_409, wM_remove_412, wM_remove_414, wM_remove_415, wM_remove_416, wM_remove_419, x_gi_int, x_ga_ref, x_ga_null, List.getElem?_cons_zero, List.getElem?_cons_succ, List.length_cons, List.length_nil, List.set_cons_zero, List.set_cons_succ, Nat.reduceAdd, Nat.reduceLT, xr_lt, xr_eq, xr_toInt, xr_0, xi_add, xi_sub, xi_mul, xr_div, xr_rm, Int.toNat_natCast, bd_t, true_and, and_true, not_false_eq_true, ↓reduceIte, ilt_t, ilt_f, ile_t, x_c1i, x_c1r, x_c1n, and_self, Option.toList_some, Option.toList_none, List.cons_append, List.nil_append, xr_01, xr_00, ieq_f, ieq_t, a5]
          rw [mapA_s (show S 25 i = rm_les S k u i by unfold rm_les; rw [if_neg (by omega)])]
          exact i1
      · simp (disch := first | exact hR _ _ | exact x01a | exact x01b | (unfold x_r; omega) | assumption | omega) only [wM_remove_363, wM_remove_365, wM_remove_368, wM_remove_369, wM_remove_372, wM_remove_374, wM_remove_375, wM_remove_377, wM_remove_380, wM_remove_382, wM_remove_383, wM_remove_384, wM_remove_385, wM_remove_388, wM_remove_389, wM_remove_390, wM_remove_393, wM_remove_394, wM_remove_397, wM_remove_399, wM_remove_400, wM_remove_401, wM_remove_404, wM_remove_405, wM_remove_408, wM_remove_409, wM_remove_412, wM_remove_414, wM_remove_415, wM_remove_416, wM_remove_419, x_gi_int, x_ga_ref, x_ga_null, List.getElem?_cons_zero, List.getElem?_cons_succ, List.length_cons, List.length_nil, List.set_cons_zero, List.set_cons_succ, Nat.reduceAdd, Nat.reduceLT, xr_lt, xr_eq, xr_toInt, xr_0, xi_add, xi_sub, xi_mul, xr_div, xr_rm, Int.toNat_natCast, bd_t, true_and, and_true, not_false_eq_true, ↓reduceIte, ilt_t, ilt_f, ile_t, x_c1i, x_c1r, x_c1n, and_self, Option.toList_some, Option.toList_none, List.cons_append, List.nil_append, xr_01, xr_00, ieq_f, ieq_t, a5]
        rw [mapA_s (show S 25 i = rm_les S k u i by unfold rm_les; rw [if_neg (by omega)])]
        exact i1
set_option maxHeartbeats 4000000 in
theorem m_rm5 {s k u : Int} {b : Option Value} (hR : RgS S) (hk : x_r k) (hu0 : 0 ≤ u) (hu1 : u < 128) (hQ : Q none (putR w mo (mapA S 27 4 (rm_lin S k u)))) : ∀ (d i : Nat), i + d = 4 →
    WP P 92 425 [some (.ref mo), some (.int (xi s)), some (.int (xi k)), some (.int (xi u)), some (.int (xi i)), b] [] (putR w mo (mapA S 27 i (rm_lin S k u))) Q := by
  intro d
  have hk1 := hk.1
  have hk2 := hk.2
  induction d with
  | zero =>
    intro i hi
    obtain rfl : i = 4 := by omega
    simp (disch := first | exact hR _ _ | exact x01a | exact x01b | (unfold x_r; omega) | assumption | omega) only [wM_remove_425, wM_remove_427, wM_remove_428, wM_remove_471, x_gi_int, x_ga_ref, x_ga_null, List.getElem?_cons_zero, List.getElem?_cons_succ, List.length_cons, List.length_nil, List.set_cons_zero, List.set_cons_succ, Nat.reduceAdd, Nat.reduceLT, xr_lt, xr_eq, xr_toInt, xr_0, xi_add, xi_sub, xi_mul, xr_div, xr_rm, Int.toNat_natCast, bd_t, true_and, and_true, not_false_eq_true, ↓reduceIte, ilt_t, ilt_f, ile_t, x_c1i, x_c1r, x_c1n, and_self, Option.toList_some, Option.toList_none, List.cons_append, List.nil_append, xr_01, xr_00, ieq_f, ieq_t]
    exact hQ
  | succ d ih =>
    intro i hi
    have i1 := ih (i + 1) (by omega)
    rw [wM_remove_425]
    have a5 : (mapA S 27 i (rm_lin S k u)) 27 i = S 27 i := by simp [mapA_at]
    by_cases c3 : k = 4
    · by_cases c4 : S 27 i = u
      · simp (disch := first | exact hR _ _ | exact x01a | exact x01b | (unfold x_r; omega) | assumption | omega) only [wM_remove_427, wM_remove_428, wM_remove_431, wM_remove_432, wM_remove_435, wM_remove_437, wM_remove_438, wM_remove_439, wM_remove_442, wM_remove_443, wM_remove_446, wM_remove_448, wM_remove_449, wM_remove_450, wM_remove_453, wM_remove_454, wM_remove_457, wM_remove_458, wM_remove_461, wM_remove_463, wM_remove_464, wM_remove_465, wM_remove_468, x_gi_int, x_ga_ref, x_ga_null, List.getElem?_cons_zero, List.getElem?_cons_succ, List.length_cons, List.length_nil, List.set_cons_zero, List.set_cons_succ, Nat.reduceAdd, Nat.reduceLT, xr_lt, xr_eq, xr_toInt, xr_0, xi_add, xi_sub, xi_mul, xr_div, xr_rm, Int.toNat_natCast, bd_t, true_and, and_true, not_false_eq_true, ↓reduceIte, ilt_t, ilt_f, ile_t, x_c1i, x_c1r, x_c1n, and_self, Option.toList_some, Option.toList_none, List.cons_append, List.nil_append, xr_01, xr_00, ieq_f, ieq_t, a5]
        rw [mapA_s (show (-1 : Int) = rm_lin S k u i by unfold rm_lin; rw [if_pos ⟨c3, c4⟩])]
        exact i1
      · simp (disch := first | exact hR _ _ | exact x01a | exact x01b | (unfold x_r; omega) | assumption | omega) only [wM_remove_427, wM_remove_428, wM_remove_431, wM_remove_432, wM_remove_435, wM_remove_437, wM_remove_438, wM_remove_439, wM_remove_442, wM_remove_443, wM_remove_446, wM_remove_448, wM_remove_449, wM_remove_450, wM_remove_453, wM_remove_454, wM_remove_457, wM_remove_458, wM_remove_461, wM_remove_463, wM_remove_464, wM_remove_465, wM_remove_468, x_gi_int, x_ga_ref, x_ga_null, List.getElem?_cons_zero, List.getElem?_cons_succ, List.length_cons, List.length_nil, List.set_cons_zero, List.set_cons_succ, Nat.reduceAdd, Nat.reduceLT, xr_lt, xr_eq, xr_toInt, xr_0, xi_add, xi_sub, xi_mul, xr_div, xr_rm, Int.toNat_natCast, bd_t, true_and, and_true, not_false_eq_true, ↓reduceIte, ilt_t, ilt_f, ile_t, x_c1i, x_c1r, x_c1n, and_self, Option.toList_some, Option.toList_none, List.cons_append, List.nil_append, xr_01, xr_00, ieq_f, ieq_t, a5]
        rw [mapA_s (show S 27 i = rm_lin S k u i by unfold rm_lin; rw [if_neg (by omega)])]
        exact i1
    · simp (disch := first | exact hR _ _ | exact x01a | exact x01b | (unfold x_r; omega) | assumption | omega) only [wM_remove_427, wM_remove_428, wM_remove_431, wM_remove_432, wM_remove_435, wM_remove_437, wM_remove_438, wM_remove_439, wM_remove_442, wM_remove_443, wM_remove_446, wM_remove_448, wM_remove_449, wM_remove_450, wM_remove_453, wM_remove_454, wM_remove_457, wM_remove_458, wM_remove_461, wM_remove_463, wM_remove_464, wM_remove_465, wM_remove_468, x_gi_int, x_ga_ref, x_ga_null, List.getElem?_cons_zero, List.getElem?_cons_succ, List.length_cons, List.length_nil, List.set_cons_zero, List.set_cons_succ, Nat.reduceAdd, Nat.reduceLT, xr_lt, xr_eq, xr_toInt, xr_0, xi_add, xi_sub, xi_mul, xr_div, xr_rm, Int.toNat_natCast, bd_t, true_and, and_true, not_false_eq_true, ↓reduceIte, ilt_t, ilt_f, ile_t, x_c1i, x_c1r, x_c1n, and_self, Option.toList_some, Option.toList_none, List.cons_append, List.nil_append, xr_01, xr_00, ieq_f, ieq_t, a5]
      rw [mapA_s (show S 27 i = rm_lin S k u i by unfold rm_lin; rw [if_neg (by omega)])]
      exact i1
end RE
theorem RgS.map {S : xS} (h : RgS S) {j k : Nat} {f : Nat → Int} (hf : ∀ i, i < k → x_r (f i)) : RgS (mapA S j k f) := fun j' i => by
  rw [mapA_at]
  split
  next q => exact hf i q.2
  next => exact h j' i
/-- a capability goes, and with the last one its object -/
def s_rmA (S : xS) (s : Int) : xS := mapA (sset (sset S 9 s.toNat 0) 0 s.toNat (-1)) 4 128 (rm_par (sset (sset S 9 s.toNat 0) 0 s.toNat (-1)) s)
def s_rmB (S : xS) (k u : Int) : xS := mapA (mapA (mapA S 11 16 (rm_tab S k u)) 12 16 (rm_spa S k u)) 10 16 (rm_sta S k u)
def s_rmC (S : xS) (k u : Int) : xS := mapA (mapA S 9 128 (rm_doo S k u)) 7 128 (rm_inl S k u)
def s_rmD (S : xS) (k u : Int) : xS := mapA S 25 32 (rm_les S k u)
def s_rmE (S : xS) (k u : Int) : xS := mapA S 27 4 (rm_lin S k u)
def s_destroy (S : xS) (k u : Int) : xS := s_rmE (s_rmD (s_rmC (s_rmB S k u) k u) k u) k u
def s_remove (S : xS) (s : Int) : xS := if S 0 s.toNat = 0 then s_rmA S s else if 0 < s_holders (s_rmA S s) (S 0 s.toNat) (S 1 s.toNat) then s_rmA S s else s_destroy (s_rmA S s) (S 0 s.toNat) (S 1 s.toNat)
theorem x_r_m1 : x_r (-1) := ⟨by omega, by omega⟩
theorem x_r_0 : x_r 0 := ⟨by omega, by omega⟩
theorem x_r_1 : x_r 1 := ⟨by omega, by omega⟩
theorem RgS.rmA {S : xS} (h : RgS S) (s : Int) : RgS (s_rmA S s) := by
  have h1 : RgS (sset (sset S 9 s.toNat 0) 0 s.toNat (-1)) := (h.set x_r_0).set x_r_m1
  exact h1.map (fun i _ => by unfold rm_par; split <;> exact h1 _ _)
theorem RgS.rmB {S : xS} (h : RgS S) (k u : Int) : RgS (s_rmB S k u) := by
  refine ((h.map fun i _ => ?_).map fun i _ => ?_).map fun i _ => ?_
  · unfold rm_tab; split
    · exact x_r_m1
    · exact h _ _
  · unfold rm_spa; split
    · exact x_r_m1
    · exact h _ _
  · unfold rm_sta; split
    · exact x_r_1
    · split
      · exact x_r_0
      · exact h _ _
theorem RgS.rmC {S : xS} (h : RgS S) (k u : Int) : RgS (s_rmC S k u) := by
  refine (h.map fun i _ => ?_).map fun i _ => ?_
  · unfold rm_doo; split
    · exact x_r_1
    · exact x_r_0
  · unfold rm_inl; split
    · exact x_r_m1
    · exact h _ _
theorem RgS.rmD {S : xS} (h : RgS S) (k u : Int) : RgS (s_rmD S k u) := by
  refine h.map fun i _ => ?_
  unfold rm_les; split
  · exact x_r_m1
  · exact h _ _
section RF
variable {P : xP} {w : xH} {Q : Option Value → xH → Prop} {mo : Nat} {S : xS}
set_option maxHeartbeats 4000000 in
theorem m_remove {s : Int} (hR : RgS S) (h0 : 0 ≤ s) (h1 : s < 128) (hs : S 4 s.toNat ≠ s) (hu0 : 0 ≤ S 1 s.toNat) (hu1 : S 1 s.toNat < 128) (hQ : Q none (putR w mo (s_remove S s))) : WP P 92 0 [some (.ref mo), some (.int (xi s)), none, none, none, none] [] (putR w mo S) Q := by
  simp (disch := first | exact hR _ _ | exact x01a | exact x01b | (unfold x_r; omega) | assumption | omega) only [wM_remove_0, wM_remove_1, wM_remove_4, wM_remove_5, wM_remove_6, wM_remove_7, wM_remove_8, wM_remove_11, wM_remove_12, wM_remove_13, wM_remove_14, wM_remove_15, wM_remove_18, wM_remove_19, wM_remove_20, wM_remove_21, wM_remove_22, wM_remove_25, wM_remove_26, wM_remove_27, wM_remove_28, wM_remove_29, x_gi_int, x_ga_ref, x_ga_null, List.getElem?_cons_zero, List.getElem?_cons_succ, List.length_cons, List.length_nil, List.set_cons_zero, List.set_cons_succ, Nat.reduceAdd, Nat.reduceLT, xr_lt, xr_eq, xr_toInt, xr_0, xi_add, xi_sub, xi_mul, xr_div, xr_rm, Int.toNat_natCast, bd_t, true_and, and_true, not_false_eq_true, ↓reduceIte, ilt_t, ilt_f, ile_t, x_c1i, x_c1r, x_c1n, and_self, Option.toList_some, Option.toList_none, List.cons_append, List.nil_append, xr_01, xr_00, ieq_f, ieq_t, sset_at, Nat.reduceEqDiff, false_and, and_false, eq_self, and_self, reduceCtorEq, true_or, or_true]
  have hR1 : RgS (sset (sset S 9 s.toNat 0) 0 s.toNat (-1)) := (hR.set x_r_0).set x_r_m1
  have hR2 := hR.rmA s
  have hk := hR 0 s.toNat
  have hk1 := hk.1
  have hk2 := hk.2
  have g := m_rm1 (P := P) (w := w) (mo := mo) (Q := Q) (S := sset (sset S 9 s.toNat 0) 0 s.toNat (-1)) (s := s) (k := S 0 s.toNat) (u := S 1 s.toNat) (b := none) hR1 h0 h1 (by simpa [sset_at] using hs) ?_ 128 0 rfl
  · rw [mapA_0] at g
    exact g
  show WP P 92 79 _ [] (putR w mo (s_rmA S s)) Q
  have hh := s_holders_in (s_rmA S s) (S 0 s.toNat) (S 1 s.toNat)
  unfold s_remove at hQ
  split at hQ
  · simp (disch := first | exact hR _ _ | exact x01a | exact x01b | (unfold x_r; omega) | assumption | omega) only [wM_remove_79, wM_remove_80, wM_remove_83, wM_remove_84, wM_remove_85, wM_remove_89, wM_remove_92, x_gi_int, x_ga_ref, x_ga_null, List.getElem?_cons_zero, List.getElem?_cons_succ, List.length_cons, List.length_nil, List.set_cons_zero, List.set_cons_succ, Nat.reduceAdd, Nat.reduceLT, xr_lt, xr_eq, xr_toInt, xr_0, xi_add, xi_sub, xi_mul, xr_div, xr_rm, Int.toNat_natCast, bd_t, true_and, and_true, not_false_eq_true, ↓reduceIte, ilt_t, ilt_f, ile_t, x_c1i, x_c1r, x_c1n, and_self, Option.toList_some, Option.toList_none, List.cons_append, List.nil_append, xr_01, xr_00, ieq_f, ieq_t]
    exact hQ
  next c1 =>
    simp (disch := first | exact hR _ _ | exact x01a | exact x01b | (unfold x_r; omega) | assumption | omega) only [wM_remove_79, wM_remove_80, wM_remove_83, wM_remove_84, wM_remove_85, x_gi_int, x_ga_ref, x_ga_null, List.getElem?_cons_zero, List.getElem?_cons_succ, List.length_cons, List.length_nil, List.set_cons_zero, List.set_cons_succ, Nat.reduceAdd, Nat.reduceLT, xr_lt, xr_eq, xr_toInt, xr_0, xi_add, xi_sub, xi_mul, xr_div, xr_rm, Int.toNat_natCast, bd_t, true_and, and_true, not_false_eq_true, ↓reduceIte, ilt_t, ilt_f, ile_t, x_c1i, x_c1r, x_c1n, and_self, Option.toList_some, Option.toList_none, List.cons_append, List.nil_append, xr_01, xr_00, ieq_f, ieq_t]
    refine wM_remove_86 (by simp) rfl rfl (m_holders hR2 hk ⟨by omega, by omega⟩ ?_)
    split at hQ
    · simp (disch := first | exact hR _ _ | exact x01a | exact x01b | (unfold x_r; omega) | assumption | omega) only [wM_remove_89, wM_remove_92, x_gi_int, x_ga_ref, x_ga_null, List.getElem?_cons_zero, List.getElem?_cons_succ, List.length_cons, List.length_nil, List.set_cons_zero, List.set_cons_succ, Nat.reduceAdd, Nat.reduceLT, xr_lt, xr_eq, xr_toInt, xr_0, xi_add, xi_sub, xi_mul, xr_div, xr_rm, Int.toNat_natCast, bd_t, true_and, and_true, not_false_eq_true, ↓reduceIte, ilt_t, ilt_f, ile_t, x_c1i, x_c1r, x_c1n, and_self, Option.toList_some, Option.toList_none, List.cons_append, List.nil_append, xr_01, xr_00, ieq_f, ieq_t]
      exact hQ
    · simp (disch := first | exact hR _ _ | exact x01a | exact x01b | (unfold x_r; omega) | assumption | omega) only [wM_remove_89, wM_remove_92, wM_remove_93, wM_remove_94, x_gi_int, x_ga_ref, x_ga_null, List.getElem?_cons_zero, List.getElem?_cons_succ, List.length_cons, List.length_nil, List.set_cons_zero, List.set_cons_succ, Nat.reduceAdd, Nat.reduceLT, xr_lt, xr_eq, xr_toInt, xr_0, xi_add, xi_sub, xi_mul, xr_div, xr_rm, Int.toNat_natCast, bd_t, true_and, and_true, not_false_eq_true, ↓reduceIte, ilt_t, ilt_f, ile_t, x_c1i, x_c1r, x_c1n, and_self, Option.toList_some, Option.toList_none, List.cons_append, List.nil_append, xr_01, xr_00, ieq_f, ieq_t]
      have hRB := hR2.rmB (S 0 s.toNat) (S 1 s.toNat)
      have hRC := hRB.rmC (S 0 s.toNat) (S 1 s.toNat)
      have hRD := hRC.rmD (S 0 s.toNat) (S 1 s.toNat)
      have gB := m_rm2 (P := P) (w := w) (mo := mo) (Q := Q) (S := s_rmA S s) (s := s) (k := S 0 s.toNat) (u := S 1 s.toNat) (b := none) hR2 hk hu0 hu1 ?_ 16 0 none rfl
      · rw [mapA_0, mapA_0, mapA_0] at gB
        exact gB
      intro b
      show WP P 92 257 _ [] (putR w mo (s_rmB (s_rmA S s) (S 0 s.toNat) (S 1 s.toNat))) Q
      simp (disch := first | exact hR _ _ | exact x01a | exact x01b | (unfold x_r; omega) | assumption | omega) only [wM_remove_257, wM_remove_258, x_gi_int, x_ga_ref, x_ga_null, List.getElem?_cons_zero, List.getElem?_cons_succ, List.length_cons, List.length_nil, List.set_cons_zero, List.set_cons_succ, Nat.reduceAdd, Nat.reduceLT, xr_lt, xr_eq, xr_toInt, xr_0, xi_add, xi_sub, xi_mul, xr_div, xr_rm, Int.toNat_natCast, bd_t, true_and, and_true, not_false_eq_true, ↓reduceIte, ilt_t, ilt_f, ile_t, x_c1i, x_c1r, x_c1n, and_self, Option.toList_some, Option.toList_none, List.cons_append, List.nil_append, xr_01, xr_00, ieq_f, ieq_t]
      have gC := m_rm3 (P := P) (w := w) (mo := mo) (Q := Q) (S := s_rmB (s_rmA S s) (S 0 s.toNat) (S 1 s.toNat)) (s := s) (k := S 0 s.toNat) (u := S 1 s.toNat) (b := b) hRB hk hu0 hu1 ?_ 128 0 rfl
      · rw [mapA_0, mapA_0] at gC
        exact gC
      show WP P 92 358 _ [] (putR w mo (s_rmC (s_rmB (s_rmA S s) (S 0 s.toNat) (S 1 s.toNat)) (S 0 s.toNat) (S 1 s.toNat))) Q
      simp (disch := first | exact hR _ _ | exact x01a | exact x01b | (unfold x_r; omega) | assumption | omega) only [wM_remove_358, wM_remove_359, x_gi_int, x_ga_ref, x_ga_null, List.getElem?_cons_zero, List.getElem?_cons_succ, List.length_cons, List.length_nil, List.set_cons_zero, List.set_cons_succ, Nat.reduceAdd, Nat.reduceLT, xr_lt, xr_eq, xr_toInt, xr_0, xi_add, xi_sub, xi_mul, xr_div, xr_rm, Int.toNat_natCast, bd_t, true_and, and_true, not_false_eq_true, ↓reduceIte, ilt_t, ilt_f, ile_t, x_c1i, x_c1r, x_c1n, and_self, Option.toList_some, Option.toList_none, List.cons_append, List.nil_append, xr_01, xr_00, ieq_f, ieq_t]
      have gD := m_rm4 (P := P) (w := w) (mo := mo) (Q := Q) (S := s_rmC (s_rmB (s_rmA S s) (S 0 s.toNat) (S 1 s.toNat)) (S 0 s.toNat) (S 1 s.toNat)) (s := s) (k := S 0 s.toNat) (u := S 1 s.toNat) (b := b) hRC hk hu0 hu1 ?_ 32 0 rfl
      · rw [mapA_0] at gD
        exact gD
      show WP P 92 422 _ [] (putR w mo (s_rmD (s_rmC (s_rmB (s_rmA S s) (S 0 s.toNat) (S 1 s.toNat)) (S 0 s.toNat) (S 1 s.toNat)) (S 0 s.toNat) (S 1 s.toNat))) Q
      simp (disch := first | exact hR _ _ | exact x01a | exact x01b | (unfold x_r; omega) | assumption | omega) only [wM_remove_422, wM_remove_423, x_gi_int, x_ga_ref, x_ga_null, List.getElem?_cons_zero, List.getElem?_cons_succ, List.length_cons, List.length_nil, List.set_cons_zero, List.set_cons_succ, Nat.reduceAdd, Nat.reduceLT, xr_lt, xr_eq, xr_toInt, xr_0, xi_add, xi_sub, xi_mul, xr_div, xr_rm, Int.toNat_natCast, bd_t, true_and, and_true, not_false_eq_true, ↓reduceIte, ilt_t, ilt_f, ile_t, x_c1i, x_c1r, x_c1n, and_self, Option.toList_some, Option.toList_none, List.cons_append, List.nil_append, xr_01, xr_00, ieq_f, ieq_t]
      have gE := m_rm5 (P := P) (w := w) (mo := mo) (Q := Q) (S := s_rmD (s_rmC (s_rmB (s_rmA S s) (S 0 s.toNat) (S 1 s.toNat)) (S 0 s.toNat) (S 1 s.toNat)) (S 0 s.toNat) (S 1 s.toNat)) (s := s) (k := S 0 s.toNat) (u := S 1 s.toNat) (b := b) hRD hk hu0 hu1 hQ 4 0 rfl
      rw [mapA_0] at gE
      exact gE
end RF
