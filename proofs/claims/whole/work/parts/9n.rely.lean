section KI
variable {P : xP} {w : xH} {Q : Option Value → xH → Prop}
/-- where the constructor puts its objects -/
def A0 (n : Nat) : xA := fun k i => if k = 12 then (if i = 0 then n else if i = 1 then n + 1 else if i = 2 then n + 2 else if i = 3 then n + 4 else n + 3) else if k = 9 then n + 5 + i.toNat else if k = 1 then n + 9 else if k = 2 then n + 10 else if k = 8 then (if i = 0 then n + 11 else if i = 1 then n + 12 else if i = 2 then n + 13 else n + 15) else (if i = 2 then n + 14 else n + 16)
def uL (L : List (Int × Int)) (k i : Int) : Prop := (k, i) ∈ L
theorem Hp.add {A : xA} {L : List (Int × Int)} {F : Int → Int → Nat → Option Value} (h : Hp w A (uL L) F) {k i : Int} (ha : x_sz w = A k i) (hu : ¬ (k, i) ∈ L) {t n : Nat} (ht : tgK k i = (t, n)) (G : Nat → Value) : Hp (x_new w t n G) A (uL ((k, i) :: L)) (fnw F k i G) := by
  refine (h.new (k := k) (i := i) hu ht G).to (fun k' i' u => ⟨?_, ?_⟩) (fun k' i' f v u e => e)
  · rcases List.mem_cons.1 u with e | e
    · exact Or.inr (Prod.mk.inj e)
    · exact Or.inl e
  · by_cases c : k' = k ∧ i' = i
    · rw [c.1, c.2, aup_e, ha]
    · rw [aup_n c]
theorem Fr.newb {w w' : xH} {m : Nat} (h : Fr w w' m) (hw : ∀ a, x_sz w' ≤ a → x_tg w' a = none) {t n j : Nat} (hj : 1 ≤ j) (hn : n ≤ 16 * j) (G : Nat → Value) : Fr w (x_new w' t n G) (m + j) := by
  obtain ⟨a1, a2, a3, a4, a5, a6⟩ := h
  have ne : ∀ a t' m', x_tg w a = some (t', m') → a ≠ x_sz w' := by
    intro a t' m' e c
    have := a1 a t' m' e
    rw [hw a (by omega)] at this
    cases this
  refine ⟨fun a t' m' e => ?_, fun a t' m' e c => ?_, ?_, ?_, ?_, fun a ha => ?_⟩
  · rw [x_tg_new, if_neg (ne a t' m' e)]
    exact a1 a t' m' e
  · funext j
    rw [x_fd_new, if_neg (ne a t' m' e), a2 a t' m' e c]
  · rw [x_sz_new]; omega
  · rw [x_sz_new]; omega
  · rw [x_sl_new]; omega
  · rw [x_tg_new, if_neg (by omega)]; exact a6 a ha
theorem init_ch : s_children s_init 2 = 0 ∧ s_children s_init 3 = 0 := by
  have a : ∀ q, q < 128 → 0 ≤ s_init 0 q → s_init 4 q = -1 := by
    intro q hq hl
    rcases init_lv hq hl with ⟨rfl, -⟩ | ⟨rfl, -⟩ | ⟨rfl, -⟩ | ⟨rfl, -⟩ <;> rfl
  have b : ∀ (s : Int) (n : Nat), 0 ≤ s → n ≤ 128 → cntL (fun q => 0 ≤ s_init 0 q ∧ s_init 4 q = s) n = 0 := by
    intro s n hs
    induction n with
    | zero => intro _; rfl
    | succ n ih =>
      intro hn
      unfold cntL
      rw [ih (by omega), if_neg (fun x => by have := a n (by omega) x.1; omega)]
      rfl
  exact ⟨b 2 128 (by omega) (by omega), b 3 128 (by omega) (by omega)⟩
theorem init_us {k i : Int} (h : us s_init k i) : (k = 0 ∧ (i = 2 ∨ i = 3)) ∨ (k = 1 ∧ i = 0) ∨ (k = 2 ∧ i = 16) ∨ (k = 8 ∧ (i = 0 ∨ i = 1 ∨ i = 2 ∨ i = 3)) ∨ (k = 9 ∧ (i = 0 ∨ i = 1 ∨ i = 2 ∨ i = 3)) ∨ (k = 12 ∧ (i = 0 ∨ i = 1 ∨ i = 2 ∨ i = 3 ∨ i = 4)) := by
  rcases h with ⟨a, b, c, d⟩ | ⟨a, b, c⟩ | ⟨a, b, c, d⟩ | ⟨a, b | b | b⟩ | ⟨a, b⟩ | ⟨a, b⟩ | ⟨a, b⟩
  · have := init_lv (p := i.toNat) (by omega) (by omega)
    omega
  · have := (init_hd (by omega)).1 c
    omega
  · have := init_lv (p := i.toNat) (by omega) d
    omega
  · omega
  · have := (init_hd (by omega)).1 b
    omega
  · have := (init_hd (by omega)).1 b
    omega
  · have := (init_hd (by omega)).1 b
    omega
  · have := (init_hd (by omega)).1 b
    omega
  · omega
set_option maxHeartbeats 16000000 in
theorem k_init0 {n : Nat} (s0 : x_sz w = n + 1) (h0 : Hp w (A0 n) (uL [(12, 0)]) (fun _ _ _ => none)) {wb : xH} (f0 : Fr wb w 0) {l1 l2 : Option Value} (hQ : ∀ w', Rel w' (A0 n) s_init (lid s_init) → Fr wb w' 24 → Q none w') : WP P 0 0 [some (.ref (A0 n 12 0)), l1, l2] [] w Q := by
  have hR : RgS s_zero := RgS.zero
  simp (disch := first | exact hR _ _ | exact x01a | exact x01b | (unfold x_r; omega) | assumption | omega) only [wK_init_0, x_gi_int, x_ga_ref, x_ga_null, List.getElem?_cons_zero, List.getElem?_cons_succ, List.length_cons, List.length_nil, List.set_cons_zero, List.set_cons_succ, Nat.reduceAdd, Nat.reduceLT, xr_lt, xr_eq, xr_toInt, xr_0, xi_add, xi_sub, xi_mul, xr_div, xr_rm, Int.toNat_natCast, bd_t, true_and, and_true, not_false_eq_true, ↓reduceIte, ilt_t, ilt_f, ile_t, x_c1i, x_c1r, x_c1n, and_self, Option.toList_some, Option.toList_none, List.cons_append, List.nil_append, xr_01, xr_00, ieq_f, ieq_t]
  rw [wK_init_1 (by simp) rfl]
  have e1 : x_sz w = A0 n 12 1 := by rw [s0]; rfl
  have h1 := h0.add (k := 12) (i := 1) e1 (by decide) (t := 31) (n := 128) rfl (fun _ => .null)
  have f1 := f0.newb (t := 31) (n := 128) (j := 8) h0.2.2.2 (by omega) (by omega) (fun _ => .null)
  have s1 : x_sz (x_new w 31 128 (fun _ => .null)) = n + 2 := by rw [x_sz_new, s0]
  have k1 : x_has (x_new w 31 128 (fun _ => .null)) (A0 n 12 0) [0] := h1.hs (by unfold uL; decide) (by decide)
  simp (disch := first | exact hR _ _ | exact x01a | exact x01b | (unfold x_r; omega) | assumption | omega) only [wK_init_4, wK_init_5, wK_init_8, wK_init_11, e1, k1, x_f2r, Int.reduceToNat, x_gi_int, x_ga_ref, x_ga_null, List.getElem?_cons_zero, List.getElem?_cons_succ, List.length_cons, List.length_nil, List.set_cons_zero, List.set_cons_succ, Nat.reduceAdd, Nat.reduceLT, xr_lt, xr_eq, xr_toInt, xr_0, xi_add, xi_sub, xi_mul, xr_div, xr_rm, Int.toNat_natCast, bd_t, true_and, and_true, not_false_eq_true, ↓reduceIte, ilt_t, ilt_f, ile_t, x_c1i, x_c1r, x_c1n, and_self, Option.toList_some, Option.toList_none, List.cons_append, List.nil_append, xr_01, xr_00, ieq_f, ieq_t]
  have h2 := h1.put (k := 12) (i := 0) (by unfold uL; decide) 0 (.ref (A0 n 12 1))
  have f2 := h1.frp f1 (k := 12) (i := 0) (by unfold uL; decide) 0 (.ref (A0 n 12 1))
  have s2 : x_sz (x_put (x_new w 31 128 (fun _ => .null)) (A0 n 12 0) 0 (.ref (A0 n 12 1))) = n + 2 := s1
  generalize x_put (x_new w 31 128 (fun _ => .null)) (A0 n 12 0) 0 (.ref (A0 n 12 1)) = w1 at *
  have e3 : x_sz w1 = A0 n 12 2 := by rw [s2]; rfl
  have h3 := h2.add (k := 12) (i := 2) e3 (by decide) (t := 32) (n := 16) rfl (fun _ => .null)
  have f3 := f2.new (t := 32) (n := 16) h2.2.2.2 (by omega) (fun _ => .null)
  have s3 : x_sz (x_new w1 32 16 (fun _ => .null)) = n + 3 := by rw [x_sz_new, s2]
  have k3 : x_has (x_new w1 32 16 (fun _ => .null)) (A0 n 12 0) [0] := h3.hs (by unfold uL; decide) (by decide)
  simp (disch := first | exact hR _ _ | exact x01a | exact x01b | (unfold x_r; omega) | assumption | omega) only [wK_init_14, wK_init_15, wK_init_17, wK_init_20, e3, k3, x_f2r, Int.reduceToNat, x_gi_int, x_ga_ref, x_ga_null, List.getElem?_cons_zero, List.getElem?_cons_succ, List.length_cons, List.length_nil, List.set_cons_zero, List.set_cons_succ, Nat.reduceAdd, Nat.reduceLT, xr_lt, xr_eq, xr_toInt, xr_0, xi_add, xi_sub, xi_mul, xr_div, xr_rm, Int.toNat_natCast, bd_t, true_and, and_true, not_false_eq_true, ↓reduceIte, ilt_t, ilt_f, ile_t, x_c1i, x_c1r, x_c1n, and_self, Option.toList_some, Option.toList_none, List.cons_append, List.nil_append, xr_01, xr_00, ieq_f, ieq_t]
  have h4 := h3.put (k := 12) (i := 0) (by unfold uL; decide) 1 (.ref (A0 n 12 2))
  have f4 := h3.frp f3 (k := 12) (i := 0) (by unfold uL; decide) 1 (.ref (A0 n 12 2))
  have s4 : x_sz (x_put (x_new w1 32 16 (fun _ => .null)) (A0 n 12 0) 1 (.ref (A0 n 12 2))) = n + 3 := s3
  generalize x_put (x_new w1 32 16 (fun _ => .null)) (A0 n 12 0) 1 (.ref (A0 n 12 2)) = w2 at *
  have e5 : x_sz w2 = A0 n 12 4 := by rw [s4]; rfl
  have h5 := h4.add (k := 12) (i := 4) e5 (by decide) (t := 37) (n := 4) rfl (fun _ => .null)
  have f5 := f4.new (t := 37) (n := 4) h4.2.2.2 (by omega) (fun _ => .null)
  have s5 : x_sz (x_new w2 37 4 (fun _ => .null)) = n + 4 := by rw [x_sz_new, s4]
  have k5 : x_has (x_new w2 37 4 (fun _ => .null)) (A0 n 12 0) [0] := h5.hs (by unfold uL; decide) (by decide)
  simp (disch := first | exact hR _ _ | exact x01a | exact x01b | (unfold x_r; omega) | assumption | omega) only [wK_init_23, wK_init_24, wK_init_25, wK_init_28, e5, k5, x_f2r, Int.reduceToNat, x_gi_int, x_ga_ref, x_ga_null, List.getElem?_cons_zero, List.getElem?_cons_succ, List.length_cons, List.length_nil, List.set_cons_zero, List.set_cons_succ, Nat.reduceAdd, Nat.reduceLT, xr_lt, xr_eq, xr_toInt, xr_0, xi_add, xi_sub, xi_mul, xr_div, xr_rm, Int.toNat_natCast, bd_t, true_and, and_true, not_false_eq_true, ↓reduceIte, ilt_t, ilt_f, ile_t, x_c1i, x_c1r, x_c1n, and_self, Option.toList_some, Option.toList_none, List.cons_append, List.nil_append, xr_01, xr_00, ieq_f, ieq_t]
  have h6 := h5.put (k := 12) (i := 0) (by unfold uL; decide) 3 (.ref (A0 n 12 4))
  have f6 := h5.frp f5 (k := 12) (i := 0) (by unfold uL; decide) 3 (.ref (A0 n 12 4))
  have s6 : x_sz (x_put (x_new w2 37 4 (fun _ => .null)) (A0 n 12 0) 3 (.ref (A0 n 12 4))) = n + 4 := s5
  generalize x_put (x_new w2 37 4 (fun _ => .null)) (A0 n 12 0) 3 (.ref (A0 n 12 4)) = w3 at *
  have e7 : x_sz w3 = A0 n 12 3 := by rw [s6]; rfl
  have h7 := h6.add (k := 12) (i := 3) e7 (by decide) (t := 33) (n := 4) rfl (fun _ => .null)
  have f7 := f6.new (t := 33) (n := 4) h6.2.2.2 (by omega) (fun _ => .null)
  have s7 : x_sz (x_new w3 33 4 (fun _ => .null)) = n + 5 := by rw [x_sz_new, s6]
  have k7 : x_has (x_new w3 33 4 (fun _ => .null)) (A0 n 12 0) [0] := h7.hs (by unfold uL; decide) (by decide)
  simp (disch := first | exact hR _ _ | exact x01a | exact x01b | (unfold x_r; omega) | assumption | omega) only [wK_init_31, wK_init_32, wK_init_33, wK_init_36, e7, k7, x_f2r, Int.reduceToNat, x_gi_int, x_ga_ref, x_ga_null, List.getElem?_cons_zero, List.getElem?_cons_succ, List.length_cons, List.length_nil, List.set_cons_zero, List.set_cons_succ, Nat.reduceAdd, Nat.reduceLT, xr_lt, xr_eq, xr_toInt, xr_0, xi_add, xi_sub, xi_mul, xr_div, xr_rm, Int.toNat_natCast, bd_t, true_and, and_true, not_false_eq_true, ↓reduceIte, ilt_t, ilt_f, ile_t, x_c1i, x_c1r, x_c1n, and_self, Option.toList_some, Option.toList_none, List.cons_append, List.nil_append, xr_01, xr_00, ieq_f, ieq_t]
  have h8 := h7.put (k := 12) (i := 0) (by unfold uL; decide) 2 (.ref (A0 n 12 3))
  have f8 := h7.frp f7 (k := 12) (i := 0) (by unfold uL; decide) 2 (.ref (A0 n 12 3))
  have s8 : x_sz (x_put (x_new w3 33 4 (fun _ => .null)) (A0 n 12 0) 2 (.ref (A0 n 12 3))) = n + 5 := s7
  generalize x_put (x_new w3 33 4 (fun _ => .null)) (A0 n 12 0) 2 (.ref (A0 n 12 3)) = w4 at *
  simp (disch := first | exact hR _ _ | exact x01a | exact x01b | (unfold x_r; omega) | assumption | omega) only [wK_init_39, wK_init_40, x_gi_int, x_ga_ref, x_ga_null, List.getElem?_cons_zero, List.getElem?_cons_succ, List.length_cons, List.length_nil, List.set_cons_zero, List.set_cons_succ, Nat.reduceAdd, Nat.reduceLT, xr_lt, xr_eq, xr_toInt, xr_0, xi_add, xi_sub, xi_mul, xr_div, xr_rm, Int.toNat_natCast, bd_t, true_and, and_true, not_false_eq_true, ↓reduceIte, ilt_t, ilt_f, ile_t, x_c1i, x_c1r, x_c1n, and_self, Option.toList_some, Option.toList_none, List.cons_append, List.nil_append, xr_01, xr_00, ieq_f, ieq_t]
  have kk0 : x_has w4 (A0 n 12 0) [0] := h8.hs (by unfold uL; decide) (by decide)
  have kf0 : x_fd w4 (A0 n 12 0) 2 = .ref (A0 n 12 3) := h8.fd (by unfold uL; decide) rfl
  have e9 : x_sz w4 = A0 n 9 0 := by rw [s8]; rfl
  have h9 := h8.add (k := 9) (i := 0) e9 (by decide) (t := 3) (n := 2) rfl (x_df 3)
  have f9 := f8.new (t := 3) (n := 2) h8.2.2.2 (by omega) (x_df 3)
  have s9 : x_sz (x_new w4 3 2 (x_df 3)) = n + 6 := by rw [x_sz_new, s8]
  rw [wK_init_41]
  simp (disch := first | exact hR _ _ | exact x01a | exact x01b | (unfold x_r; omega) | assumption | omega) only [wK_init_42, wK_init_43, wK_init_46, wK_init_47, wK_init_50, wK_init_51, wK_init_54, e9, kk0, kf0, x_gi_int, x_ga_ref, x_ga_null, List.getElem?_cons_zero, List.getElem?_cons_succ, List.length_cons, List.length_nil, List.set_cons_zero, List.set_cons_succ, Nat.reduceAdd, Nat.reduceLT, xr_lt, xr_eq, xr_toInt, xr_0, xi_add, xi_sub, xi_mul, xr_div, xr_rm, Int.toNat_natCast, bd_t, true_and, and_true, not_false_eq_true, ↓reduceIte, ilt_t, ilt_f, ile_t, x_c1i, x_c1r, x_c1n, and_self, Option.toList_some, Option.toList_none, List.cons_append, List.nil_append, xr_01, xr_00, ieq_f, ieq_t]
  refine wK_init_55 (by simp) rfl rfl (k_linInit ?_)
  have ta0 : x_tg (x_new w4 3 2 (x_df 3)) (A0 n 12 3) = some (30 + 3, 4) := h9.tg (by unfold uL; decide)
  have tb0 : x_tg (x_new w4 3 2 (x_df 3)) (A0 n 9 0) = some (3, 2) := h9.tg (by unfold uL; decide)
  simp (disch := first | exact hR _ _ | exact x01a | exact x01b | (unfold x_r; omega) | assumption | omega) only [wK_init_58 ta0 tb0 (by omega) (x_nn (e := 0) (by omega) (by omega)) (x_clt (e := 0) (n := 4) (by omega) (by omega) (by omega)), wK_init_59, wK_init_62, Int.reduceAdd, x_gi_int, x_ga_ref, x_ga_null, List.getElem?_cons_zero, List.getElem?_cons_succ, List.length_cons, List.length_nil, List.set_cons_zero, List.set_cons_succ, Nat.reduceAdd, Nat.reduceLT, xr_lt, xr_eq, xr_toInt, xr_0, xi_add, xi_sub, xi_mul, xr_div, xr_rm, Int.toNat_natCast, bd_t, true_and, and_true, not_false_eq_true, ↓reduceIte, ilt_t, ilt_f, ile_t, x_c1i, x_c1r, x_c1n, and_self, Option.toList_some, Option.toList_none, List.cons_append, List.nil_append, xr_01, xr_00, ieq_f, ieq_t]
  have h10 := h9.put (k := 12) (i := 3) (by unfold uL; decide) (xi 0).toNatClampNeg (.ref (A0 n 9 0))
  have f10 := h9.frp f9 (k := 12) (i := 3) (by unfold uL; decide) (xi 0).toNatClampNeg (.ref (A0 n 9 0))
  have s10 : x_sz (x_put (x_new w4 3 2 (x_df 3)) (A0 n 12 3) (xi 0).toNatClampNeg (.ref (A0 n 9 0))) = n + 6 := s9
  generalize x_put (x_new w4 3 2 (x_df 3)) (A0 n 12 3) (xi 0).toNatClampNeg (.ref (A0 n 9 0)) = w5 at *
  have kk1 : x_has w5 (A0 n 12 0) [0] := h10.hs (by unfold uL; decide) (by decide)
  have kf1 : x_fd w5 (A0 n 12 0) 2 = .ref (A0 n 12 3) := h10.fd (by unfold uL; decide) rfl
  have e11 : x_sz w5 = A0 n 9 1 := by rw [s10]; rfl
  have h11 := h10.add (k := 9) (i := 1) e11 (by decide) (t := 3) (n := 2) rfl (x_df 3)
  have f11 := f10.new (t := 3) (n := 2) h10.2.2.2 (by omega) (x_df 3)
  have s11 : x_sz (x_new w5 3 2 (x_df 3)) = n + 7 := by rw [x_sz_new, s10]
  rw [wK_init_41]
  simp (disch := first | exact hR _ _ | exact x01a | exact x01b | (unfold x_r; omega) | assumption | omega) only [wK_init_42, wK_init_43, wK_init_46, wK_init_47, wK_init_50, wK_init_51, wK_init_54, e11, kk1, kf1, x_gi_int, x_ga_ref, x_ga_null, List.getElem?_cons_zero, List.getElem?_cons_succ, List.length_cons, List.length_nil, List.set_cons_zero, List.set_cons_succ, Nat.reduceAdd, Nat.reduceLT, xr_lt, xr_eq, xr_toInt, xr_0, xi_add, xi_sub, xi_mul, xr_div, xr_rm, Int.toNat_natCast, bd_t, true_and, and_true, not_false_eq_true, ↓reduceIte, ilt_t, ilt_f, ile_t, x_c1i, x_c1r, x_c1n, and_self, Option.toList_some, Option.toList_none, List.cons_append, List.nil_append, xr_01, xr_00, ieq_f, ieq_t]
  refine wK_init_55 (by simp) rfl rfl (k_linInit ?_)
  have ta1 : x_tg (x_new w5 3 2 (x_df 3)) (A0 n 12 3) = some (30 + 3, 4) := h11.tg (by unfold uL; decide)
  have tb1 : x_tg (x_new w5 3 2 (x_df 3)) (A0 n 9 1) = some (3, 2) := h11.tg (by unfold uL; decide)
  simp (disch := first | exact hR _ _ | exact x01a | exact x01b | (unfold x_r; omega) | assumption | omega) only [wK_init_58 ta1 tb1 (by omega) (x_nn (e := 1) (by omega) (by omega)) (x_clt (e := 1) (n := 4) (by omega) (by omega) (by omega)), wK_init_59, wK_init_62, Int.reduceAdd, x_gi_int, x_ga_ref, x_ga_null, List.getElem?_cons_zero, List.getElem?_cons_succ, List.length_cons, List.length_nil, List.set_cons_zero, List.set_cons_succ, Nat.reduceAdd, Nat.reduceLT, xr_lt, xr_eq, xr_toInt, xr_0, xi_add, xi_sub, xi_mul, xr_div, xr_rm, Int.toNat_natCast, bd_t, true_and, and_true, not_false_eq_true, ↓reduceIte, ilt_t, ilt_f, ile_t, x_c1i, x_c1r, x_c1n, and_self, Option.toList_some, Option.toList_none, List.cons_append, List.nil_append, xr_01, xr_00, ieq_f, ieq_t]
  have h12 := h11.put (k := 12) (i := 3) (by unfold uL; decide) (xi 1).toNatClampNeg (.ref (A0 n 9 1))
  have f12 := h11.frp f11 (k := 12) (i := 3) (by unfold uL; decide) (xi 1).toNatClampNeg (.ref (A0 n 9 1))
  have s12 : x_sz (x_put (x_new w5 3 2 (x_df 3)) (A0 n 12 3) (xi 1).toNatClampNeg (.ref (A0 n 9 1))) = n + 7 := s11
  generalize x_put (x_new w5 3 2 (x_df 3)) (A0 n 12 3) (xi 1).toNatClampNeg (.ref (A0 n 9 1)) = w6 at *
  have kk2 : x_has w6 (A0 n 12 0) [0] := h12.hs (by unfold uL; decide) (by decide)
  have kf2 : x_fd w6 (A0 n 12 0) 2 = .ref (A0 n 12 3) := h12.fd (by unfold uL; decide) rfl
  have e13 : x_sz w6 = A0 n 9 2 := by rw [s12]; rfl
  have h13 := h12.add (k := 9) (i := 2) e13 (by decide) (t := 3) (n := 2) rfl (x_df 3)
  have f13 := f12.new (t := 3) (n := 2) h12.2.2.2 (by omega) (x_df 3)
  have s13 : x_sz (x_new w6 3 2 (x_df 3)) = n + 8 := by rw [x_sz_new, s12]
  rw [wK_init_41]
  simp (disch := first | exact hR _ _ | exact x01a | exact x01b | (unfold x_r; omega) | assumption | omega) only [wK_init_42, wK_init_43, wK_init_46, wK_init_47, wK_init_50, wK_init_51, wK_init_54, e13, kk2, kf2, x_gi_int, x_ga_ref, x_ga_null, List.getElem?_cons_zero, List.getElem?_cons_succ, List.length_cons, List.length_nil, List.set_cons_zero, List.set_cons_succ, Nat.reduceAdd, Nat.reduceLT, xr_lt, xr_eq, xr_toInt, xr_0, xi_add, xi_sub, xi_mul, xr_div, xr_rm, Int.toNat_natCast, bd_t, true_and, and_true, not_false_eq_true, ↓reduceIte, ilt_t, ilt_f, ile_t, x_c1i, x_c1r, x_c1n, and_self, Option.toList_some, Option.toList_none, List.cons_append, List.nil_append, xr_01, xr_00, ieq_f, ieq_t]
  refine wK_init_55 (by simp) rfl rfl (k_linInit ?_)
  have ta2 : x_tg (x_new w6 3 2 (x_df 3)) (A0 n 12 3) = some (30 + 3, 4) := h13.tg (by unfold uL; decide)
  have tb2 : x_tg (x_new w6 3 2 (x_df 3)) (A0 n 9 2) = some (3, 2) := h13.tg (by unfold uL; decide)
  simp (disch := first | exact hR _ _ | exact x01a | exact x01b | (unfold x_r; omega) | assumption | omega) only [wK_init_58 ta2 tb2 (by omega) (x_nn (e := 2) (by omega) (by omega)) (x_clt (e := 2) (n := 4) (by omega) (by omega) (by omega)), wK_init_59, wK_init_62, Int.reduceAdd, x_gi_int, x_ga_ref, x_ga_null, List.getElem?_cons_zero, List.getElem?_cons_succ, List.length_cons, List.length_nil, List.set_cons_zero, List.set_cons_succ, Nat.reduceAdd, Nat.reduceLT, xr_lt, xr_eq, xr_toInt, xr_0, xi_add, xi_sub, xi_mul, xr_div, xr_rm, Int.toNat_natCast, bd_t, true_and, and_true, not_false_eq_true, ↓reduceIte, ilt_t, ilt_f, ile_t, x_c1i, x_c1r, x_c1n, and_self, Option.toList_some, Option.toList_none, List.cons_append, List.nil_append, xr_01, xr_00, ieq_f, ieq_t]
  have h14 := h13.put (k := 12) (i := 3) (by unfold uL; decide) (xi 2).toNatClampNeg (.ref (A0 n 9 2))
  have f14 := h13.frp f13 (k := 12) (i := 3) (by unfold uL; decide) (xi 2).toNatClampNeg (.ref (A0 n 9 2))
  have s14 : x_sz (x_put (x_new w6 3 2 (x_df 3)) (A0 n 12 3) (xi 2).toNatClampNeg (.ref (A0 n 9 2))) = n + 8 := s13
  generalize x_put (x_new w6 3 2 (x_df 3)) (A0 n 12 3) (xi 2).toNatClampNeg (.ref (A0 n 9 2)) = w7 at *
  have kk3 : x_has w7 (A0 n 12 0) [0] := h14.hs (by unfold uL; decide) (by decide)
  have kf3 : x_fd w7 (A0 n 12 0) 2 = .ref (A0 n 12 3) := h14.fd (by unfold uL; decide) rfl
  have e15 : x_sz w7 = A0 n 9 3 := by rw [s14]; rfl
  have h15 := h14.add (k := 9) (i := 3) e15 (by decide) (t := 3) (n := 2) rfl (x_df 3)
  have f15 := f14.new (t := 3) (n := 2) h14.2.2.2 (by omega) (x_df 3)
  have s15 : x_sz (x_new w7 3 2 (x_df 3)) = n + 9 := by rw [x_sz_new, s14]
  rw [wK_init_41]
  simp (disch := first | exact hR _ _ | exact x01a | exact x01b | (unfold x_r; omega) | assumption | omega) only [wK_init_42, wK_init_43, wK_init_46, wK_init_47, wK_init_50, wK_init_51, wK_init_54, e15, kk3, kf3, x_gi_int, x_ga_ref, x_ga_null, List.getElem?_cons_zero, List.getElem?_cons_succ, List.length_cons, List.length_nil, List.set_cons_zero, List.set_cons_succ, Nat.reduceAdd, Nat.reduceLT, xr_lt, xr_eq, xr_toInt, xr_0, xi_add, xi_sub, xi_mul, xr_div, xr_rm, Int.toNat_natCast, bd_t, true_and, and_true, not_false_eq_true, ↓reduceIte, ilt_t, ilt_f, ile_t, x_c1i, x_c1r, x_c1n, and_self, Option.toList_some, Option.toList_none, List.cons_append, List.nil_append, xr_01, xr_00, ieq_f, ieq_t]
  refine wK_init_55 (by simp) rfl rfl (k_linInit ?_)
  have ta3 : x_tg (x_new w7 3 2 (x_df 3)) (A0 n 12 3) = some (30 + 3, 4) := h15.tg (by unfold uL; decide)
  have tb3 : x_tg (x_new w7 3 2 (x_df 3)) (A0 n 9 3) = some (3, 2) := h15.tg (by unfold uL; decide)
  simp (disch := first | exact hR _ _ | exact x01a | exact x01b | (unfold x_r; omega) | assumption | omega) only [wK_init_58 ta3 tb3 (by omega) (x_nn (e := 3) (by omega) (by omega)) (x_clt (e := 3) (n := 4) (by omega) (by omega) (by omega)), wK_init_59, wK_init_62, Int.reduceAdd, x_gi_int, x_ga_ref, x_ga_null, List.getElem?_cons_zero, List.getElem?_cons_succ, List.length_cons, List.length_nil, List.set_cons_zero, List.set_cons_succ, Nat.reduceAdd, Nat.reduceLT, xr_lt, xr_eq, xr_toInt, xr_0, xi_add, xi_sub, xi_mul, xr_div, xr_rm, Int.toNat_natCast, bd_t, true_and, and_true, not_false_eq_true, ↓reduceIte, ilt_t, ilt_f, ile_t, x_c1i, x_c1r, x_c1n, and_self, Option.toList_some, Option.toList_none, List.cons_append, List.nil_append, xr_01, xr_00, ieq_f, ieq_t]
  have h16 := h15.put (k := 12) (i := 3) (by unfold uL; decide) (xi 3).toNatClampNeg (.ref (A0 n 9 3))
  have f16 := h15.frp f15 (k := 12) (i := 3) (by unfold uL; decide) (xi 3).toNatClampNeg (.ref (A0 n 9 3))
  have s16 : x_sz (x_put (x_new w7 3 2 (x_df 3)) (A0 n 12 3) (xi 3).toNatClampNeg (.ref (A0 n 9 3))) = n + 9 := s15
  generalize x_put (x_new w7 3 2 (x_df 3)) (A0 n 12 3) (xi 3).toNatClampNeg (.ref (A0 n 9 3)) = w8 at *
  simp (disch := first | exact hR _ _ | exact x01a | exact x01b | (unfold x_r; omega) | assumption | omega) only [wK_init_41, wK_init_42, wK_init_43, x_gi_int, x_ga_ref, x_ga_null, List.getElem?_cons_zero, List.getElem?_cons_succ, List.length_cons, List.length_nil, List.set_cons_zero, List.set_cons_succ, Nat.reduceAdd, Nat.reduceLT, xr_lt, xr_eq, xr_toInt, xr_0, xi_add, xi_sub, xi_mul, xr_div, xr_rm, Int.toNat_natCast, bd_t, true_and, and_true, not_false_eq_true, ↓reduceIte, ilt_t, ilt_f, ile_t, x_c1i, x_c1r, x_c1n, and_self, Option.toList_some, Option.toList_none, List.cons_append, List.nil_append, xr_01, xr_00, ieq_f, ieq_t]
  have e17 : x_sz w8 = A0 n 1 0 := by rw [s16]; rfl
  have h17 := h16.add (k := 1) (i := 0) e17 (by decide) (t := 5) (n := 2) rfl (x_df 5)
  have f17 := f16.new (t := 5) (n := 2) h16.2.2.2 (by omega) (x_df 5)
  have s17 : x_sz (x_new w8 5 2 (x_df 5)) = n + 10 := by rw [x_sz_new, s16]
  simp (disch := first | exact hR _ _ | exact x01a | exact x01b | (unfold x_r; omega) | assumption | omega) only [wK_init_65, wK_init_68, wK_init_69, e17, x_gi_int, x_ga_ref, x_ga_null, List.getElem?_cons_zero, List.getElem?_cons_succ, List.length_cons, List.length_nil, List.set_cons_zero, List.set_cons_succ, Nat.reduceAdd, Nat.reduceLT, xr_lt, xr_eq, xr_toInt, xr_0, xi_add, xi_sub, xi_mul, xr_div, xr_rm, Int.toNat_natCast, bd_t, true_and, and_true, not_false_eq_true, ↓reduceIte, ilt_t, ilt_f, ile_t, x_c1i, x_c1r, x_c1n, and_self, Option.toList_some, Option.toList_none, List.cons_append, List.nil_append, xr_01, xr_00, ieq_f, ieq_t]
  refine wK_init_70 (by simp) rfl rfl (k_TabInit (h17.hs (by unfold uL; decide) (by decide)) ?_)
  have h18 := h17.put (k := 1) (i := 0) (by unfold uL; decide) 0 (.int (xi 1))
  have f18 := h17.frp f17 (k := 1) (i := 0) (by unfold uL; decide) 0 (.int (xi 1))
  have s18 : x_sz (x_put (x_new w8 5 2 (x_df 5)) (A0 n 1 0) 0 (.int (xi 1))) = n + 10 := s17
  have h19 := h18.put (k := 1) (i := 0) (by unfold uL; decide) 1 (.int (xi 0))
  have f19 := h18.frp f18 (k := 1) (i := 0) (by unfold uL; decide) 1 (.int (xi 0))
  have s19 : x_sz (x_put (x_put (x_new w8 5 2 (x_df 5)) (A0 n 1 0) 0 (.int (xi 1))) (A0 n 1 0) 1 (.int (xi 0))) = n + 10 := s18
  generalize x_put (x_put (x_new w8 5 2 (x_df 5)) (A0 n 1 0) 0 (.int (xi 1))) (A0 n 1 0) 1 (.int (xi 0)) = w9 at *
  have e20 : x_sz w9 = A0 n 2 16 := by rw [s19]; rfl
  have h20 := h19.add (k := 2) (i := 16) e20 (by decide) (t := 2) (n := 16) rfl (x_df 2)
  have f20 := f19.new (t := 2) (n := 16) h19.2.2.2 (by omega) (x_df 2)
  have s20 : x_sz (x_new w9 2 16 (x_df 2)) = n + 11 := by rw [x_sz_new, s19]
  simp (disch := first | exact hR _ _ | exact x01a | exact x01b | (unfold x_r; omega) | assumption | omega) only [wK_init_73, wK_init_73n, wK_init_74, wK_init_77, wK_init_78, e20, x_gi_int, x_ga_ref, x_ga_null, List.getElem?_cons_zero, List.getElem?_cons_succ, List.length_cons, List.length_nil, List.set_cons_zero, List.set_cons_succ, Nat.reduceAdd, Nat.reduceLT, xr_lt, xr_eq, xr_toInt, xr_0, xi_add, xi_sub, xi_mul, xr_div, xr_rm, Int.toNat_natCast, bd_t, true_and, and_true, not_false_eq_true, ↓reduceIte, ilt_t, ilt_f, ile_t, x_c1i, x_c1r, x_c1n, and_self, Option.toList_some, Option.toList_none, List.cons_append, List.nil_append, xr_01, xr_00, ieq_f, ieq_t]
  refine wK_init_80 (by simp) rfl rfl (k_ThrInit (h20.hs (by unfold uL; decide) (by decide)) ?_)
  have h21 := h20.put (k := 2) (i := 16) (by unfold uL; decide) 0 (.int (xi 2))
  have f21 := h20.frp f20 (k := 2) (i := 16) (by unfold uL; decide) 0 (.int (xi 2))
  have s21 : x_sz (x_put (x_new w9 2 16 (x_df 2)) (A0 n 2 16) 0 (.int (xi 2))) = n + 11 := s20
  have h22 := h21.put (k := 2) (i := 16) (by unfold uL; decide) 1 (.int (xi 16))
  have f22 := h21.frp f21 (k := 2) (i := 16) (by unfold uL; decide) 1 (.int (xi 16))
  have s22 : x_sz (x_put (x_put (x_new w9 2 16 (x_df 2)) (A0 n 2 16) 0 (.int (xi 2))) (A0 n 2 16) 1 (.int (xi 16))) = n + 11 := s21
  have h23 := h22.put (k := 2) (i := 16) (by unfold uL; decide) 5 (.int (xi 1))
  have f23 := h22.frp f22 (k := 2) (i := 16) (by unfold uL; decide) 5 (.int (xi 1))
  have s23 : x_sz (x_put (x_put (x_put (x_new w9 2 16 (x_df 2)) (A0 n 2 16) 0 (.int (xi 2))) (A0 n 2 16) 1 (.int (xi 16))) (A0 n 2 16) 5 (.int (xi 1))) = n + 11 := s22
  generalize x_put (x_put (x_put (x_new w9 2 16 (x_df 2)) (A0 n 2 16) 0 (.int (xi 2))) (A0 n 2 16) 1 (.int (xi 16))) (A0 n 2 16) 5 (.int (xi 1)) = w10 at *
  have kt : x_has w10 (A0 n 2 16) [2] := h23.hs (by unfold uL; decide) (by decide)
  simp (disch := first | exact hR _ _ | exact x01a | exact x01b | (unfold x_r; omega) | assumption | omega) only [wK_init_83, wK_init_83n, wK_init_84, wK_init_85, wK_init_86, wK_init_89, wK_init_90, wK_init_91, x_has_put, kt, x_f2r, x_f0, x_gi_int, x_ga_ref, x_ga_null, List.getElem?_cons_zero, List.getElem?_cons_succ, List.length_cons, List.length_nil, List.set_cons_zero, List.set_cons_succ, Nat.reduceAdd, Nat.reduceLT, xr_lt, xr_eq, xr_toInt, xr_0, xi_add, xi_sub, xi_mul, xr_div, xr_rm, Int.toNat_natCast, bd_t, true_and, and_true, not_false_eq_true, ↓reduceIte, ilt_t, ilt_f, ile_t, x_c1i, x_c1r, x_c1n, and_self, Option.toList_some, Option.toList_none, List.cons_append, List.nil_append, xr_01, xr_00, ieq_f, ieq_t]
  have h24 := h23.put (k := 2) (i := 16) (by unfold uL; decide) 2 (.ref (A0 n 1 0))
  have f24 := h23.frp f23 (k := 2) (i := 16) (by unfold uL; decide) 2 (.ref (A0 n 1 0))
  have s24 : x_sz (x_put (w10) (A0 n 2 16) 2 (.ref (A0 n 1 0))) = n + 11 := s23
  have h25 := h24.put (k := 2) (i := 16) (by unfold uL; decide) 4 (.int (xi 3))
  have f25 := h24.frp f24 (k := 2) (i := 16) (by unfold uL; decide) 4 (.int (xi 3))
  have s25 : x_sz (x_put (x_put (w10) (A0 n 2 16) 2 (.ref (A0 n 1 0))) (A0 n 2 16) 4 (.int (xi 3))) = n + 11 := s24
  generalize x_put (x_put (w10) (A0 n 2 16) 2 (.ref (A0 n 1 0))) (A0 n 2 16) 4 (.int (xi 3)) = w11 at *
  have kt2 : x_has w11 (A0 n 2 16) [2] := h25.hs (by unfold uL; decide) (by decide)
  have ku2 : x_has w11 (A0 n 12 0) [0] := h25.hs (by unfold uL; decide) (by decide)
  have kf5 : x_fd w11 (A0 n 12 0) 1 = .ref (A0 n 12 2) := h25.fd (by unfold uL; decide) rfl
  have kf6 : x_fd w11 (A0 n 2 16) 1 = .int (xi 16) := h25.fd (by unfold uL; decide) rfl
  have ta5 : x_tg w11 (A0 n 12 2) = some (30 + 2, 16) := h25.tg (by unfold uL; decide)
  have tb5 : x_tg w11 (A0 n 2 16) = some (2, 16) := h25.tg (by unfold uL; decide)
  simp (disch := first | exact hR _ _ | exact x01a | exact x01b | (unfold x_r; omega) | assumption | omega) only [wK_init_94, wK_init_95, wK_init_98, wK_init_99, wK_init_102, wK_init_104, wK_init_105, kt2, ku2, kf5, kf6, Int.reduceDiv, x_gi_int, x_ga_ref, x_ga_null, List.getElem?_cons_zero, List.getElem?_cons_succ, List.length_cons, List.length_nil, List.set_cons_zero, List.set_cons_succ, Nat.reduceAdd, Nat.reduceLT, xr_lt, xr_eq, xr_toInt, xr_0, xi_add, xi_sub, xi_mul, xr_div, xr_rm, Int.toNat_natCast, bd_t, true_and, and_true, not_false_eq_true, ↓reduceIte, ilt_t, ilt_f, ile_t, x_c1i, x_c1r, x_c1n, and_self, Option.toList_some, Option.toList_none, List.cons_append, List.nil_append, xr_01, xr_00, ieq_f, ieq_t]
  rw [wK_init_106 ta5 tb5 (by omega) (x_nn (e := 2) (by omega) (by omega)) (x_clt (e := 2) (n := 16) (by omega) (by omega) (by omega))]
  have h26 := h25.put (k := 12) (i := 2) (by unfold uL; decide) (xi 2).toNatClampNeg (.ref (A0 n 2 16))
  have f26 := h25.frp f25 (k := 12) (i := 2) (by unfold uL; decide) (xi 2).toNatClampNeg (.ref (A0 n 2 16))
  have s26 : x_sz (x_put (w11) (A0 n 12 2) (xi 2).toNatClampNeg (.ref (A0 n 2 16))) = n + 11 := s25
  generalize x_put (w11) (A0 n 12 2) (xi 2).toNatClampNeg (.ref (A0 n 2 16)) = w12 at *
  simp (disch := first | exact hR _ _ | exact x01a | exact x01b | (unfold x_r; omega) | assumption | omega) only [wK_init_107, wK_init_108, x_gi_int, x_ga_ref, x_ga_null, List.getElem?_cons_zero, List.getElem?_cons_succ, List.length_cons, List.length_nil, List.set_cons_zero, List.set_cons_succ, Nat.reduceAdd, Nat.reduceLT, xr_lt, xr_eq, xr_toInt, xr_0, xi_add, xi_sub, xi_mul, xr_div, xr_rm, Int.toNat_natCast, bd_t, true_and, and_true, not_false_eq_true, ↓reduceIte, ilt_t, ilt_f, ile_t, x_c1i, x_c1r, x_c1n, and_self, Option.toList_some, Option.toList_none, List.cons_append, List.nil_append, xr_01, xr_00, ieq_f, ieq_t]
  have tk6 : x_tg w12 (A0 n 12 0) = some (0, 4) := h26.tg (by unfold uL; decide)
  refine wK_init_109 tk6 (by simp) rfl rfl ?_
  simp (disch := first | exact hR _ _ | exact x01a | exact x01b | (unfold x_r; omega) | assumption | omega) only [wK_becomeReady_0, x_gi_int, x_ga_ref, x_ga_null, List.getElem?_cons_zero, List.getElem?_cons_succ, List.length_cons, List.length_nil, List.set_cons_zero, List.set_cons_succ, Nat.reduceAdd, Nat.reduceLT, xr_lt, xr_eq, xr_toInt, xr_0, xi_add, xi_sub, xi_mul, xr_div, xr_rm, Int.toNat_natCast, bd_t, true_and, and_true, not_false_eq_true, ↓reduceIte, ilt_t, ilt_f, ile_t, x_c1i, x_c1r, x_c1n, and_self, Option.toList_some, Option.toList_none, List.cons_append, List.nil_append, xr_01, xr_00, ieq_f, ieq_t]
  refine wK_becomeReady_1 (by simp) rfl rfl ?_
  have kt6 : x_has w12 (A0 n 2 16) [2] := h26.hs (by unfold uL; decide) (by decide)
  have ku6 : x_has w12 (A0 n 12 0) [0] := h26.hs (by unfold uL; decide) (by decide)
  have z10 : x_fd w12 (A0 n 2 16) 10 = .null := h26.fd (by unfold uL; decide) rfl
  simp (disch := first | exact hR _ _ | exact x01a | exact x01b | (unfold x_r; omega) | assumption | omega) only [wK_leaveLine_0, wK_leaveLine_1, wK_leaveLine_4, wK_leaveLine_4n, wK_leaveLine_5, wK_leaveLine_6n, wK_leaveLine_6, wK_leaveLine_9, wK_becomeReady_4, wK_becomeReady_5, wK_becomeReady_6, wK_becomeReady_9, wK_becomeReady_10, wK_becomeReady_11, x_has_put, kt6, z10, x_f0, x_gi_int, x_ga_ref, x_ga_null, List.getElem?_cons_zero, List.getElem?_cons_succ, List.length_cons, List.length_nil, List.set_cons_zero, List.set_cons_succ, Nat.reduceAdd, Nat.reduceLT, xr_lt, xr_eq, xr_toInt, xr_0, xi_add, xi_sub, xi_mul, xr_div, xr_rm, Int.toNat_natCast, bd_t, true_and, and_true, not_false_eq_true, ↓reduceIte, ilt_t, ilt_f, ile_t, x_c1i, x_c1r, x_c1n, and_self, Option.toList_some, Option.toList_none, List.cons_append, List.nil_append, xr_01, xr_00, ieq_f, ieq_t]
  have h27 := h26.put (k := 2) (i := 16) (by unfold uL; decide) 5 (.int (xi 2))
  have f27 := h26.frp f26 (k := 2) (i := 16) (by unfold uL; decide) 5 (.int (xi 2))
  have s27 : x_sz (x_put (w12) (A0 n 2 16) 5 (.int (xi 2))) = n + 11 := s26
  have h28 := h27.put (k := 2) (i := 16) (by unfold uL; decide) 6 (.int (xi 3))
  have f28 := h27.frp f27 (k := 2) (i := 16) (by unfold uL; decide) 6 (.int (xi 3))
  have s28 : x_sz (x_put (x_put (w12) (A0 n 2 16) 5 (.int (xi 2))) (A0 n 2 16) 6 (.int (xi 3))) = n + 11 := s27
  generalize x_put (x_put (w12) (A0 n 2 16) 5 (.int (xi 2))) (A0 n 2 16) 6 (.int (xi 3)) = w13 at *
  have kt7 : x_has w13 (A0 n 2 16) [2] := h28.hs (by unfold uL; decide) (by decide)
  have ku7 : x_has w13 (A0 n 12 0) [0] := h28.hs (by unfold uL; decide) (by decide)
  have kl7 : x_has w13 (A0 n 9 3) [3] := h28.hs (by unfold uL; decide) (by decide)
  have kf7 : x_fd w13 (A0 n 12 0) 2 = .ref (A0 n 12 3) := h28.fd (by unfold uL; decide) rfl
  have kg7 : x_fd w13 (A0 n 2 16) 4 = .int (xi 3) := h28.fd (by unfold uL; decide) rfl
  have ta7 : x_tg w13 (A0 n 12 3) = some (33, 4) := h28.tg (by unfold uL; decide)
  have kh7 : x_fd w13 (A0 n 12 3) (xi 3).toNatClampNeg = .ref (A0 n 9 3) := h28.fd (by unfold uL; decide) rfl
  have ki7 : x_fd w13 (A0 n 9 3) 1 = .null := h28.fd (by unfold uL; decide) rfl
  simp (disch := first | exact hR _ _ | exact x01a | exact x01b | (unfold x_r; omega) | assumption | omega) only [wK_becomeReady_14, wK_becomeReady_15, wK_becomeReady_16, wK_becomeReady_19, wK_becomeReady_20, wK_becomeReady_23 ta7 (by omega) (x_nn (e := 3) (by omega) (by omega)) (x_clt (e := 3) (n := 4) (by omega) (by omega) (by omega)), kt7, ku7, kf7, kg7, kh7, x_gi_int, x_ga_ref, x_ga_null, List.getElem?_cons_zero, List.getElem?_cons_succ, List.length_cons, List.length_nil, List.set_cons_zero, List.set_cons_succ, Nat.reduceAdd, Nat.reduceLT, xr_lt, xr_eq, xr_toInt, xr_0, xi_add, xi_sub, xi_mul, xr_div, xr_rm, Int.toNat_natCast, bd_t, true_and, and_true, not_false_eq_true, ↓reduceIte, ilt_t, ilt_f, ile_t, x_c1i, x_c1r, x_c1n, and_self, Option.toList_some, Option.toList_none, List.cons_append, List.nil_append, xr_01, xr_00, ieq_f, ieq_t]
  refine wK_becomeReady_24 (by simp) rfl rfl ?_
  simp (disch := first | exact hR _ _ | exact x01a | exact x01b | (unfold x_r; omega) | assumption | omega) only [wK_joinLine_0, wK_joinLine_1, wK_joinLine_4n, wK_joinLine_4, wK_joinLine_7, wK_joinLine_8, wK_joinLine_9, wK_joinLine_12, wK_joinLine_15, wK_joinLine_16, wK_joinLine_19, wK_joinLine_20, wK_joinLine_23, wK_joinLine_24, wK_joinLine_25, wK_joinLine_28, wK_joinLine_29, wK_joinLine_30, wK_joinLine_33, x_has_put, x_f2r, kt7, kl7, ki7, wK_becomeReady_27, x_gi_int, x_ga_ref, x_ga_null, List.getElem?_cons_zero, List.getElem?_cons_succ, List.length_cons, List.length_nil, List.set_cons_zero, List.set_cons_succ, Nat.reduceAdd, Nat.reduceLT, xr_lt, xr_eq, xr_toInt, xr_0, xi_add, xi_sub, xi_mul, xr_div, xr_rm, Int.toNat_natCast, bd_t, true_and, and_true, not_false_eq_true, ↓reduceIte, ilt_t, ilt_f, ile_t, x_c1i, x_c1r, x_c1n, and_self, Option.toList_some, Option.toList_none, List.cons_append, List.nil_append, xr_01, xr_00, ieq_f, ieq_t]
  have h29 := h28.put (k := 9) (i := 3) (by unfold uL; decide) 0 (.ref (A0 n 2 16))
  have f29 := h28.frp f28 (k := 9) (i := 3) (by unfold uL; decide) 0 (.ref (A0 n 2 16))
  have s29 : x_sz (x_put (w13) (A0 n 9 3) 0 (.ref (A0 n 2 16))) = n + 11 := s28
  have h30 := h29.put (k := 9) (i := 3) (by unfold uL; decide) 1 (.ref (A0 n 2 16))
  have f30 := h29.frp f29 (k := 9) (i := 3) (by unfold uL; decide) 1 (.ref (A0 n 2 16))
  have s30 : x_sz (x_put (x_put (w13) (A0 n 9 3) 0 (.ref (A0 n 2 16))) (A0 n 9 3) 1 (.ref (A0 n 2 16))) = n + 11 := s29
  have h31 := h30.put (k := 2) (i := 16) (by unfold uL; decide) 10 (.ref (A0 n 9 3))
  have f31 := h30.frp f30 (k := 2) (i := 16) (by unfold uL; decide) 10 (.ref (A0 n 9 3))
  have s31 : x_sz (x_put (x_put (x_put (w13) (A0 n 9 3) 0 (.ref (A0 n 2 16))) (A0 n 9 3) 1 (.ref (A0 n 2 16))) (A0 n 2 16) 10 (.ref (A0 n 9 3))) = n + 11 := s30
  generalize x_put (x_put (x_put (w13) (A0 n 9 3) 0 (.ref (A0 n 2 16))) (A0 n 9 3) 1 (.ref (A0 n 2 16))) (A0 n 2 16) 10 (.ref (A0 n 9 3)) = w14 at *
  simp (disch := first | exact hR _ _ | exact x01a | exact x01b | (unfold x_r; omega) | assumption | omega) only [wK_init_112, x_gi_int, x_ga_ref, x_ga_null, List.getElem?_cons_zero, List.getElem?_cons_succ, List.length_cons, List.length_nil, List.set_cons_zero, List.set_cons_succ, Nat.reduceAdd, Nat.reduceLT, xr_lt, xr_eq, xr_toInt, xr_0, xi_add, xi_sub, xi_mul, xr_div, xr_rm, Int.toNat_natCast, bd_t, true_and, and_true, not_false_eq_true, ↓reduceIte, ilt_t, ilt_f, ile_t, x_c1i, x_c1r, x_c1n, and_self, Option.toList_some, Option.toList_none, List.cons_append, List.nil_append, xr_01, xr_00, ieq_f, ieq_t]
  have e32 : x_sz w14 = A0 n 8 0 := by rw [s31]; rfl
  have h32 := h31.add (k := 8) (i := 0) e32 (by decide) (t := 1) (n := 8) rfl (x_df 1)
  have f32 := f31.new (t := 1) (n := 8) h31.2.2.2 (by omega) (x_df 1)
  have s32 : x_sz (x_new w14 1 8 (x_df 1)) = n + 12 := by rw [x_sz_new, s31]
  simp (disch := first | exact hR _ _ | exact x01a | exact x01b | (unfold x_r; omega) | assumption | omega) only [wK_init_113, wK_init_116, wK_init_117, wK_init_118, wK_init_120, wK_init_121, e32, x_gi_int, x_ga_ref, x_ga_null, List.getElem?_cons_zero, List.getElem?_cons_succ, List.length_cons, List.length_nil, List.set_cons_zero, List.set_cons_succ, Nat.reduceAdd, Nat.reduceLT, xr_lt, xr_eq, xr_toInt, xr_0, xi_add, xi_sub, xi_mul, xr_div, xr_rm, Int.toNat_natCast, bd_t, true_and, and_true, not_false_eq_true, ↓reduceIte, ilt_t, ilt_f, ile_t, x_c1i, x_c1r, x_c1n, and_self, Option.toList_some, Option.toList_none, List.cons_append, List.nil_append, xr_01, xr_00, ieq_f, ieq_t]
  generalize x_new w14 1 8 (x_df 1) = w15 at *
  refine wK_init_122 (by simp) rfl rfl (k_capInit (p := -1) (pa := 0) (h32.hs (by unfold uL; decide) (by decide)) ?_)
  have h33 := h32.put (k := 8) (i := 0) (by unfold uL; decide) 0 (.ref (A0 n 1 0))
  have f33 := h32.frp f32 (k := 8) (i := 0) (by unfold uL; decide) 0 (.ref (A0 n 1 0))
  have s33 : x_sz (x_put (w15) (A0 n 8 0) 0 (.ref (A0 n 1 0))) = n + 12 := s32
  have h34 := h33.put (k := 8) (i := 0) (by unfold uL; decide) 1 (.int (xi 7))
  have f34 := h33.frp f33 (k := 8) (i := 0) (by unfold uL; decide) 1 (.int (xi 7))
  have s34 : x_sz (x_put (x_put (w15) (A0 n 8 0) 0 (.ref (A0 n 1 0))) (A0 n 8 0) 1 (.int (xi 7))) = n + 12 := s33
  have h35 := h34.put (k := 8) (i := 0) (by unfold uL; decide) 2 (.int (xi 0))
  have f35 := h34.frp f34 (k := 8) (i := 0) (by unfold uL; decide) 2 (.int (xi 0))
  have s35 : x_sz (x_put (x_put (x_put (w15) (A0 n 8 0) 0 (.ref (A0 n 1 0))) (A0 n 8 0) 1 (.int (xi 7))) (A0 n 8 0) 2 (.int (xi 0))) = n + 12 := s34
  have h36 := h35.put (k := 8) (i := 0) (by unfold uL; decide) 3 (pv (-1) 0)
  have f36 := h35.frp f35 (k := 8) (i := 0) (by unfold uL; decide) 3 (pv (-1) 0)
  have s36 : x_sz (x_put (x_put (x_put (x_put (w15) (A0 n 8 0) 0 (.ref (A0 n 1 0))) (A0 n 8 0) 1 (.int (xi 7))) (A0 n 8 0) 2 (.int (xi 0))) (A0 n 8 0) 3 (pv (-1) 0)) = n + 12 := s35
  generalize x_put (x_put (x_put (x_put (w15) (A0 n 8 0) 0 (.ref (A0 n 1 0))) (A0 n 8 0) 1 (.int (xi 7))) (A0 n 8 0) 2 (.int (xi 0))) (A0 n 8 0) 3 (pv (-1) 0) = w16 at *
  simp (disch := first | exact hR _ _ | exact x01a | exact x01b | (unfold x_r; omega) | assumption | omega) only [wK_init_125, x_gi_int, x_ga_ref, x_ga_null, List.getElem?_cons_zero, List.getElem?_cons_succ, List.length_cons, List.length_nil, List.set_cons_zero, List.set_cons_succ, Nat.reduceAdd, Nat.reduceLT, xr_lt, xr_eq, xr_toInt, xr_0, xi_add, xi_sub, xi_mul, xr_div, xr_rm, Int.toNat_natCast, bd_t, true_and, and_true, not_false_eq_true, ↓reduceIte, ilt_t, ilt_f, ile_t, x_c1i, x_c1r, x_c1n, and_self, Option.toList_some, Option.toList_none, List.cons_append, List.nil_append, xr_01, xr_00, ieq_f, ieq_t]
  have tk0a : x_tg w16 (A0 n 12 0) = some (0, 4) := h36.tg (by unfold uL; decide)
  refine wK_init_126 tk0a (by simp) rfl rfl (k_put (A := A0 n) (p := 0) (h36.hs (by unfold uL; decide) (by decide)) (h36.fd (by unfold uL; decide) rfl) (h36.tg (by unfold uL; decide)) (m := 8) (h36.tg (by unfold uL; decide)) (by omega) ?_)
  have h37 := h36.put (k := 12) (i := 1) (by unfold uL; decide) 0 (.ref (A0 n 8 0))
  have f37 := h36.frp f36 (k := 12) (i := 1) (by unfold uL; decide) 0 (.ref (A0 n 8 0))
  have s37 : x_sz (x_put (w16) (A0 n 12 1) 0 (.ref (A0 n 8 0))) = n + 12 := s36
  have h38 := h37.put (k := 8) (i := 0) (by unfold uL; decide) 4 (.int (xi ((0 : Nat) : Int)))
  have f38 := h37.frp f37 (k := 8) (i := 0) (by unfold uL; decide) 4 (.int (xi ((0 : Nat) : Int)))
  have s38 : x_sz (x_put (x_put (w16) (A0 n 12 1) 0 (.ref (A0 n 8 0))) (A0 n 8 0) 4 (.int (xi ((0 : Nat) : Int)))) = n + 12 := s37
  generalize x_put (x_put (w16) (A0 n 12 1) 0 (.ref (A0 n 8 0))) (A0 n 8 0) 4 (.int (xi ((0 : Nat) : Int))) = w17 at *
  simp (disch := first | exact hR _ _ | exact x01a | exact x01b | (unfold x_r; omega) | assumption | omega) only [wK_init_129, x_gi_int, x_ga_ref, x_ga_null, List.getElem?_cons_zero, List.getElem?_cons_succ, List.length_cons, List.length_nil, List.set_cons_zero, List.set_cons_succ, Nat.reduceAdd, Nat.reduceLT, xr_lt, xr_eq, xr_toInt, xr_0, xi_add, xi_sub, xi_mul, xr_div, xr_rm, Int.toNat_natCast, bd_t, true_and, and_true, not_false_eq_true, ↓reduceIte, ilt_t, ilt_f, ile_t, x_c1i, x_c1r, x_c1n, and_self, Option.toList_some, Option.toList_none, List.cons_append, List.nil_append, xr_01, xr_00, ieq_f, ieq_t]
  have e39 : x_sz w17 = A0 n 8 1 := by rw [s38]; rfl
  have h39 := h38.add (k := 8) (i := 1) e39 (by decide) (t := 1) (n := 8) rfl (x_df 1)
  have f39 := f38.new (t := 1) (n := 8) h38.2.2.2 (by omega) (x_df 1)
  have s39 : x_sz (x_new w17 1 8 (x_df 1)) = n + 13 := by rw [x_sz_new, s38]
  simp (disch := first | exact hR _ _ | exact x01a | exact x01b | (unfold x_r; omega) | assumption | omega) only [wK_init_130, wK_init_133, wK_init_134, wK_init_135, wK_init_137, wK_init_138, e39, x_gi_int, x_ga_ref, x_ga_null, List.getElem?_cons_zero, List.getElem?_cons_succ, List.length_cons, List.length_nil, List.set_cons_zero, List.set_cons_succ, Nat.reduceAdd, Nat.reduceLT, xr_lt, xr_eq, xr_toInt, xr_0, xi_add, xi_sub, xi_mul, xr_div, xr_rm, Int.toNat_natCast, bd_t, true_and, and_true, not_false_eq_true, ↓reduceIte, ilt_t, ilt_f, ile_t, x_c1i, x_c1r, x_c1n, and_self, Option.toList_some, Option.toList_none, List.cons_append, List.nil_append, xr_01, xr_00, ieq_f, ieq_t]
  generalize x_new w17 1 8 (x_df 1) = w18 at *
  refine wK_init_139 (by simp) rfl rfl (k_capInit (p := -1) (pa := 0) (h39.hs (by unfold uL; decide) (by decide)) ?_)
  have h40 := h39.put (k := 8) (i := 1) (by unfold uL; decide) 0 (.ref (A0 n 2 16))
  have f40 := h39.frp f39 (k := 8) (i := 1) (by unfold uL; decide) 0 (.ref (A0 n 2 16))
  have s40 : x_sz (x_put (w18) (A0 n 8 1) 0 (.ref (A0 n 2 16))) = n + 13 := s39
  have h41 := h40.put (k := 8) (i := 1) (by unfold uL; decide) 1 (.int (xi 7))
  have f41 := h40.frp f40 (k := 8) (i := 1) (by unfold uL; decide) 1 (.int (xi 7))
  have s41 : x_sz (x_put (x_put (w18) (A0 n 8 1) 0 (.ref (A0 n 2 16))) (A0 n 8 1) 1 (.int (xi 7))) = n + 13 := s40
  have h42 := h41.put (k := 8) (i := 1) (by unfold uL; decide) 2 (.int (xi 0))
  have f42 := h41.frp f41 (k := 8) (i := 1) (by unfold uL; decide) 2 (.int (xi 0))
  have s42 : x_sz (x_put (x_put (x_put (w18) (A0 n 8 1) 0 (.ref (A0 n 2 16))) (A0 n 8 1) 1 (.int (xi 7))) (A0 n 8 1) 2 (.int (xi 0))) = n + 13 := s41
  have h43 := h42.put (k := 8) (i := 1) (by unfold uL; decide) 3 (pv (-1) 0)
  have f43 := h42.frp f42 (k := 8) (i := 1) (by unfold uL; decide) 3 (pv (-1) 0)
  have s43 : x_sz (x_put (x_put (x_put (x_put (w18) (A0 n 8 1) 0 (.ref (A0 n 2 16))) (A0 n 8 1) 1 (.int (xi 7))) (A0 n 8 1) 2 (.int (xi 0))) (A0 n 8 1) 3 (pv (-1) 0)) = n + 13 := s42
  generalize x_put (x_put (x_put (x_put (w18) (A0 n 8 1) 0 (.ref (A0 n 2 16))) (A0 n 8 1) 1 (.int (xi 7))) (A0 n 8 1) 2 (.int (xi 0))) (A0 n 8 1) 3 (pv (-1) 0) = w19 at *
  simp (disch := first | exact hR _ _ | exact x01a | exact x01b | (unfold x_r; omega) | assumption | omega) only [wK_init_142, x_gi_int, x_ga_ref, x_ga_null, List.getElem?_cons_zero, List.getElem?_cons_succ, List.length_cons, List.length_nil, List.set_cons_zero, List.set_cons_succ, Nat.reduceAdd, Nat.reduceLT, xr_lt, xr_eq, xr_toInt, xr_0, xi_add, xi_sub, xi_mul, xr_div, xr_rm, Int.toNat_natCast, bd_t, true_and, and_true, not_false_eq_true, ↓reduceIte, ilt_t, ilt_f, ile_t, x_c1i, x_c1r, x_c1n, and_self, Option.toList_some, Option.toList_none, List.cons_append, List.nil_append, xr_01, xr_00, ieq_f, ieq_t]
  have tk1a : x_tg w19 (A0 n 12 0) = some (0, 4) := h43.tg (by unfold uL; decide)
  refine wK_init_143 tk1a (by simp) rfl rfl (k_put (A := A0 n) (p := 1) (h43.hs (by unfold uL; decide) (by decide)) (h43.fd (by unfold uL; decide) rfl) (h43.tg (by unfold uL; decide)) (m := 8) (h43.tg (by unfold uL; decide)) (by omega) ?_)
  have h44 := h43.put (k := 12) (i := 1) (by unfold uL; decide) 1 (.ref (A0 n 8 1))
  have f44 := h43.frp f43 (k := 12) (i := 1) (by unfold uL; decide) 1 (.ref (A0 n 8 1))
  have s44 : x_sz (x_put (w19) (A0 n 12 1) 1 (.ref (A0 n 8 1))) = n + 13 := s43
  have h45 := h44.put (k := 8) (i := 1) (by unfold uL; decide) 4 (.int (xi ((1 : Nat) : Int)))
  have f45 := h44.frp f44 (k := 8) (i := 1) (by unfold uL; decide) 4 (.int (xi ((1 : Nat) : Int)))
  have s45 : x_sz (x_put (x_put (w19) (A0 n 12 1) 1 (.ref (A0 n 8 1))) (A0 n 8 1) 4 (.int (xi ((1 : Nat) : Int)))) = n + 13 := s44
  generalize x_put (x_put (w19) (A0 n 12 1) 1 (.ref (A0 n 8 1))) (A0 n 8 1) 4 (.int (xi ((1 : Nat) : Int))) = w20 at *
  simp (disch := first | exact hR _ _ | exact x01a | exact x01b | (unfold x_r; omega) | assumption | omega) only [wK_init_146, x_gi_int, x_ga_ref, x_ga_null, List.getElem?_cons_zero, List.getElem?_cons_succ, List.length_cons, List.length_nil, List.set_cons_zero, List.set_cons_succ, Nat.reduceAdd, Nat.reduceLT, xr_lt, xr_eq, xr_toInt, xr_0, xi_add, xi_sub, xi_mul, xr_div, xr_rm, Int.toNat_natCast, bd_t, true_and, and_true, not_false_eq_true, ↓reduceIte, ilt_t, ilt_f, ile_t, x_c1i, x_c1r, x_c1n, and_self, Option.toList_some, Option.toList_none, List.cons_append, List.nil_append, xr_01, xr_00, ieq_f, ieq_t]
  have e46 : x_sz w20 = A0 n 8 2 := by rw [s45]; rfl
  have h46 := h45.add (k := 8) (i := 2) e46 (by decide) (t := 1) (n := 8) rfl (x_df 1)
  have f46 := f45.new (t := 1) (n := 8) h45.2.2.2 (by omega) (x_df 1)
  have s46 : x_sz (x_new w20 1 8 (x_df 1)) = n + 14 := by rw [x_sz_new, s45]
  simp (disch := first | exact hR _ _ | exact x01a | exact x01b | (unfold x_r; omega) | assumption | omega) only [wK_init_147, wK_init_150, e46, x_gi_int, x_ga_ref, x_ga_null, List.getElem?_cons_zero, List.getElem?_cons_succ, List.length_cons, List.length_nil, List.set_cons_zero, List.set_cons_succ, Nat.reduceAdd, Nat.reduceLT, xr_lt, xr_eq, xr_toInt, xr_0, xi_add, xi_sub, xi_mul, xr_div, xr_rm, Int.toNat_natCast, bd_t, true_and, and_true, not_false_eq_true, ↓reduceIte, ilt_t, ilt_f, ile_t, x_c1i, x_c1r, x_c1n, and_self, Option.toList_some, Option.toList_none, List.cons_append, List.nil_append, xr_01, xr_00, ieq_f, ieq_t]
  generalize x_new w20 1 8 (x_df 1) = w21 at *
  have e47 : x_sz w21 = A0 n 0 2 := by rw [s46]; rfl
  have h47 := h46.add (k := 0) (i := 2) e47 (by decide) (t := 4) (n := 4) rfl (x_df 4)
  have f47 := f46.new (t := 4) (n := 4) h46.2.2.2 (by omega) (x_df 4)
  have s47 : x_sz (x_new w21 4 4 (x_df 4)) = n + 15 := by rw [x_sz_new, s46]
  simp (disch := first | exact hR _ _ | exact x01a | exact x01b | (unfold x_r; omega) | assumption | omega) only [wK_init_151, wK_init_154, wK_init_155, wK_init_157, e47, x_gi_int, x_ga_ref, x_ga_null, List.getElem?_cons_zero, List.getElem?_cons_succ, List.length_cons, List.length_nil, List.set_cons_zero, List.set_cons_succ, Nat.reduceAdd, Nat.reduceLT, xr_lt, xr_eq, xr_toInt, xr_0, xi_add, xi_sub, xi_mul, xr_div, xr_rm, Int.toNat_natCast, bd_t, true_and, and_true, not_false_eq_true, ↓reduceIte, ilt_t, ilt_f, ile_t, x_c1i, x_c1r, x_c1n, and_self, Option.toList_some, Option.toList_none, List.cons_append, List.nil_append, xr_01, xr_00, ieq_f, ieq_t]
  refine wK_init_159 (by simp) rfl rfl (k_UntInit (h47.hs (by unfold uL; decide) (by decide)) ?_)
  have h48 := h47.put (k := 0) (i := 2) (by unfold uL; decide) 0 (.int (xi 0))
  have f48 := h47.frp f47 (k := 0) (i := 2) (by unfold uL; decide) 0 (.int (xi 0))
  have s48 : x_sz (x_put (x_new w21 4 4 (x_df 4)) (A0 n 0 2) 0 (.int (xi 0))) = n + 15 := s47
  have h49 := h48.put (k := 0) (i := 2) (by unfold uL; decide) 1 (.int (xi 32))
  have f49 := h48.frp f48 (k := 0) (i := 2) (by unfold uL; decide) 1 (.int (xi 32))
  have s49 : x_sz (x_put (x_put (x_new w21 4 4 (x_df 4)) (A0 n 0 2) 0 (.int (xi 0))) (A0 n 0 2) 1 (.int (xi 32))) = n + 15 := s48
  have h50 := h49.put (k := 0) (i := 2) (by unfold uL; decide) 2 (.int (xi 32))
  have f50 := h49.frp f49 (k := 0) (i := 2) (by unfold uL; decide) 2 (.int (xi 32))
  have s50 : x_sz (x_put (x_put (x_put (x_new w21 4 4 (x_df 4)) (A0 n 0 2) 0 (.int (xi 0))) (A0 n 0 2) 1 (.int (xi 32))) (A0 n 0 2) 2 (.int (xi 32))) = n + 15 := s49
  generalize x_put (x_put (x_put (x_new w21 4 4 (x_df 4)) (A0 n 0 2) 0 (.int (xi 0))) (A0 n 0 2) 1 (.int (xi 32))) (A0 n 0 2) 2 (.int (xi 32)) = w22 at *
  simp (disch := first | exact hR _ _ | exact x01a | exact x01b | (unfold x_r; omega) | assumption | omega) only [wK_init_162, wK_init_164, wK_init_165, x_gi_int, x_ga_ref, x_ga_null, List.getElem?_cons_zero, List.getElem?_cons_succ, List.length_cons, List.length_nil, List.set_cons_zero, List.set_cons_succ, Nat.reduceAdd, Nat.reduceLT, xr_lt, xr_eq, xr_toInt, xr_0, xi_add, xi_sub, xi_mul, xr_div, xr_rm, Int.toNat_natCast, bd_t, true_and, and_true, not_false_eq_true, ↓reduceIte, ilt_t, ilt_f, ile_t, x_c1i, x_c1r, x_c1n, and_self, Option.toList_some, Option.toList_none, List.cons_append, List.nil_append, xr_01, xr_00, ieq_f, ieq_t]
  refine wK_init_166 (by simp) rfl rfl (k_capInit (p := -1) (pa := 0) (h50.hs (by unfold uL; decide) (by decide)) ?_)
  have h51 := h50.put (k := 8) (i := 2) (by unfold uL; decide) 0 (.ref (A0 n 0 2))
  have f51 := h50.frp f50 (k := 8) (i := 2) (by unfold uL; decide) 0 (.ref (A0 n 0 2))
  have s51 : x_sz (x_put (w22) (A0 n 8 2) 0 (.ref (A0 n 0 2))) = n + 15 := s50
  have h52 := h51.put (k := 8) (i := 2) (by unfold uL; decide) 1 (.int (xi 7))
  have f52 := h51.frp f51 (k := 8) (i := 2) (by unfold uL; decide) 1 (.int (xi 7))
  have s52 : x_sz (x_put (x_put (w22) (A0 n 8 2) 0 (.ref (A0 n 0 2))) (A0 n 8 2) 1 (.int (xi 7))) = n + 15 := s51
  have h53 := h52.put (k := 8) (i := 2) (by unfold uL; decide) 2 (.int (xi 0))
  have f53 := h52.frp f52 (k := 8) (i := 2) (by unfold uL; decide) 2 (.int (xi 0))
  have s53 : x_sz (x_put (x_put (x_put (w22) (A0 n 8 2) 0 (.ref (A0 n 0 2))) (A0 n 8 2) 1 (.int (xi 7))) (A0 n 8 2) 2 (.int (xi 0))) = n + 15 := s52
  have h54 := h53.put (k := 8) (i := 2) (by unfold uL; decide) 3 (pv (-1) 0)
  have f54 := h53.frp f53 (k := 8) (i := 2) (by unfold uL; decide) 3 (pv (-1) 0)
  have s54 : x_sz (x_put (x_put (x_put (x_put (w22) (A0 n 8 2) 0 (.ref (A0 n 0 2))) (A0 n 8 2) 1 (.int (xi 7))) (A0 n 8 2) 2 (.int (xi 0))) (A0 n 8 2) 3 (pv (-1) 0)) = n + 15 := s53
  generalize x_put (x_put (x_put (x_put (w22) (A0 n 8 2) 0 (.ref (A0 n 0 2))) (A0 n 8 2) 1 (.int (xi 7))) (A0 n 8 2) 2 (.int (xi 0))) (A0 n 8 2) 3 (pv (-1) 0) = w23 at *
  simp (disch := first | exact hR _ _ | exact x01a | exact x01b | (unfold x_r; omega) | assumption | omega) only [wK_init_169, x_gi_int, x_ga_ref, x_ga_null, List.getElem?_cons_zero, List.getElem?_cons_succ, List.length_cons, List.length_nil, List.set_cons_zero, List.set_cons_succ, Nat.reduceAdd, Nat.reduceLT, xr_lt, xr_eq, xr_toInt, xr_0, xi_add, xi_sub, xi_mul, xr_div, xr_rm, Int.toNat_natCast, bd_t, true_and, and_true, not_false_eq_true, ↓reduceIte, ilt_t, ilt_f, ile_t, x_c1i, x_c1r, x_c1n, and_self, Option.toList_some, Option.toList_none, List.cons_append, List.nil_append, xr_01, xr_00, ieq_f, ieq_t]
  have tk2a : x_tg w23 (A0 n 12 0) = some (0, 4) := h54.tg (by unfold uL; decide)
  refine wK_init_170 tk2a (by simp) rfl rfl (k_put (A := A0 n) (p := 2) (h54.hs (by unfold uL; decide) (by decide)) (h54.fd (by unfold uL; decide) rfl) (h54.tg (by unfold uL; decide)) (m := 8) (h54.tg (by unfold uL; decide)) (by omega) ?_)
  have h55 := h54.put (k := 12) (i := 1) (by unfold uL; decide) 2 (.ref (A0 n 8 2))
  have f55 := h54.frp f54 (k := 12) (i := 1) (by unfold uL; decide) 2 (.ref (A0 n 8 2))
  have s55 : x_sz (x_put (w23) (A0 n 12 1) 2 (.ref (A0 n 8 2))) = n + 15 := s54
  have h56 := h55.put (k := 8) (i := 2) (by unfold uL; decide) 4 (.int (xi ((2 : Nat) : Int)))
  have f56 := h55.frp f55 (k := 8) (i := 2) (by unfold uL; decide) 4 (.int (xi ((2 : Nat) : Int)))
  have s56 : x_sz (x_put (x_put (w23) (A0 n 12 1) 2 (.ref (A0 n 8 2))) (A0 n 8 2) 4 (.int (xi ((2 : Nat) : Int)))) = n + 15 := s55
  generalize x_put (x_put (w23) (A0 n 12 1) 2 (.ref (A0 n 8 2))) (A0 n 8 2) 4 (.int (xi ((2 : Nat) : Int))) = w24 at *
  simp (disch := first | exact hR _ _ | exact x01a | exact x01b | (unfold x_r; omega) | assumption | omega) only [wK_init_173, x_gi_int, x_ga_ref, x_ga_null, List.getElem?_cons_zero, List.getElem?_cons_succ, List.length_cons, List.length_nil, List.set_cons_zero, List.set_cons_succ, Nat.reduceAdd, Nat.reduceLT, xr_lt, xr_eq, xr_toInt, xr_0, xi_add, xi_sub, xi_mul, xr_div, xr_rm, Int.toNat_natCast, bd_t, true_and, and_true, not_false_eq_true, ↓reduceIte, ilt_t, ilt_f, ile_t, x_c1i, x_c1r, x_c1n, and_self, Option.toList_some, Option.toList_none, List.cons_append, List.nil_append, xr_01, xr_00, ieq_f, ieq_t]
  have e57 : x_sz w24 = A0 n 8 3 := by rw [s56]; rfl
  have h57 := h56.add (k := 8) (i := 3) e57 (by decide) (t := 1) (n := 8) rfl (x_df 1)
  have f57 := f56.new (t := 1) (n := 8) h56.2.2.2 (by omega) (x_df 1)
  have s57 : x_sz (x_new w24 1 8 (x_df 1)) = n + 16 := by rw [x_sz_new, s56]
  simp (disch := first | exact hR _ _ | exact x01a | exact x01b | (unfold x_r; omega) | assumption | omega) only [wK_init_174, wK_init_177, e57, x_gi_int, x_ga_ref, x_ga_null, List.getElem?_cons_zero, List.getElem?_cons_succ, List.length_cons, List.length_nil, List.set_cons_zero, List.set_cons_succ, Nat.reduceAdd, Nat.reduceLT, xr_lt, xr_eq, xr_toInt, xr_0, xi_add, xi_sub, xi_mul, xr_div, xr_rm, Int.toNat_natCast, bd_t, true_and, and_true, not_false_eq_true, ↓reduceIte, ilt_t, ilt_f, ile_t, x_c1i, x_c1r, x_c1n, and_self, Option.toList_some, Option.toList_none, List.cons_append, List.nil_append, xr_01, xr_00, ieq_f, ieq_t]
  generalize x_new w24 1 8 (x_df 1) = w25 at *
  have e58 : x_sz w25 = A0 n 0 3 := by rw [s57]; rfl
  have h58 := h57.add (k := 0) (i := 3) e58 (by decide) (t := 4) (n := 4) rfl (x_df 4)
  have f58 := f57.new (t := 4) (n := 4) h57.2.2.2 (by omega) (x_df 4)
  have s58 : x_sz (x_new w25 4 4 (x_df 4)) = n + 17 := by rw [x_sz_new, s57]
  simp (disch := first | exact hR _ _ | exact x01a | exact x01b | (unfold x_r; omega) | assumption | omega) only [wK_init_178, wK_init_181, wK_init_182, wK_init_184, e58, x_gi_int, x_ga_ref, x_ga_null, List.getElem?_cons_zero, List.getElem?_cons_succ, List.length_cons, List.length_nil, List.set_cons_zero, List.set_cons_succ, Nat.reduceAdd, Nat.reduceLT, xr_lt, xr_eq, xr_toInt, xr_0, xi_add, xi_sub, xi_mul, xr_div, xr_rm, Int.toNat_natCast, bd_t, true_and, and_true, not_false_eq_true, ↓reduceIte, ilt_t, ilt_f, ile_t, x_c1i, x_c1r, x_c1n, and_self, Option.toList_some, Option.toList_none, List.cons_append, List.nil_append, xr_01, xr_00, ieq_f, ieq_t]
  refine wK_init_186 (by simp) rfl rfl (k_UntInit (h58.hs (by unfold uL; decide) (by decide)) ?_)
  have h59 := h58.put (k := 0) (i := 3) (by unfold uL; decide) 0 (.int (xi 0))
  have f59 := h58.frp f58 (k := 0) (i := 3) (by unfold uL; decide) 0 (.int (xi 0))
  have s59 : x_sz (x_put (x_new w25 4 4 (x_df 4)) (A0 n 0 3) 0 (.int (xi 0))) = n + 17 := s58
  have h60 := h59.put (k := 0) (i := 3) (by unfold uL; decide) 1 (.int (xi 64))
  have f60 := h59.frp f59 (k := 0) (i := 3) (by unfold uL; decide) 1 (.int (xi 64))
  have s60 : x_sz (x_put (x_put (x_new w25 4 4 (x_df 4)) (A0 n 0 3) 0 (.int (xi 0))) (A0 n 0 3) 1 (.int (xi 64))) = n + 17 := s59
  have h61 := h60.put (k := 0) (i := 3) (by unfold uL; decide) 2 (.int (xi 64))
  have f61 := h60.frp f60 (k := 0) (i := 3) (by unfold uL; decide) 2 (.int (xi 64))
  have s61 : x_sz (x_put (x_put (x_put (x_new w25 4 4 (x_df 4)) (A0 n 0 3) 0 (.int (xi 0))) (A0 n 0 3) 1 (.int (xi 64))) (A0 n 0 3) 2 (.int (xi 64))) = n + 17 := s60
  generalize x_put (x_put (x_put (x_new w25 4 4 (x_df 4)) (A0 n 0 3) 0 (.int (xi 0))) (A0 n 0 3) 1 (.int (xi 64))) (A0 n 0 3) 2 (.int (xi 64)) = w26 at *
  simp (disch := first | exact hR _ _ | exact x01a | exact x01b | (unfold x_r; omega) | assumption | omega) only [wK_init_189, wK_init_191, wK_init_192, x_gi_int, x_ga_ref, x_ga_null, List.getElem?_cons_zero, List.getElem?_cons_succ, List.length_cons, List.length_nil, List.set_cons_zero, List.set_cons_succ, Nat.reduceAdd, Nat.reduceLT, xr_lt, xr_eq, xr_toInt, xr_0, xi_add, xi_sub, xi_mul, xr_div, xr_rm, Int.toNat_natCast, bd_t, true_and, and_true, not_false_eq_true, ↓reduceIte, ilt_t, ilt_f, ile_t, x_c1i, x_c1r, x_c1n, and_self, Option.toList_some, Option.toList_none, List.cons_append, List.nil_append, xr_01, xr_00, ieq_f, ieq_t]
  refine wK_init_193 (by simp) rfl rfl (k_capInit (p := -1) (pa := 0) (h61.hs (by unfold uL; decide) (by decide)) ?_)
  have h62 := h61.put (k := 8) (i := 3) (by unfold uL; decide) 0 (.ref (A0 n 0 3))
  have f62 := h61.frp f61 (k := 8) (i := 3) (by unfold uL; decide) 0 (.ref (A0 n 0 3))
  have s62 : x_sz (x_put (w26) (A0 n 8 3) 0 (.ref (A0 n 0 3))) = n + 17 := s61
  have h63 := h62.put (k := 8) (i := 3) (by unfold uL; decide) 1 (.int (xi 7))
  have f63 := h62.frp f62 (k := 8) (i := 3) (by unfold uL; decide) 1 (.int (xi 7))
  have s63 : x_sz (x_put (x_put (w26) (A0 n 8 3) 0 (.ref (A0 n 0 3))) (A0 n 8 3) 1 (.int (xi 7))) = n + 17 := s62
  have h64 := h63.put (k := 8) (i := 3) (by unfold uL; decide) 2 (.int (xi 0))
  have f64 := h63.frp f63 (k := 8) (i := 3) (by unfold uL; decide) 2 (.int (xi 0))
  have s64 : x_sz (x_put (x_put (x_put (w26) (A0 n 8 3) 0 (.ref (A0 n 0 3))) (A0 n 8 3) 1 (.int (xi 7))) (A0 n 8 3) 2 (.int (xi 0))) = n + 17 := s63
  have h65 := h64.put (k := 8) (i := 3) (by unfold uL; decide) 3 (pv (-1) 0)
  have f65 := h64.frp f64 (k := 8) (i := 3) (by unfold uL; decide) 3 (pv (-1) 0)
  have s65 : x_sz (x_put (x_put (x_put (x_put (w26) (A0 n 8 3) 0 (.ref (A0 n 0 3))) (A0 n 8 3) 1 (.int (xi 7))) (A0 n 8 3) 2 (.int (xi 0))) (A0 n 8 3) 3 (pv (-1) 0)) = n + 17 := s64
  generalize x_put (x_put (x_put (x_put (w26) (A0 n 8 3) 0 (.ref (A0 n 0 3))) (A0 n 8 3) 1 (.int (xi 7))) (A0 n 8 3) 2 (.int (xi 0))) (A0 n 8 3) 3 (pv (-1) 0) = w27 at *
  simp (disch := first | exact hR _ _ | exact x01a | exact x01b | (unfold x_r; omega) | assumption | omega) only [wK_init_196, x_gi_int, x_ga_ref, x_ga_null, List.getElem?_cons_zero, List.getElem?_cons_succ, List.length_cons, List.length_nil, List.set_cons_zero, List.set_cons_succ, Nat.reduceAdd, Nat.reduceLT, xr_lt, xr_eq, xr_toInt, xr_0, xi_add, xi_sub, xi_mul, xr_div, xr_rm, Int.toNat_natCast, bd_t, true_and, and_true, not_false_eq_true, ↓reduceIte, ilt_t, ilt_f, ile_t, x_c1i, x_c1r, x_c1n, and_self, Option.toList_some, Option.toList_none, List.cons_append, List.nil_append, xr_01, xr_00, ieq_f, ieq_t]
  have tk3a : x_tg w27 (A0 n 12 0) = some (0, 4) := h65.tg (by unfold uL; decide)
  refine wK_init_197 tk3a (by simp) rfl rfl (k_put (A := A0 n) (p := 3) (h65.hs (by unfold uL; decide) (by decide)) (h65.fd (by unfold uL; decide) rfl) (h65.tg (by unfold uL; decide)) (m := 8) (h65.tg (by unfold uL; decide)) (by omega) ?_)
  have h66 := h65.put (k := 12) (i := 1) (by unfold uL; decide) 3 (.ref (A0 n 8 3))
  have f66 := h65.frp f65 (k := 12) (i := 1) (by unfold uL; decide) 3 (.ref (A0 n 8 3))
  have s66 : x_sz (x_put (w27) (A0 n 12 1) 3 (.ref (A0 n 8 3))) = n + 17 := s65
  have h67 := h66.put (k := 8) (i := 3) (by unfold uL; decide) 4 (.int (xi ((3 : Nat) : Int)))
  have f67 := h66.frp f66 (k := 8) (i := 3) (by unfold uL; decide) 4 (.int (xi ((3 : Nat) : Int)))
  have s67 : x_sz (x_put (x_put (w27) (A0 n 12 1) 3 (.ref (A0 n 8 3))) (A0 n 8 3) 4 (.int (xi ((3 : Nat) : Int)))) = n + 17 := s66
  generalize x_put (x_put (w27) (A0 n 12 1) 3 (.ref (A0 n 8 3))) (A0 n 8 3) 4 (.int (xi ((3 : Nat) : Int))) = w28 at *
  simp (disch := first | exact hR _ _ | exact x01a | exact x01b | (unfold x_r; omega) | assumption | omega) only [wK_init_200, x_gi_int, x_ga_ref, x_ga_null, List.getElem?_cons_zero, List.getElem?_cons_succ, List.length_cons, List.length_nil, List.set_cons_zero, List.set_cons_succ, Nat.reduceAdd, Nat.reduceLT, xr_lt, xr_eq, xr_toInt, xr_0, xi_add, xi_sub, xi_mul, xr_div, xr_rm, Int.toNat_natCast, bd_t, true_and, and_true, not_false_eq_true, ↓reduceIte, ilt_t, ilt_f, ile_t, x_c1i, x_c1r, x_c1n, and_self, Option.toList_some, Option.toList_none, List.cons_append, List.nil_append, xr_01, xr_00, ieq_f, ieq_t]
  refine hQ _ (h67.to (fun k i u => ⟨?_, rfl⟩) (fun k i f v u e => ?_)) (f67.le (by omega))
  · rcases init_us u with ⟨rfl, rfl | rfl⟩ | ⟨rfl, rfl⟩ | ⟨rfl, rfl⟩ | ⟨rfl, rfl | rfl | rfl | rfl⟩ | ⟨rfl, rfl | rfl | rfl | rfl⟩ | ⟨rfl, rfl | rfl | rfl | rfl | rfl⟩ <;> (unfold uL; decide)
  · rcases init_us u with ⟨rfl, rfl | rfl⟩ | ⟨rfl, rfl⟩ | ⟨rfl, rfl⟩ | ⟨rfl, rfl | rfl | rfl | rfl⟩ | ⟨rfl, rfl | rfl | rfl | rfl⟩ | ⟨rfl, rfl | rfl | rfl | rfl | rfl⟩
    · rcases (by omega : f = 0 ∨ f = 1 ∨ f = 2 ∨ f = 3 ∨ 4 ≤ f) with rfl | rfl | rfl | rfl | g
      · exact e
      · exact e
      · exact e
      · have g0 : Funt s_init 2 3 = some v := by rw [← e]; exact (if_pos rfl).symm
        unfold Funt at g0
        rw [if_neg (by omega), if_neg (by omega), if_neg (by omega), if_pos rfl, if_pos init_ch.1] at g0; cases g0
      · have g0 : Funt s_init 2 f = some v := e
        unfold Funt at g0
        simp only [if_neg (show ¬ f = 0 by omega), if_neg (show ¬ f = 1 by omega), if_neg (show ¬ f = 2 by omega), if_neg (show ¬ f = 3 by omega), reduceCtorEq] at g0
    · rcases (by omega : f = 0 ∨ f = 1 ∨ f = 2 ∨ f = 3 ∨ 4 ≤ f) with rfl | rfl | rfl | rfl | g
      · exact e
      · exact e
      · exact e
      · have g0 : Funt s_init 3 3 = some v := by rw [← e]; exact (if_pos rfl).symm
        unfold Funt at g0
        rw [if_neg (by omega), if_neg (by omega), if_neg (by omega), if_pos rfl, if_pos init_ch.2] at g0; cases g0
      · have g0 : Funt s_init 3 f = some v := e
        unfold Funt at g0
        simp only [if_neg (show ¬ f = 0 by omega), if_neg (show ¬ f = 1 by omega), if_neg (show ¬ f = 2 by omega), if_neg (show ¬ f = 3 by omega), reduceCtorEq] at g0
    · rcases (by omega : f = 0 ∨ f = 1 ∨ 2 ≤ f) with rfl | rfl | g
      · exact e
      · exact e
      · have g0 : Fthi (A0 n) s_init 1 0 f = some v := e
        unfold Fthi at g0
        simp [show ¬ f = 0 by omega, show ¬ f = 1 by omega] at g0
    · rcases (by omega : f = 0 ∨ f = 1 ∨ f = 2 ∨ f = 3 ∨ f = 4 ∨ f = 5 ∨ f = 6 ∨ f = 7 ∨ f = 8 ∨ f = 9 ∨ f = 10 ∨ f = 11 ∨ f = 12 ∨ f = 13 ∨ f = 14 ∨ f = 15 ∨ 16 ≤ f) with rfl | rfl | rfl | rfl | rfl | rfl | rfl | rfl | rfl | rfl | rfl | rfl | rfl | rfl | rfl | rfl | g
      · exact e
      · exact e
      · exact e
      · exact e
      · exact e
      · exact e
      · exact e
      · exact e
      · exact e
      · exact e
      · exact e
      · exact e
      · cases (show (none : Option Value) = some v from e)
      · cases (show (none : Option Value) = some v from e)
      · cases (show (none : Option Value) = some v from e)
      · cases (show (none : Option Value) = some v from e)
      · have g0 : Fthr (A0 n) s_init (lid s_init) 16 2 f = some v := e
        unfold Fthr at g0
        simp only [if_neg (show ¬ f = 0 by omega), if_neg (show ¬ f = 1 by omega), if_neg (show ¬ f = 2 by omega), if_neg (show ¬ f = 3 by omega), if_neg (show ¬ f = 4 by omega), if_neg (show ¬ f = 5 by omega), if_neg (show ¬ f = 6 by omega), if_neg (show ¬ f = 7 by omega), if_neg (show ¬ f = 8 by omega), if_neg (show ¬ f = 9 by omega), if_neg (show ¬ f = 10 by omega), if_neg (show ¬ f = 11 by omega), if_neg (show ¬ f = 12 by omega), if_neg (show ¬ f = 13 by omega), if_neg (show ¬ f = 14 by omega), if_neg (show ¬ f = 15 by omega), reduceCtorEq] at g0
    · rcases (by omega : f = 0 ∨ f = 1 ∨ f = 2 ∨ f = 3 ∨ f = 4 ∨ f = 5 ∨ f = 6 ∨ f = 7 ∨ 8 ≤ f) with rfl | rfl | rfl | rfl | rfl | rfl | rfl | rfl | g
      · exact e
      · exact e
      · exact e
      · exact e
      · exact e
      · exact e
      · cases (show (none : Option Value) = some v from e)
      · exact e
      · have g0 : Fcap (A0 n) s_init 0 f = some v := e
        unfold Fcap at g0
        simp only [if_neg (show ¬ f = 0 by omega), if_neg (show ¬ f = 1 by omega), if_neg (show ¬ f = 2 by omega), if_neg (show ¬ f = 3 by omega), if_neg (show ¬ f = 4 by omega), if_neg (show ¬ f = 5 by omega), if_neg (show ¬ f = 6 by omega), if_neg (show ¬ f = 7 by omega), reduceCtorEq] at g0
    · rcases (by omega : f = 0 ∨ f = 1 ∨ f = 2 ∨ f = 3 ∨ f = 4 ∨ f = 5 ∨ f = 6 ∨ f = 7 ∨ 8 ≤ f) with rfl | rfl | rfl | rfl | rfl | rfl | rfl | rfl | g
      · exact e
      · exact e
      · exact e
      · exact e
      · exact e
      · exact e
      · cases (show (none : Option Value) = some v from e)
      · exact e
      · have g0 : Fcap (A0 n) s_init 1 f = some v := e
        unfold Fcap at g0
        simp only [if_neg (show ¬ f = 0 by omega), if_neg (show ¬ f = 1 by omega), if_neg (show ¬ f = 2 by omega), if_neg (show ¬ f = 3 by omega), if_neg (show ¬ f = 4 by omega), if_neg (show ¬ f = 5 by omega), if_neg (show ¬ f = 6 by omega), if_neg (show ¬ f = 7 by omega), reduceCtorEq] at g0
    · rcases (by omega : f = 0 ∨ f = 1 ∨ f = 2 ∨ f = 3 ∨ f = 4 ∨ f = 5 ∨ f = 6 ∨ f = 7 ∨ 8 ≤ f) with rfl | rfl | rfl | rfl | rfl | rfl | rfl | rfl | g
      · exact e
      · exact e
      · exact e
      · exact e
      · exact e
      · exact e
      · cases (show (none : Option Value) = some v from e)
      · exact e
      · have g0 : Fcap (A0 n) s_init 2 f = some v := e
        unfold Fcap at g0
        simp only [if_neg (show ¬ f = 0 by omega), if_neg (show ¬ f = 1 by omega), if_neg (show ¬ f = 2 by omega), if_neg (show ¬ f = 3 by omega), if_neg (show ¬ f = 4 by omega), if_neg (show ¬ f = 5 by omega), if_neg (show ¬ f = 6 by omega), if_neg (show ¬ f = 7 by omega), reduceCtorEq] at g0
    · rcases (by omega : f = 0 ∨ f = 1 ∨ f = 2 ∨ f = 3 ∨ f = 4 ∨ f = 5 ∨ f = 6 ∨ f = 7 ∨ 8 ≤ f) with rfl | rfl | rfl | rfl | rfl | rfl | rfl | rfl | g
      · exact e
      · exact e
      · exact e
      · exact e
      · exact e
      · exact e
      · cases (show (none : Option Value) = some v from e)
      · exact e
      · have g0 : Fcap (A0 n) s_init 3 f = some v := e
        unfold Fcap at g0
        simp only [if_neg (show ¬ f = 0 by omega), if_neg (show ¬ f = 1 by omega), if_neg (show ¬ f = 2 by omega), if_neg (show ¬ f = 3 by omega), if_neg (show ¬ f = 4 by omega), if_neg (show ¬ f = 5 by omega), if_neg (show ¬ f = 6 by omega), if_neg (show ¬ f = 7 by omega), reduceCtorEq] at g0
    · rcases (by omega : f = 0 ∨ f = 1 ∨ 2 ≤ f) with rfl | rfl | g
      · exact e
      · exact e
      · have g0 : Flin (A0 n) s_init (lid s_init) 0 f = some v := e
        unfold Flin at g0
        simp only [if_neg (show ¬ f = 0 by omega), if_neg (show ¬ f = 1 by omega), reduceCtorEq] at g0
    · rcases (by omega : f = 0 ∨ f = 1 ∨ 2 ≤ f) with rfl | rfl | g
      · exact e
      · exact e
      · have g0 : Flin (A0 n) s_init (lid s_init) 1 f = some v := e
        unfold Flin at g0
        simp only [if_neg (show ¬ f = 0 by omega), if_neg (show ¬ f = 1 by omega), reduceCtorEq] at g0
    · rcases (by omega : f = 0 ∨ f = 1 ∨ 2 ≤ f) with rfl | rfl | g
      · exact e
      · exact e
      · have g0 : Flin (A0 n) s_init (lid s_init) 2 f = some v := e
        unfold Flin at g0
        simp only [if_neg (show ¬ f = 0 by omega), if_neg (show ¬ f = 1 by omega), reduceCtorEq] at g0
    · rcases (by omega : f = 0 ∨ f = 1 ∨ 2 ≤ f) with rfl | rfl | g
      · exact e
      · exact e
      · have g0 : Flin (A0 n) s_init (lid s_init) 3 f = some v := e
        unfold Flin at g0
        simp only [if_neg (show ¬ f = 0 by omega), if_neg (show ¬ f = 1 by omega), reduceCtorEq] at g0
    · rcases (by omega : f = 0 ∨ f = 1 ∨ f = 2 ∨ f = 3 ∨ 4 ≤ f) with rfl | rfl | rfl | rfl | g
      · exact e
      · exact e
      · exact e
      · exact e
      · have g0 : (if f < 4 then some (.ref (A0 n 12 ((f : Int) + 1))) else none) = some v := e
        rw [if_neg (by omega)] at g0; cases g0
    · by_cases c : 4 ≤ f
      · by_cases c2 : f < 128
        · have g0 : (if f < 128 then some (pv (s_init 0 f) (A0 n 8 f)) else none) = some v := e
          rw [if_pos c2, (init_0 f c2 c).1, pv_n (by omega)] at g0
          rw [← g0]
          have a0 : ¬ f = 0 := by omega
          have a1 : ¬ f = 1 := by omega
          have a2 : ¬ f = 2 := by omega
          have a3 : ¬ f = 3 := by omega
          simp [fup, fnw, a0, a1, a2, a3]
        · have g0 : (if f < 128 then some (pv (s_init 0 f) (A0 n 8 f)) else none) = some v := e
          rw [if_neg c2] at g0; cases g0
      · rcases (by omega : f = 0 ∨ f = 1 ∨ f = 2 ∨ f = 3) with rfl | rfl | rfl | rfl <;> exact e
    · rcases (by omega : f = 0 ∨ f = 1 ∨ f = 2 ∨ f = 3 ∨ f = 4 ∨ f = 5 ∨ f = 6 ∨ f = 7 ∨ f = 8 ∨ f = 9 ∨ f = 10 ∨ f = 11 ∨ f = 12 ∨ f = 13 ∨ f = 14 ∨ f = 15 ∨ 16 ≤ f) with rfl | rfl | rfl | rfl | rfl | rfl | rfl | rfl | rfl | rfl | rfl | rfl | rfl | rfl | rfl | rfl | g
      · exact e
      · exact e
      · exact e
      · exact e
      · exact e
      · exact e
      · exact e
      · exact e
      · exact e
      · exact e
      · exact e
      · exact e
      · exact e
      · exact e
      · exact e
      · exact e
      · have g0 : (if f < 16 then some (if s_init 10 f = 0 then .null else .ref (A0 n 2 (8 * (f : Int)))) else none) = some v := e
        rw [if_neg (by omega)] at g0; cases g0
    · rcases (by omega : f = 0 ∨ f = 1 ∨ f = 2 ∨ f = 3 ∨ 4 ≤ f) with rfl | rfl | rfl | rfl | g
      · exact e
      · exact e
      · exact e
      · exact e
      · have g0 : (if f < 4 then some (.ref (A0 n 9 f)) else none) = some v := e
        rw [if_neg (by omega)] at g0; cases g0
    · rcases (by omega : f = 0 ∨ f = 1 ∨ f = 2 ∨ f = 3 ∨ 4 ≤ f) with rfl | rfl | rfl | rfl | g
      · exact e
      · exact e
      · exact e
      · exact e
      · have g0 : (if f < 4 then some (pv (s_init 27 f) (A0 n 4 (s_init 27 f))) else none) = some v := e
        rw [if_neg (by omega)] at g0; cases g0
theorem k_init (hw : ∀ a, x_sz w ≤ a → x_tg w a = none) {l1 l2 : Option Value} (hQ : ∀ w' A, A 12 0 = x_sz w → Rel w' A s_init (lid s_init) → Fr (x_new w 0 4 (x_df 0)) w' 24 → Q none w') : WP P 0 0 [some (.ref (x_sz w)), l1, l2] [] (x_new w 0 4 (x_df 0)) Q := by
  refine k_init0 (n := x_sz w) rfl ?_ (Fr.refl _) (fun w' h fr => hQ w' _ rfl h fr)
  refine ⟨fun k i u => ?_, fun k i k' i' u u' e => ?_, fun k i f v u e => (by cases e), fun a ha => ?_⟩
  · have := Prod.mk.inj (List.mem_singleton.1 u)
    rw [this.1, this.2]
    show x_tg _ (x_sz w) = _
    rw [x_tg_new, if_pos rfl]; rfl
  · have a := Prod.mk.inj (List.mem_singleton.1 u)
    have b := Prod.mk.inj (List.mem_singleton.1 u')
    exact ⟨a.1.trans b.1.symm, a.2.trans b.2.symm⟩
  · rw [x_sz_new] at ha
    rw [x_tg_new, if_neg (by omega)]
    exact hw a (by omega)
end KI
