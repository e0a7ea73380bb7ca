theorem hd_al {S : xS} (h : CapA S) {k u : Int} (hk : 1 ≤ k) (g : hd S k u) : u % s_size k 0 = 0 ∧ u + s_size k 0 ≤ 128 := by
  obtain ⟨p, p1, p2, p3⟩ := g
  have q := (h p p1).2 (by omega)
  have e : szS S p = s_size k 0 := by
    unfold szS s_size
    rw [p2]
    simp only [show ¬ k = 0 by omega, if_false]
  rw [e, p3] at q
  exact ⟨q.1, q.2.1⟩
/-- a rank below 128 -/
theorem TrS.rank {S : xS} (h : TrS S) : ∃ r : Nat → Nat, (∀ q, r q ≤ 128) ∧ ∀ q, q < 128 → S 4 q = -1 ∨ (0 ≤ S 4 q ∧ S 4 q < 128 ∧ 0 ≤ S 0 (S 4 q).toNat ∧ r (S 4 q).toNat < r q) := by
  obtain ⟨rho, h⟩ := h
  have lt : ∀ (x y : Nat), x < y → ∀ n : Nat, (∀ z, z < n → rho z ≠ x) → cntL (fun p => rho p < x) n ≤ cntL (fun p => rho p < y) n := by
    intro x y hxy n
    induction n with
    | zero => intro _; exact Int.le_refl _
    | succ n ih =>
      intro hn
      have := ih (fun z hz => hn z (by omega))
      unfold cntL
      have k := hn n (by omega)
      split
      · rw [if_pos (by omega)]; omega
      · split <;> omega
  have lt2 : ∀ (x y : Nat), x < y → ∀ n : Nat, cntL (fun p => rho p < x) n ≤ cntL (fun p => rho p < y) n := by
    intro x y hxy n
    induction n with
    | zero => exact Int.le_refl _
    | succ n ih =>
      unfold cntL
      split
      · rw [if_pos (by omega)]; omega
      · split <;> omega
  have lt3 : ∀ (x y : Nat), x < y → ∀ n z : Nat, z < n → rho z = x → cntL (fun p => rho p < x) n < cntL (fun p => rho p < y) n := by
    intro x y hxy n
    induction n with
    | zero => intro z hz; omega
    | succ n ih =>
      intro z hz e
      unfold cntL
      by_cases c : z = n
      · have := lt2 x y hxy n
        rw [if_neg (by rw [← c]; omega), if_pos (by rw [← c]; omega)]
        omega
      · have := ih z (by omega) e
        split
        · rw [if_pos (by omega)]; omega
        · split <;> omega
  refine ⟨fun q => (cntL (fun p => rho p < rho q) 128).toNat, fun q => ?_, fun q hq => ?_⟩
  · have := cntL_in (fun p => rho p < rho q) 128
    dsimp only
    omega
  · dsimp only
    rcases h q hq with g | ⟨g1, g2, g3, g4⟩
    · exact Or.inl g
    · refine Or.inr ⟨g1, g2, g3, ?_⟩
      have := lt3 _ _ g4 128 (S 4 q).toNat (by omega) rfl
      have := cntL_in (fun p => rho p < rho (S 4 q).toNat) 128
      omega
section KG
variable {P : xP} {w : xH} {Q : Option Value → xH → Prop} {A : xA} {S : xS} {ln : Nat → Int}
theorem k_unitOf {T : Nat} {x u : Int} (hT : ¬ x < 0 → x_has w T [2, 4, 5, 6, 7, 8, 9, 10] ∧ x_fd w T 1 = .int (xi u)) (hQ : Q (some (.int (xi (if x < 0 then -1 else u)))) w) : WP P 68 0 [some (pv x T)] [] w Q := by
  have hR : RgS s_zero := RgS.zero
  by_cases c : x < 0
  · rw [if_pos c] at hQ
    rw [pv_n c]
    simp (disch := first | exact hR _ _ | exact x01a | exact x01b | (unfold x_r; omega) | assumption | omega) only [wK_unitOf_0, wK_unitOf_1n, wK_unitOf_1, wK_unitOf_4, wK_unitOf_5, wK_unitOf_8, wK_unitOf_9, wK_unitOf_12, x_gi_int, x_ga_ref, x_ga_null, List.getElem?_cons_zero, List.getElem?_cons_succ, List.length_cons, List.length_nil, List.set_cons_zero, List.set_cons_succ, Nat.reduceAdd, Nat.reduceLT, xr_lt, xr_eq, xr_toInt, xr_0, xi_add, xi_sub, xi_mul, xr_div, xr_rm, Int.toNat_natCast, bd_t, true_and, and_true, not_false_eq_true, ↓reduceIte, ilt_t, ilt_f, ile_t, x_c1i, x_c1r, x_c1n, and_self, Option.toList_some, Option.toList_none, List.cons_append, List.nil_append, xr_01, xr_00, ieq_f, ieq_t]
    exact hQ
  · rw [if_neg c] at hQ
    rw [pv_r c]
    obtain ⟨h1, h2⟩ := hT c
    simp (disch := first | exact hR _ _ | exact x01a | exact x01b | (unfold x_r; omega) | assumption | omega) only [wK_unitOf_0, wK_unitOf_1n, wK_unitOf_1, wK_unitOf_4, wK_unitOf_5, wK_unitOf_8, wK_unitOf_9, wK_unitOf_12, h1, h2, x_gi_int, x_ga_ref, x_ga_null, List.getElem?_cons_zero, List.getElem?_cons_succ, List.length_cons, List.length_nil, List.set_cons_zero, List.set_cons_succ, Nat.reduceAdd, Nat.reduceLT, xr_lt, xr_eq, xr_toInt, xr_0, xi_add, xi_sub, xi_mul, xr_div, xr_rm, Int.toNat_natCast, bd_t, true_and, and_true, not_false_eq_true, ↓reduceIte, ilt_t, ilt_f, ile_t, x_c1i, x_c1r, x_c1n, and_self, Option.toList_some, Option.toList_none, List.cons_append, List.nil_append, xr_01, xr_00, ieq_f, ieq_t]
    exact hQ
theorem k_whereIs (h : Rel w A S ln) {p : Int} (p0 : -1 ≤ p) (p1 : p < 128) (p2 : ¬ p < 0 → 0 ≤ S 0 p.toNat) {l1 : Option Value} (hQ : Q (some (.int (xi (if p = -1 then -1 else 256 * (p / 16) + p % 16)))) w) : WP P 71 0 [some (pv p (A 8 p)), l1] [] w Q := by
  have hR : RgS s_zero := RgS.zero
  by_cases c : p < 0
  · rw [if_pos (by omega)] at hQ
    rw [pv_n c]
    simp (disch := first | exact hR _ _ | exact x01a | exact x01b | (unfold x_r; omega) | assumption | omega) only [wK_whereIs_0, wK_whereIs_1n, wK_whereIs_1, wK_whereIs_4, wK_whereIs_5, wK_whereIs_6, wK_whereIs_7, wK_whereIs_10, wK_whereIs_12, wK_whereIs_13, wK_whereIs_14, wK_whereIs_16, wK_whereIs_17, wK_whereIs_20, wK_whereIs_21, wK_whereIs_22, wK_whereIs_23, wK_whereIs_24, wK_whereIs_25, x_gi_int, x_ga_ref, x_ga_null, List.getElem?_cons_zero, List.getElem?_cons_succ, List.length_cons, List.length_nil, List.set_cons_zero, List.set_cons_succ, Nat.reduceAdd, Nat.reduceLT, xr_lt, xr_eq, xr_toInt, xr_0, xi_add, xi_sub, xi_mul, xr_div, xr_rm, Int.toNat_natCast, bd_t, true_and, and_true, not_false_eq_true, ↓reduceIte, ilt_t, ilt_f, ile_t, x_c1i, x_c1r, x_c1n, and_self, Option.toList_some, Option.toList_none, List.cons_append, List.nil_append, xr_01, xr_00, ieq_f, ieq_t]
    exact hQ
  · rw [if_neg (by omega)] at hQ
    rw [pv_r c]
    obtain ⟨ct, c0, c1, c2, c3, c4, -⟩ := h.cap (p := p) (by omega) p1 (p2 c)
    have hc : x_has w (A 8 p) [1] := ⟨_, _, ct, by decide⟩
    simp (disch := first | exact hR _ _ | exact x01a | exact x01b | (unfold x_r; omega) | assumption | omega) only [wK_whereIs_0, wK_whereIs_1n, wK_whereIs_1, wK_whereIs_4, wK_whereIs_5, wK_whereIs_6, wK_whereIs_7, wK_whereIs_10, wK_whereIs_12, wK_whereIs_13, wK_whereIs_14, wK_whereIs_16, wK_whereIs_17, wK_whereIs_20, wK_whereIs_21, wK_whereIs_22, wK_whereIs_23, wK_whereIs_24, wK_whereIs_25, hc, c4, x_gi_int, x_ga_ref, x_ga_null, List.getElem?_cons_zero, List.getElem?_cons_succ, List.length_cons, List.length_nil, List.set_cons_zero, List.set_cons_succ, Nat.reduceAdd, Nat.reduceLT, xr_lt, xr_eq, xr_toInt, xr_0, xi_add, xi_sub, xi_mul, xr_div, xr_rm, Int.toNat_natCast, bd_t, true_and, and_true, not_false_eq_true, ↓reduceIte, ilt_t, ilt_f, ile_t, x_c1i, x_c1r, x_c1n, and_self, Option.toList_some, Option.toList_none, List.cons_append, List.nil_append, xr_01, xr_00, ieq_f, ieq_t]
    rw [show 256 * (p / 16) + p % 16 = 16 * (p - p % 16) + p % 16 by omega] at hQ
    exact hQ
theorem k_useOf (h : Rel w A S ln) (hI : Inv S) {p : Int} (p0 : 0 ≤ p) (p1 : p < 128) (p2 : 0 ≤ S 0 p.toNat) {l2 l3 : Option Value} (hQ : Q (some (.int (xi (if S 0 p.toNat = 0 then s_freePoint S p else s_mapped S p)))) w) : WP P 72 0 [some (.ref (A 12 0)), some (.ref (A 8 p)), l2, l3] [] w Q := by
  have hA := hI.1.2.1
  have hR := hI.1.1
  obtain ⟨⟨t0, t1, t2, t3, t4⟩, f0, f1, f2, f3⟩ := h.ker
  obtain ⟨ct, c0, c1, c2, c3, c4, c5, c6, c7⟩ := h.cap p0 p1 p2
  obtain ⟨n, g0, g1, g2, g3⟩ := h.thg hA p0 p1 p2
  have hc : x_has w (A 8 p) [1] := ⟨_, _, ct, by decide⟩
  have k7 := (hA p.toNat (by omega)).1
  have ti := (tgK_is p2 k7.2.1).2.2.2.2.1
  by_cases c : S 0 p.toNat = 0
  · rw [if_pos c] at hQ
    have tt := ti.2 c
    rw [tt] at g0 g1
    have et : thA A S p = A 0 p := if_pos c
    rw [et] at c0 g0
    simp (disch := first | exact hR _ _ | exact x01a | exact x01b | (unfold x_r; omega) | assumption | omega) only [wK_useOf_0, wK_useOf_1, wK_useOf_4, wK_useOf_4n, wK_useOf_5, wK_useOf_6 g0 g1, wK_useOf_9, wK_useOf_12, wK_useOf_13 g0, wK_useOf_16, wK_useOf_16n, wK_useOf_17, wK_useOf_18, wK_useOf_19, hc, c0, x_gi_int, x_ga_ref, x_ga_null, List.getElem?_cons_zero, List.getElem?_cons_succ, List.length_cons, List.length_nil, List.set_cons_zero, List.set_cons_succ, Nat.reduceAdd, Nat.reduceLT, xr_lt, xr_eq, xr_toInt, xr_0, xi_add, xi_sub, xi_mul, xr_div, xr_rm, Int.toNat_natCast, bd_t, true_and, and_true, not_false_eq_true, ↓reduceIte, ilt_t, ilt_f, ile_t, x_c1i, x_c1r, x_c1n, and_self, Option.toList_some, Option.toList_none, List.cons_append, List.nil_append, xr_01, xr_00, ieq_f, ieq_t]
    refine wK_useOf_20 t0 (by simp) rfl rfl (k_freePoint h hI p0 p1 c ?_)
    simp (disch := first | exact hR _ _ | exact x01a | exact x01b | (unfold x_r; omega) | assumption | omega) only [wK_useOf_23, x_gi_int, x_ga_ref, x_ga_null, List.getElem?_cons_zero, List.getElem?_cons_succ, List.length_cons, List.length_nil, List.set_cons_zero, List.set_cons_succ, Nat.reduceAdd, Nat.reduceLT, xr_lt, xr_eq, xr_toInt, xr_0, xi_add, xi_sub, xi_mul, xr_div, xr_rm, Int.toNat_natCast, bd_t, true_and, and_true, not_false_eq_true, ↓reduceIte, ilt_t, ilt_f, ile_t, x_c1i, x_c1r, x_c1n, and_self, Option.toList_some, Option.toList_none, List.cons_append, List.nil_append, xr_01, xr_00, ieq_f, ieq_t]
    exact hQ
  · rw [if_neg c] at hQ
    have tt : ¬ (tgK (S 0 p.toNat) 0).1 = 4 := fun x => c (ti.1 x)
    simp (disch := first | exact hR _ _ | exact x01a | exact x01b | (unfold x_r; omega) | assumption | omega) only [wK_useOf_0, wK_useOf_1, wK_useOf_4, wK_useOf_4n, wK_useOf_5, wK_useOf_6 g0 g1, wK_useOf_9, wK_useOf_24, hc, c0, tt, x_gi_int, x_ga_ref, x_ga_null, List.getElem?_cons_zero, List.getElem?_cons_succ, List.length_cons, List.length_nil, List.set_cons_zero, List.set_cons_succ, Nat.reduceAdd, Nat.reduceLT, xr_lt, xr_eq, xr_toInt, xr_0, xi_add, xi_sub, xi_mul, xr_div, xr_rm, Int.toNat_natCast, bd_t, true_and, and_true, not_false_eq_true, ↓reduceIte, ilt_t, ilt_f, ile_t, x_c1i, x_c1r, x_c1n, and_self, Option.toList_some, Option.toList_none, List.cons_append, List.nil_append, xr_01, xr_00, ieq_f, ieq_t]
    refine wK_useOf_25 (by simp) rfl rfl (k_isMapped h hI p0 p1 p2 ?_)
    have m01 : s_mapped S p = 0 ∨ s_mapped S p = 1 := by
      unfold s_mapped
      (repeat' split) <;> omega
    rcases m01 with e | e <;> rw [e] at hQ ⊢
    · simp (disch := first | exact hR _ _ | exact x01a | exact x01b | (unfold x_r; omega) | assumption | omega) only [wK_useOf_28, wK_useOf_35, wK_useOf_36, x_gi_int, x_ga_ref, x_ga_null, List.getElem?_cons_zero, List.getElem?_cons_succ, List.length_cons, List.length_nil, List.set_cons_zero, List.set_cons_succ, Nat.reduceAdd, Nat.reduceLT, xr_lt, xr_eq, xr_toInt, xr_0, xi_add, xi_sub, xi_mul, xr_div, xr_rm, Int.toNat_natCast, bd_t, true_and, and_true, not_false_eq_true, ↓reduceIte, ilt_t, ilt_f, ile_t, x_c1i, x_c1r, x_c1n, and_self, Option.toList_some, Option.toList_none, List.cons_append, List.nil_append, xr_01, xr_00, ieq_f, ieq_t]
      exact hQ
    · simp (disch := first | exact hR _ _ | exact x01a | exact x01b | (unfold x_r; omega) | assumption | omega) only [wK_useOf_28, wK_useOf_31, wK_useOf_32, wK_useOf_36, x_gi_int, x_ga_ref, x_ga_null, List.getElem?_cons_zero, List.getElem?_cons_succ, List.length_cons, List.length_nil, List.set_cons_zero, List.set_cons_succ, Nat.reduceAdd, Nat.reduceLT, xr_lt, xr_eq, xr_toInt, xr_0, xi_add, xi_sub, xi_mul, xr_div, xr_rm, Int.toNat_natCast, bd_t, true_and, and_true, not_false_eq_true, ↓reduceIte, ilt_t, ilt_f, ile_t, x_c1i, x_c1r, x_c1n, and_self, Option.toList_some, Option.toList_none, List.cons_append, List.nil_append, xr_01, xr_00, ieq_f, ieq_t]
      exact hQ
def s_tou (S : xS) (u : Int) : Int := if s_there S 2 u then u / 8 else -1
theorem tou_is {S : xS} (hI : Inv S) (u : Int) : s_tou S u = if u < 0 then -1 else if ¬ u < 128 then -1 else if u % 8 = 0 then (if S 10 (u / 8).toNat = 0 then -1 else u / 8) else -1 := by
  have hA := hI.1.2.1
  unfold s_tou
  by_cases c1 : u < 0
  · rw [if_pos c1, if_neg (fun x => by have := x.1; omega)]
  rw [if_neg c1]
  by_cases c2 : ¬ u < 128
  · rw [if_pos c2, if_neg (fun x => c2 x.2.1)]
  rw [if_neg c2]
  by_cases c3 : u % 8 = 0
  · rw [if_pos c3]
    have g := (hI.1.2.2.2.2.2.1 (u / 8).toNat (by omega)).2.1
    rw [show 8 * (((u / 8).toNat : Nat) : Int) = u by omega] at g
    by_cases c4 : S 10 (u / 8).toNat = 0
    · rw [if_pos c4, if_neg (fun x => g.2 ((s_there_hd (by omega)).1 x).2.2 c4)]
    · rw [if_neg c4, if_pos ((s_there_hd (by omega)).2 ⟨by omega, by omega, g.1 c4⟩)]
  · rw [if_neg c3, if_neg (fun x => c3 ?_)]
    exact (hd_al hA (by omega) ((s_there_hd (by omega)).1 x).2.2).1
theorem k_threadOfUnit (h : Rel w A S ln) (hI : Inv S) {u : Int} (hu : x_r u) (hQ : Q (some (pv (s_tou S u) (A 2 (8 * s_tou S u)))) w) : WP P 74 0 [some (.ref (A 12 0)), some (.int (xi u))] [] w Q := by
  obtain ⟨⟨t0, t1, t2, t3, t4⟩, f0, f1, f2, f3⟩ := h.ker
  have hk : x_has w (A 12 0) [0] := ⟨_, _, t0, by decide⟩
  have hR := hI.1.1
  rw [tou_is hI] at hQ
  unfold x_r at hu
  by_cases c1 : u < 0
  · rw [if_pos c1, pv_n (by omega)] at hQ
    simp (disch := first | exact hR _ _ | exact x01a | exact x01b | (unfold x_r; omega) | assumption | omega) only [wK_threadOfUnit_0, wK_threadOfUnit_1, wK_threadOfUnit_18, wK_threadOfUnit_19n, wK_threadOfUnit_19, x_gi_int, x_ga_ref, x_ga_null, List.getElem?_cons_zero, List.getElem?_cons_succ, List.length_cons, List.length_nil, List.set_cons_zero, List.set_cons_succ, Nat.reduceAdd, Nat.reduceLT, xr_lt, xr_eq, xr_toInt, xr_0, xi_add, xi_sub, xi_mul, xr_div, xr_rm, Int.toNat_natCast, bd_t, true_and, and_true, not_false_eq_true, ↓reduceIte, ilt_t, ilt_f, ile_t, x_c1i, x_c1r, x_c1n, and_self, Option.toList_some, Option.toList_none, List.cons_append, List.nil_append, xr_01, xr_00, ieq_f, ieq_t]
    exact hQ
  rw [if_neg c1] at hQ
  by_cases c2 : ¬ u < 128
  · rw [if_pos c2, pv_n (by omega)] at hQ
    simp (disch := first | exact hR _ _ | exact x01a | exact x01b | (unfold x_r; omega) | assumption | omega) only [wK_threadOfUnit_0, wK_threadOfUnit_1, wK_threadOfUnit_4, wK_threadOfUnit_5, wK_threadOfUnit_8, wK_threadOfUnit_18, wK_threadOfUnit_19n, wK_threadOfUnit_19, x_gi_int, x_ga_ref, x_ga_null, List.getElem?_cons_zero, List.getElem?_cons_succ, List.length_cons, List.length_nil, List.set_cons_zero, List.set_cons_succ, Nat.reduceAdd, Nat.reduceLT, xr_lt, xr_eq, xr_toInt, xr_0, xi_add, xi_sub, xi_mul, xr_div, xr_rm, Int.toNat_natCast, bd_t, true_and, and_true, not_false_eq_true, ↓reduceIte, ilt_t, ilt_f, ile_t, x_c1i, x_c1r, x_c1n, and_self, Option.toList_some, Option.toList_none, List.cons_append, List.nil_append, xr_01, xr_00, ieq_f, ieq_t]
    exact hQ
  rw [if_neg c2] at hQ
  by_cases c3 : u % 8 = 0
  · rw [if_pos c3] at hQ
    have sl := h.ths (t := (u / 8).toNat) (by omega)
    have ec := x_cle (e := u / 8) (by omega) (by omega)
    have nn := x_nn (e := u / 8) (by omega) (by omega)
    have nc := x_clt (e := u / 8) (n := 16) (by omega) (by omega) (by omega)
    rw [show (((u / 8).toNat : Nat) : Int) = u / 8 by omega] at sl
    by_cases c4 : S 10 (u / 8).toNat = 0
    · rw [if_pos c4, pv_n (by omega)] at hQ
      rw [if_pos c4] at sl
      simp (disch := first | exact hR _ _ | exact x01a | exact x01b | (unfold x_r; omega) | assumption | omega) only [wK_threadOfUnit_0, wK_threadOfUnit_1, wK_threadOfUnit_4, wK_threadOfUnit_5, wK_threadOfUnit_8, wK_threadOfUnit_11, wK_threadOfUnit_12, wK_threadOfUnit_14, wK_threadOfUnit_15, wK_threadOfUnit_20, wK_threadOfUnit_21, wK_threadOfUnit_24, wK_threadOfUnit_25, wK_threadOfUnit_27, wK_threadOfUnit_28 t2 (by omega) nn nc, wK_threadOfUnit_29n, wK_threadOfUnit_29, hk, f1, ec, sl, c3, x_gi_int, x_ga_ref, x_ga_null, List.getElem?_cons_zero, List.getElem?_cons_succ, List.length_cons, List.length_nil, List.set_cons_zero, List.set_cons_succ, Nat.reduceAdd, Nat.reduceLT, xr_lt, xr_eq, xr_toInt, xr_0, xi_add, xi_sub, xi_mul, xr_div, xr_rm, Int.toNat_natCast, bd_t, true_and, and_true, not_false_eq_true, ↓reduceIte, ilt_t, ilt_f, ile_t, x_c1i, x_c1r, x_c1n, and_self, Option.toList_some, Option.toList_none, List.cons_append, List.nil_append, xr_01, xr_00, ieq_f, ieq_t]
      exact hQ
    · rw [if_neg c4, pv_r (by omega)] at hQ
      rw [if_neg c4] at sl
      simp (disch := first | exact hR _ _ | exact x01a | exact x01b | (unfold x_r; omega) | assumption | omega) only [wK_threadOfUnit_0, wK_threadOfUnit_1, wK_threadOfUnit_4, wK_threadOfUnit_5, wK_threadOfUnit_8, wK_threadOfUnit_11, wK_threadOfUnit_12, wK_threadOfUnit_14, wK_threadOfUnit_15, wK_threadOfUnit_20, wK_threadOfUnit_21, wK_threadOfUnit_24, wK_threadOfUnit_25, wK_threadOfUnit_27, wK_threadOfUnit_28 t2 (by omega) nn nc, wK_threadOfUnit_29n, wK_threadOfUnit_29, hk, f1, ec, sl, c3, x_gi_int, x_ga_ref, x_ga_null, List.getElem?_cons_zero, List.getElem?_cons_succ, List.length_cons, List.length_nil, List.set_cons_zero, List.set_cons_succ, Nat.reduceAdd, Nat.reduceLT, xr_lt, xr_eq, xr_toInt, xr_0, xi_add, xi_sub, xi_mul, xr_div, xr_rm, Int.toNat_natCast, bd_t, true_and, and_true, not_false_eq_true, ↓reduceIte, ilt_t, ilt_f, ile_t, x_c1i, x_c1r, x_c1n, and_self, Option.toList_some, Option.toList_none, List.cons_append, List.nil_append, xr_01, xr_00, ieq_f, ieq_t]
      exact hQ
  · rw [if_neg c3, pv_n (by omega)] at hQ
    simp (disch := first | exact hR _ _ | exact x01a | exact x01b | (unfold x_r; omega) | assumption | omega) only [wK_threadOfUnit_0, wK_threadOfUnit_1, wK_threadOfUnit_4, wK_threadOfUnit_5, wK_threadOfUnit_8, wK_threadOfUnit_11, wK_threadOfUnit_12, wK_threadOfUnit_14, wK_threadOfUnit_15, wK_threadOfUnit_18, wK_threadOfUnit_19n, wK_threadOfUnit_19, c3, x_gi_int, x_ga_ref, x_ga_null, List.getElem?_cons_zero, List.getElem?_cons_succ, List.length_cons, List.length_nil, List.set_cons_zero, List.set_cons_succ, Nat.reduceAdd, Nat.reduceLT, xr_lt, xr_eq, xr_toInt, xr_0, xi_add, xi_sub, xi_mul, xr_div, xr_rm, Int.toNat_natCast, bd_t, true_and, and_true, not_false_eq_true, ↓reduceIte, ilt_t, ilt_f, ile_t, x_c1i, x_c1r, x_c1n, and_self, Option.toList_some, Option.toList_none, List.cons_append, List.nil_append, xr_01, xr_00, ieq_f, ieq_t]
    exact hQ
theorem k_df_loop (h : Rel w A S ln) (hR : RgS S) {s q : Int} (s0 : 0 ≤ s) (s1 : s < 128) (s2 : 0 ≤ S 0 s.toNat) (r : Nat → Nat) (hr : ∀ q, q < 128 → S 4 q = -1 ∨ (0 ≤ S 4 q ∧ S 4 q < 128 ∧ 0 ≤ S 0 (S 4 q).toNat ∧ r (S 4 q).toNat < r q)) {l0 : Option Value} : ∀ (n : Nat) (up : Int), (up = -1 ∨ (0 ≤ up ∧ up < 128 ∧ 0 ≤ S 0 up.toNat ∧ r up.toNat < n)) → Q (some (.int (xi (if upL S s n up = s then 1 else 0)))) w →
    WP P 41 5 [l0, some (.ref (A 8 s)), some (pv up (A 8 up))] [] w Q := by
  intro n
  induction n with
  | zero =>
    intro up hu hQ
    have e : up = -1 := by omega
    unfold upL at hQ
    rw [if_neg (by omega)] at hQ
    rw [pv_n (by omega)]
    simp (disch := first | exact hR _ _ | exact x01a | exact x01b | (unfold x_r; omega) | assumption | omega) only [wK_descendsFrom_5, wK_descendsFrom_6n, wK_descendsFrom_6, wK_descendsFrom_24, wK_descendsFrom_25, true_or, or_true, x_gi_int, x_ga_ref, x_ga_null, List.getElem?_cons_zero, List.getElem?_cons_succ, List.length_cons, List.length_nil, List.set_cons_zero, List.set_cons_succ, Nat.reduceAdd, Nat.reduceLT, xr_lt, xr_eq, xr_toInt, xr_0, xi_add, xi_sub, xi_mul, xr_div, xr_rm, Int.toNat_natCast, bd_t, true_and, and_true, not_false_eq_true, ↓reduceIte, ilt_t, ilt_f, ile_t, x_c1i, x_c1r, x_c1n, and_self, Option.toList_some, Option.toList_none, List.cons_append, List.nil_append, xr_01, xr_00, ieq_f, ieq_t]
    exact hQ
  | succ n ih =>
    intro up hu hQ
    unfold upL at hQ
    by_cases c1 : up = -1
    · rw [if_pos c1, if_neg (by omega)] at hQ
      rw [pv_n (by omega)]
      simp (disch := first | exact hR _ _ | exact x01a | exact x01b | (unfold x_r; omega) | assumption | omega) only [wK_descendsFrom_5, wK_descendsFrom_6n, wK_descendsFrom_6, wK_descendsFrom_24, wK_descendsFrom_25, true_or, or_true, x_gi_int, x_ga_ref, x_ga_null, List.getElem?_cons_zero, List.getElem?_cons_succ, List.length_cons, List.length_nil, List.set_cons_zero, List.set_cons_succ, Nat.reduceAdd, Nat.reduceLT, xr_lt, xr_eq, xr_toInt, xr_0, xi_add, xi_sub, xi_mul, xr_div, xr_rm, Int.toNat_natCast, bd_t, true_and, and_true, not_false_eq_true, ↓reduceIte, ilt_t, ilt_f, ile_t, x_c1i, x_c1r, x_c1n, and_self, Option.toList_some, Option.toList_none, List.cons_append, List.nil_append, xr_01, xr_00, ieq_f, ieq_t]
      exact hQ
    rw [if_neg c1] at hQ
    obtain ⟨u0, u1, u2, u3⟩ := hu.resolve_left c1
    rw [pv_r (by omega)]
    obtain ⟨ct, -, -, -, c3, -⟩ := h.cap u0 u1 u2
    have hc : x_has w (A 8 up) [1] := ⟨_, _, ct, by decide⟩
    by_cases c2 : up = s
    · rw [if_pos c2, if_pos c2] at hQ
      rw [c2]
      simp (disch := first | exact hR _ _ | exact x01a | exact x01b | (unfold x_r; omega) | assumption | omega) only [wK_descendsFrom_5, wK_descendsFrom_6n, wK_descendsFrom_6, wK_descendsFrom_9, wK_descendsFrom_10, wK_descendsFrom_11 (x_rv_r _) (x_rv_r _), wK_descendsFrom_14, wK_descendsFrom_15, true_or, or_true, x_gi_int, x_ga_ref, x_ga_null, List.getElem?_cons_zero, List.getElem?_cons_succ, List.length_cons, List.length_nil, List.set_cons_zero, List.set_cons_succ, Nat.reduceAdd, Nat.reduceLT, xr_lt, xr_eq, xr_toInt, xr_0, xi_add, xi_sub, xi_mul, xr_div, xr_rm, Int.toNat_natCast, bd_t, true_and, and_true, not_false_eq_true, ↓reduceIte, ilt_t, ilt_f, ile_t, x_c1i, x_c1r, x_c1n, and_self, Option.toList_some, Option.toList_none, List.cons_append, List.nil_append, xr_01, xr_00, ieq_f, ieq_t]
      exact hQ
    · rw [if_neg c2] at hQ
      have ne : ¬ (some (A 8 up) = some (A 8 s)) := by
        intro e
        exact c2 (h.inj (us_cap u0 u1 u2) (us_cap s0 s1 s2) (Option.some.inj e)).2
      have i := ih (S 4 up.toNat) (by
        rcases hr up.toNat (by omega) with g | g
        · exact Or.inl g
        · exact Or.inr ⟨g.1, g.2.1, g.2.2.1, by omega⟩) hQ
      rw [wK_descendsFrom_5]
      by_cases c4 : S 4 up.toNat < 0
      · rw [pv_n c4] at c3 i
        simp (disch := first | exact hR _ _ | exact x01a | exact x01b | (unfold x_r; omega) | assumption | omega) only [wK_descendsFrom_6n, wK_descendsFrom_6, wK_descendsFrom_9, wK_descendsFrom_10, wK_descendsFrom_11 (x_rv_r _) (x_rv_r _), wK_descendsFrom_16, wK_descendsFrom_17, wK_descendsFrom_20, wK_descendsFrom_20n, wK_descendsFrom_21, hc, c3, ne, x_gi_int, x_ga_ref, x_ga_null, List.getElem?_cons_zero, List.getElem?_cons_succ, List.length_cons, List.length_nil, List.set_cons_zero, List.set_cons_succ, Nat.reduceAdd, Nat.reduceLT, xr_lt, xr_eq, xr_toInt, xr_0, xi_add, xi_sub, xi_mul, xr_div, xr_rm, Int.toNat_natCast, bd_t, true_and, and_true, not_false_eq_true, ↓reduceIte, ilt_t, ilt_f, ile_t, x_c1i, x_c1r, x_c1n, and_self, Option.toList_some, Option.toList_none, List.cons_append, List.nil_append, xr_01, xr_00, ieq_f, ieq_t]
        exact i
      · rw [pv_r c4] at c3 i
        simp (disch := first | exact hR _ _ | exact x01a | exact x01b | (unfold x_r; omega) | assumption | omega) only [wK_descendsFrom_6n, wK_descendsFrom_6, wK_descendsFrom_9, wK_descendsFrom_10, wK_descendsFrom_11 (x_rv_r _) (x_rv_r _), wK_descendsFrom_16, wK_descendsFrom_17, wK_descendsFrom_20, wK_descendsFrom_20n, wK_descendsFrom_21, hc, c3, ne, x_gi_int, x_ga_ref, x_ga_null, List.getElem?_cons_zero, List.getElem?_cons_succ, List.length_cons, List.length_nil, List.set_cons_zero, List.set_cons_succ, Nat.reduceAdd, Nat.reduceLT, xr_lt, xr_eq, xr_toInt, xr_0, xi_add, xi_sub, xi_mul, xr_div, xr_rm, Int.toNat_natCast, bd_t, true_and, and_true, not_false_eq_true, ↓reduceIte, ilt_t, ilt_f, ile_t, x_c1i, x_c1r, x_c1n, and_self, Option.toList_some, Option.toList_none, List.cons_append, List.nil_append, xr_01, xr_00, ieq_f, ieq_t]
        exact i
theorem k_descendsFrom (h : Rel w A S ln) (hI : Inv S) {s : Int} {q : Nat} (s0 : 0 ≤ s) (s1 : s < 128) (s2 : 0 ≤ S 0 s.toNat) (hq : q < 128) (ql : 0 ≤ S 0 q) {l2 : Option Value} (hQ : Q (some (.int (xi (rv_doo S s q)))) w) : WP P 41 0 [some (.ref (A 8 (q : Int))), some (.ref (A 8 s)), l2] [] w Q := by
  obtain ⟨r, r1, r2⟩ := hI.1.2.2.1.1.rank
  obtain ⟨ct, -, -, -, c3, -⟩ := h.cap (p := (q : Int)) (by omega) (by omega) (by rw [Int.toNat_natCast]; exact ql)
  rw [Int.toNat_natCast] at c3
  have hc : x_has w (A 8 (q : Int)) [1] := ⟨_, _, ct, by decide⟩
  have hR := hI.1.1
  unfold rv_doo at hQ
  rw [show (if S 0 q < 0 then -1 else S 4 q) = S 4 q from if_neg (by omega)] at hQ
  have i := k_df_loop (P := P) h hR (q := (q : Int)) s0 s1 s2 r r2 (l0 := some (.ref (A 8 (q : Int)))) 128 (S 4 q) (by
    rcases r2 q hq with g | g
    · exact Or.inl g
    · exact Or.inr ⟨g.1, g.2.1, g.2.2.1, by have := r1 q; omega⟩) hQ
  by_cases c4 : S 4 q < 0
  · rw [pv_n c4] at c3 i
    simp (disch := first | exact hR _ _ | exact x01a | exact x01b | (unfold x_r; omega) | assumption | omega) only [wK_descendsFrom_0, wK_descendsFrom_1, wK_descendsFrom_4, wK_descendsFrom_4n, hc, c3, x_gi_int, x_ga_ref, x_ga_null, List.getElem?_cons_zero, List.getElem?_cons_succ, List.length_cons, List.length_nil, List.set_cons_zero, List.set_cons_succ, Nat.reduceAdd, Nat.reduceLT, xr_lt, xr_eq, xr_toInt, xr_0, xi_add, xi_sub, xi_mul, xr_div, xr_rm, Int.toNat_natCast, bd_t, true_and, and_true, not_false_eq_true, ↓reduceIte, ilt_t, ilt_f, ile_t, x_c1i, x_c1r, x_c1n, and_self, Option.toList_some, Option.toList_none, List.cons_append, List.nil_append, xr_01, xr_00, ieq_f, ieq_t]
    exact i
  · rw [pv_r c4] at c3 i
    simp (disch := first | exact hR _ _ | exact x01a | exact x01b | (unfold x_r; omega) | assumption | omega) only [wK_descendsFrom_0, wK_descendsFrom_1, wK_descendsFrom_4, wK_descendsFrom_4n, hc, c3, x_gi_int, x_ga_ref, x_ga_null, List.getElem?_cons_zero, List.getElem?_cons_succ, List.length_cons, List.length_nil, List.set_cons_zero, List.set_cons_succ, Nat.reduceAdd, Nat.reduceLT, xr_lt, xr_eq, xr_toInt, xr_0, xi_add, xi_sub, xi_mul, xr_div, xr_rm, Int.toNat_natCast, bd_t, true_and, and_true, not_false_eq_true, ↓reduceIte, ilt_t, ilt_f, ile_t, x_c1i, x_c1r, x_c1n, and_self, Option.toList_some, Option.toList_none, List.cons_append, List.nil_append, xr_01, xr_00, ieq_f, ieq_t]
    exact i
end KG
