theorem Hp.inj {w : xH} {A : xA} {U : Int → Int → Prop} {F : Int → Int → Nat → Option Value} (h : Hp w A U F) {k i k' i' : Int} (u : U k i) (u' : U k' i') (e : A k i = A k' i') : k = k' ∧ i = i' := h.2.1 k i k' i' u u' e
theorem cntL_cg (p p' : Nat → Prop) [DecidablePred p] [DecidablePred p'] : ∀ n, (∀ t, t < n → (p t ↔ p' t)) → cntL p n = cntL p' n := by
  intro n
  induction n with
  | zero => intro _; rfl
  | succ n ih =>
    intro h
    unfold cntL
    rw [ih (fun t ht => h t (by omega))]
    have := h n (by omega)
    by_cases c : p n
    · rw [if_pos c, if_pos (this.1 c)]
    · rw [if_neg c, if_neg (fun x => c (this.2 x))]
theorem cntL_1 {s : Nat} : ∀ n, cntL (fun q => q = s) n = if s < n then 1 else 0 := by
  intro n
  induction n with
  | zero => rfl
  | succ n ih =>
    unfold cntL
    rw [ih]
    by_cases c : n = s
    · rw [if_pos c, if_neg (by omega), if_pos (by omega)]; rfl
    · rw [if_neg c]
      by_cases d : s < n
      · rw [if_pos d, if_pos (by omega)]; rfl
      · rw [if_neg d, if_neg (by omega)]; rfl
/-- parents are live -/
theorem par_lv {S : xS} (hT : TrS S) {q : Nat} (hq : q < 128) (hn : ¬ S 4 q < 0) : 0 ≤ S 4 q ∧ S 4 q < 128 ∧ 0 ≤ S 0 (S 4 q).toNat := by
  obtain ⟨rho, hT⟩ := hT
  rcases hT q hq with g | g
  · omega
  · exact ⟨g.1, g.2.1, g.2.2.1⟩
/-- two capabilities are for one thing -/
theorem Hp.thq {w : xH} {A : xA} {S : xS} {ln : Nat → Int} (h : Rel w A S ln) (hA : CapA S) {p q : Int} (p0 : 0 ≤ p) (p1 : p < 128) (p2 : 0 ≤ S 0 p.toNat) (q0 : 0 ≤ q) (q1 : q < 128) (q2 : 0 ≤ S 0 q.toNat) : thA A S q = thA A S p ↔ (if S 0 p.toNat = 0 then q = p else S 0 q.toNat = S 0 p.toNat ∧ S 1 q.toNat = S 1 p.toNat) := by
  have kp := (hA p.toNat (by omega)).1
  have kq := (hA q.toNat (by omega)).1
  unfold thA
  by_cases c : S 0 p.toNat = 0
  · rw [if_pos c, if_pos c]
    by_cases d : S 0 q.toNat = 0
    · rw [if_pos d]
      exact ⟨fun e => (h.inj (us_unt q0 q1 d) (us_unt p0 p1 c) e).2, fun e => by rw [e]⟩
    · rw [if_neg d]
      refine ⟨fun e => ?_, fun e => by rw [e] at d; exact absurd c d⟩
      exact absurd (h.inj (us_thi (by omega) kq.2.1 ⟨q.toNat, by omega, rfl, rfl⟩) (us_unt p0 p1 c) e).1 d
  · rw [if_neg c, if_neg c]
    by_cases d : S 0 q.toNat = 0
    · rw [if_pos d]
      refine ⟨fun e => ?_, fun e => by omega⟩
      exact absurd (h.inj (us_unt q0 q1 d) (us_thi (by omega) kp.2.1 ⟨p.toNat, by omega, rfl, rfl⟩) e).1.symm c
    · rw [if_neg d]
      exact ⟨fun e => h.inj (us_thi (by omega) kq.2.1 ⟨q.toNat, by omega, rfl, rfl⟩) (us_thi (by omega) kp.2.1 ⟨p.toNat, by omega, rfl, rfl⟩) e, fun e => by rw [e.1, e.2]⟩
section KF
variable {P : xP} {w : xH} {Q : Option Value → xH → Prop} {A : xA} {S : xS} {ln : Nat → Int}
theorem k_children (h : Rel w A S ln) (hI : Inv S) {s : Int} (s0 : 0 ≤ s) (s1 : s < 128) (s2 : 0 ≤ S 0 s.toNat) (hQ : Q (some (.int (xi (s_children S s)))) w) {l2 l3 l4 : Option Value} : WP P 17 0 [some (.ref (A 12 0)), some (.ref (A 8 s)), l2, l3, l4] [] w Q := by
  refine k_childrenOf h (fun q => S 4 q = s) (fun q hq ql => ?_) hQ
  by_cases c : S 4 q < 0
  · rw [pv_n c]
    exact ⟨fun e => Value.noConfusion e, fun e => by omega⟩
  · rw [pv_r c]
    have g := par_lv hI.1.2.2.1.1 hq c
    exact ⟨fun e => (h.inj (us_cap g.1 g.2.1 g.2.2) (us_cap s0 s1 s2) (Value.ref.inj e)).2, fun e => by rw [e]⟩
theorem k_holders (h : Rel w A S ln) (hA : CapA S) {s : Int} (s0 : 0 ≤ s) (s1 : s < 128) (s2 : 0 ≤ S 0 s.toNat) (hQ : Q (some (.int (xi (s_holders S (S 0 s.toNat) (S 1 s.toNat))))) w) {l2 l3 l4 : Option Value} : WP P 31 0 [some (.ref (A 12 0)), some (.ref (thA A S s)), l2, l3, l4] [] w Q := by
  refine k_capabilitiesFor h (fun q => if S 0 s.toNat = 0 then (q : Int) = s else S 0 q = S 0 s.toNat ∧ S 1 q = S 1 s.toNat) (fun q hq ql => ?_) ?_
  · have g := h.thq hA (q := (q : Int)) s0 s1 s2 (by omega) (by omega) (by rw [Int.toNat_natCast]; exact ql)
    rw [Int.toNat_natCast] at g
    rw [← g]
    exact ⟨fun e => Value.ref.inj e, fun e => by rw [e]⟩
  · have e : cntL (fun q => 0 ≤ S 0 q ∧ if S 0 s.toNat = 0 then (q : Int) = s else S 0 q = S 0 s.toNat ∧ S 1 q = S 1 s.toNat) 128 = s_holders S (S 0 s.toNat) (S 1 s.toNat) := by
      unfold s_holders
      by_cases c : S 0 s.toNat = 0
      · rw [if_pos c]
        rw [cntL_cg _ (fun q => q = s.toNat) 128 (fun q hq => ?_), cntL_1, if_pos (by omega)]
        rw [if_pos c]
        constructor
        · intro e; omega
        · intro e; rw [e]; exact ⟨s2, by omega⟩
      · rw [if_neg c]
        unfold s_hold
        refine cntL_cg _ _ 128 (fun q hq => ?_)
        rw [if_neg c]
        exact ⟨fun e => e.2, fun e => ⟨by omega, e⟩⟩
    rw [e]
    exact hQ
theorem k_freePoint (h : Rel w A S ln) (hI : Inv S) {s : Int} (s0 : 0 ≤ s) (s1 : s < 128) (s2 : S 0 s.toNat = 0) (hQ : Q (some (.int (xi (s_freePoint S s)))) w) : WP P 16 0 [some (.ref (A 12 0)), some (.ref (A 8 s)), some (.ref (A 0 s))] [] w Q := by
  obtain ⟨⟨t0, t1, t2, t3, t4⟩, f0, f1, f2, f3⟩ := h.ker
  obtain ⟨n0, n1, n2, n3, n4⟩ := h.unt s0 s1 s2
  have hn : x_has w (A 0 s) [4] := ⟨_, _, n0, by decide⟩
  have hR := hI.1.1
  have cb := cntL_in (fun k => 0 ≤ S 0 k ∧ S 4 k = s) 128
  have cb : 0 ≤ s_children S s ∧ s_children S s ≤ 128 := cb
  simp (disch := first | exact hR _ _ | exact x01a | exact x01b | (unfold x_r; omega) | assumption | omega) only [wK_freePoint_0, wK_freePoint_1, x_gi_int, x_ga_ref, x_ga_null, List.getElem?_cons_zero, List.getElem?_cons_succ, List.length_cons, List.length_nil, List.set_cons_zero, List.set_cons_succ, Nat.reduceAdd, Nat.reduceLT, xr_lt, xr_eq, xr_toInt, xr_0, xi_add, xi_sub, xi_mul, xr_div, xr_rm, Int.toNat_natCast, bd_t, true_and, and_true, not_false_eq_true, ↓reduceIte, ilt_t, ilt_f, ile_t, x_c1i, x_c1r, x_c1n, and_self, Option.toList_some, Option.toList_none, List.cons_append, List.nil_append, xr_01, xr_00, ieq_f, ieq_t]
  refine wK_freePoint_2 t0 (by simp) rfl rfl (k_children h hI s0 s1 (by omega) ?_)
  unfold s_freePoint at hQ
  by_cases c : s_children S s = 0
  · rw [if_pos c] at hQ
    simp (disch := first | exact hR _ _ | exact x01a | exact x01b | (unfold x_r; omega) | assumption | omega) only [wK_freePoint_5, wK_freePoint_8, wK_freePoint_9, wK_freePoint_12, wK_freePoint_19, hn, n2, c, x_gi_int, x_ga_ref, x_ga_null, List.getElem?_cons_zero, List.getElem?_cons_succ, List.length_cons, List.length_nil, List.set_cons_zero, List.set_cons_succ, Nat.reduceAdd, Nat.reduceLT, xr_lt, xr_eq, xr_toInt, xr_0, xi_add, xi_sub, xi_mul, xr_div, xr_rm, Int.toNat_natCast, bd_t, true_and, and_true, not_false_eq_true, ↓reduceIte, ilt_t, ilt_f, ile_t, x_c1i, x_c1r, x_c1n, and_self, Option.toList_some, Option.toList_none, List.cons_append, List.nil_append, xr_01, xr_00, ieq_f, ieq_t]
    exact hQ
  · rw [if_neg c] at hQ
    have n4 := n4 c
    simp (disch := first | exact hR _ _ | exact x01a | exact x01b | (unfold x_r; omega) | assumption | omega) only [wK_freePoint_5, wK_freePoint_15, wK_freePoint_16, wK_freePoint_19, hn, n4, c, x_gi_int, x_ga_ref, x_ga_null, List.getElem?_cons_zero, List.getElem?_cons_succ, List.length_cons, List.length_nil, List.set_cons_zero, List.set_cons_succ, Nat.reduceAdd, Nat.reduceLT, xr_lt, xr_eq, xr_toInt, xr_0, xi_add, xi_sub, xi_mul, xr_div, xr_rm, Int.toNat_natCast, bd_t, true_and, and_true, not_false_eq_true, ↓reduceIte, ilt_t, ilt_f, ile_t, x_c1i, x_c1r, x_c1n, and_self, Option.toList_some, Option.toList_none, List.cons_append, List.nil_append, xr_01, xr_00, ieq_f, ieq_t]
    exact hQ
theorem k_roundUp {u z : Int} (h0 : 0 ≤ u) (h1 : u ≤ 1000) (z0 : 2 ≤ z) (z1 : z ≤ 64) (hQ : Q (some (.int (xi (s_up u z)))) w) : WP P 18 0 [some (.int (xi u)), some (.int (xi z))] [] w Q := by
  have hR : RgS s_zero := RgS.zero
  have g := s_up_in h0 z0
  unfold s_up at g hQ
  have zn : ¬ z = 0 := by omega
  simp (disch := first | exact hR _ _ | exact x01a | exact x01b | (unfold x_r; omega) | assumption | omega) only [wK_roundUp_0, wK_roundUp_1, wK_roundUp_2, wK_roundUp_3, wK_roundUp_4, wK_roundUp_5, wK_roundUp_6, wK_roundUp_7, wK_roundUp_8, wK_roundUp_9, zn, x_gi_int, x_ga_ref, x_ga_null, List.getElem?_cons_zero, List.getElem?_cons_succ, List.length_cons, List.length_nil, List.set_cons_zero, List.set_cons_succ, Nat.reduceAdd, Nat.reduceLT, xr_lt, xr_eq, xr_toInt, xr_0, xi_add, xi_sub, xi_mul, xr_div, xr_rm, Int.toNat_natCast, bd_t, true_and, and_true, not_false_eq_true, ↓reduceIte, ilt_t, ilt_f, ile_t, x_c1i, x_c1r, x_c1n, and_self, Option.toList_some, Option.toList_none, List.cons_append, List.nil_append, xr_01, xr_00, ieq_f, ieq_t]
  exact hQ
theorem k_firstWaiting (h : Rel w A S ln) {l st : Int} (hu : us S 9 l) (hf : 0 ≤ fstL S ln l → us S 2 (8 * fstL S ln l)) (hR : RgS S) (hs : x_r st) {l2 : Option Value} (hQ : Q (some (pv (if fstL S ln l < 0 then -1 else if S 10 (fstL S ln l).toNat = st then fstL S ln l else -1) (A 2 (8 * fstL S ln l)))) w) : WP P 49 0 [some (.ref (A 9 l)), some (.int (xi st)), l2] [] w Q := by
  obtain ⟨l0, l1, l3⟩ := h.lin hu
  have hl : x_has w (A 9 l) [3] := ⟨_, _, l0, by decide⟩
  unfold x_r at hs
  by_cases c : fstL S ln l < 0
  · rw [if_pos c, pv_n (by omega)] at hQ
    rw [pv_n c] at l1
    simp (disch := first | exact hR _ _ | exact x01a | exact x01b | (unfold x_r; omega) | assumption | omega) only [wK_firstWaiting_0, wK_firstWaiting_1, wK_firstWaiting_4, wK_firstWaiting_4n, wK_firstWaiting_5, wK_firstWaiting_6n, wK_firstWaiting_6, wK_firstWaiting_21, wK_firstWaiting_22n, wK_firstWaiting_22, hl, l1, x_gi_int, x_ga_ref, x_ga_null, List.getElem?_cons_zero, List.getElem?_cons_succ, List.length_cons, List.length_nil, List.set_cons_zero, List.set_cons_succ, Nat.reduceAdd, Nat.reduceLT, xr_lt, xr_eq, xr_toInt, xr_0, xi_add, xi_sub, xi_mul, xr_div, xr_rm, Int.toNat_natCast, bd_t, true_and, and_true, not_false_eq_true, ↓reduceIte, ilt_t, ilt_f, ile_t, x_c1i, x_c1r, x_c1n, and_self, Option.toList_some, Option.toList_none, List.cons_append, List.nil_append, xr_01, xr_00, ieq_f, ieq_t]
    exact hQ
  rw [if_neg c] at hQ
  rw [pv_r c] at l1
  obtain ⟨u0, u1, u2, u3, u4, u5, u6, -⟩ := h.thr (hf (by omega))
  have ht : x_has w (A 2 (8 * fstL S ln l)) [2] := ⟨_, _, u0, by decide⟩
  by_cases c2 : S 10 (fstL S ln l).toNat = st
  · rw [if_pos c2, pv_r c] at hQ
    simp (disch := first | exact hR _ _ | exact x01a | exact x01b | (unfold x_r; omega) | assumption | omega) only [wK_firstWaiting_0, wK_firstWaiting_1, wK_firstWaiting_4, wK_firstWaiting_4n, wK_firstWaiting_5, wK_firstWaiting_6n, wK_firstWaiting_6, wK_firstWaiting_9, wK_firstWaiting_10, wK_firstWaiting_13, wK_firstWaiting_14, wK_firstWaiting_17, wK_firstWaiting_18, wK_firstWaiting_22n, wK_firstWaiting_22, hl, l1, ht, u6, c2, x_gi_int, x_ga_ref, x_ga_null, List.getElem?_cons_zero, List.getElem?_cons_succ, List.length_cons, List.length_nil, List.set_cons_zero, List.set_cons_succ, Nat.reduceAdd, Nat.reduceLT, xr_lt, xr_eq, xr_toInt, xr_0, xi_add, xi_sub, xi_mul, xr_div, xr_rm, Int.toNat_natCast, bd_t, true_and, and_true, not_false_eq_true, ↓reduceIte, ilt_t, ilt_f, ile_t, x_c1i, x_c1r, x_c1n, and_self, Option.toList_some, Option.toList_none, List.cons_append, List.nil_append, xr_01, xr_00, ieq_f, ieq_t]
    exact hQ
  · rw [if_neg c2, pv_n (by omega)] at hQ
    simp (disch := first | exact hR _ _ | exact x01a | exact x01b | (unfold x_r; omega) | assumption | omega) only [wK_firstWaiting_0, wK_firstWaiting_1, wK_firstWaiting_4, wK_firstWaiting_4n, wK_firstWaiting_5, wK_firstWaiting_6n, wK_firstWaiting_6, wK_firstWaiting_9, wK_firstWaiting_10, wK_firstWaiting_13, wK_firstWaiting_14, wK_firstWaiting_21, wK_firstWaiting_22n, wK_firstWaiting_22, hl, l1, ht, u6, c2, x_gi_int, x_ga_ref, x_ga_null, List.getElem?_cons_zero, List.getElem?_cons_succ, List.length_cons, List.length_nil, List.set_cons_zero, List.set_cons_succ, Nat.reduceAdd, Nat.reduceLT, xr_lt, xr_eq, xr_toInt, xr_0, xi_add, xi_sub, xi_mul, xr_div, xr_rm, Int.toNat_natCast, bd_t, true_and, and_true, not_false_eq_true, ↓reduceIte, ilt_t, ilt_f, ile_t, x_c1i, x_c1r, x_c1n, and_self, Option.toList_some, Option.toList_none, List.cons_append, List.nil_append, xr_01, xr_00, ieq_f, ieq_t]
    exact hQ
theorem k_isMapped (h : Rel w A S ln) (hI : Inv S) {p : Int} (p0 : 0 ≤ p) (p1 : p < 128) (p2 : 0 ≤ S 0 p.toNat) {l1 l2 : Option Value} (hQ : Q (some (.int (xi (s_mapped S p)))) w) : WP P 63 0 [some (.ref (A 8 p)), l1, l2] [] w Q := by
  have hA := hI.1.2.1
  have hR := hI.1.1
  obtain ⟨ct, c0, c1, c2, c3, c4, c5, c6, c7⟩ := h.cap p0 p1 p2
  obtain ⟨n, g0, g1, g2, g3⟩ := h.thg hA p0 p1 p2
  have hc : x_has w (A 8 p) [1] := ⟨_, _, ct, by decide⟩
  have k7 := (hA p.toNat (by omega)).1
  have ti := (tgK_is p2 k7.2.1).2.2.2.2.2.2
  unfold s_mapped at hQ
  by_cases c : S 0 p.toNat = 6
  · rw [if_pos c] at hQ
    have tt := ti.2 c
    rw [tt] at g0 g1
    rw [thA_k c (by omega)] at c0 g0
    have hh : hd S 6 (S 1 p.toNat) := ⟨p.toNat, by omega, c, rfl⟩
    obtain ⟨b0, b1, b2, b3, b4, b5⟩ := h.lea (us_thi (by omega) (by omega) hh)
    have hb : x_has w (A 6 (S 1 p.toNat)) [9] := ⟨_, _, b0, by decide⟩
    have m := hI.1.2.2.2.2.2.2.2.2.2.1.1 (S 1 p.toNat / 4).toNat (by omega)
    have al := ((hA p.toNat (by omega)).2 p2).1
    have es : szS S p.toNat = 4 := by unfold szS s_size; rw [c]; rfl
    rw [es] at al
    rw [show 4 * (((S 1 p.toNat / 4).toNat : Nat) : Int) = S 1 p.toNat by omega] at m
    have m := m hh
    have m2 : S 25 (S 1 p.toNat / 4).toNat = -1 ∨ 0 ≤ S 25 (S 1 p.toNat / 4).toNat := m.imp id (fun x => (hA.hd x.1).1)
    by_cases d : S 25 (S 1 p.toNat / 4).toNat = -1
    · rw [if_pos d] at hQ
      rw [pv_n (by omega)] at b3
      simp (disch := first | exact hR _ _ | exact x01a | exact x01b | (unfold x_r; omega) | assumption | omega) only [wK_isMapped_0, wK_isMapped_1, wK_isMapped_4, wK_isMapped_4n, wK_isMapped_5, wK_isMapped_6 g0 g1, wK_isMapped_9, wK_isMapped_12, wK_isMapped_13 g0, wK_isMapped_16, wK_isMapped_16n, wK_isMapped_17, wK_isMapped_18, wK_isMapped_21n, wK_isMapped_21, wK_isMapped_24, wK_isMapped_25, wK_isMapped_28, wK_isMapped_29, wK_isMapped_44, hc, hb, c0, b3, true_or, or_true, x_gi_int, x_ga_ref, x_ga_null, List.getElem?_cons_zero, List.getElem?_cons_succ, List.length_cons, List.length_nil, List.set_cons_zero, List.set_cons_succ, Nat.reduceAdd, Nat.reduceLT, xr_lt, xr_eq, xr_toInt, xr_0, xi_add, xi_sub, xi_mul, xr_div, xr_rm, Int.toNat_natCast, bd_t, true_and, and_true, not_false_eq_true, ↓reduceIte, ilt_t, ilt_f, ile_t, x_c1i, x_c1r, x_c1n, and_self, Option.toList_some, Option.toList_none, List.cons_append, List.nil_append, xr_01, xr_00, ieq_f, ieq_t]
      exact hQ
    · rw [if_neg d] at hQ
      rw [pv_r (by omega)] at b3
      simp (disch := first | exact hR _ _ | exact x01a | exact x01b | (unfold x_r; omega) | assumption | omega) only [wK_isMapped_0, wK_isMapped_1, wK_isMapped_4, wK_isMapped_4n, wK_isMapped_5, wK_isMapped_6 g0 g1, wK_isMapped_9, wK_isMapped_12, wK_isMapped_13 g0, wK_isMapped_16, wK_isMapped_16n, wK_isMapped_17, wK_isMapped_18, wK_isMapped_21n, wK_isMapped_21, wK_isMapped_24, wK_isMapped_25, wK_isMapped_44, hc, hb, c0, b3, true_or, or_true, x_gi_int, x_ga_ref, x_ga_null, List.getElem?_cons_zero, List.getElem?_cons_succ, List.length_cons, List.length_nil, List.set_cons_zero, List.set_cons_succ, Nat.reduceAdd, Nat.reduceLT, xr_lt, xr_eq, xr_toInt, xr_0, xi_add, xi_sub, xi_mul, xr_div, xr_rm, Int.toNat_natCast, bd_t, true_and, and_true, not_false_eq_true, ↓reduceIte, ilt_t, ilt_f, ile_t, x_c1i, x_c1r, x_c1n, and_self, Option.toList_some, Option.toList_none, List.cons_append, List.nil_append, xr_01, xr_00, ieq_f, ieq_t]
      exact hQ
  · rw [if_neg c] at hQ
    have tt : ¬ (tgK (S 0 p.toNat) 0).1 = 9 := fun x => c (ti.1 x)
    have m := hI.1.2.2.2.2.2.2.2.2.2.2.1.1 p.toNat (by omega) p2
    have m2 : S 7 p.toNat = -1 ∨ (S 0 p.toNat = 7 ∧ 0 ≤ S 7 p.toNat) := m.imp id (fun x => ⟨x.1, (hA.hd x.2.1).1⟩)
    by_cases d : S 7 p.toNat = -1
    · have hQ : Q (some (.int (xi 0))) w := by
        split at hQ
        · exact hQ
        · exact hQ
      rw [pv_n (by omega)] at c5
      simp (disch := first | exact hR _ _ | exact x01a | exact x01b | (unfold x_r; omega) | assumption | omega) only [wK_isMapped_0, wK_isMapped_1, wK_isMapped_4, wK_isMapped_4n, wK_isMapped_5, wK_isMapped_6 g0 g1, wK_isMapped_9, wK_isMapped_32, wK_isMapped_33, wK_isMapped_36n, wK_isMapped_36, wK_isMapped_43, wK_isMapped_44, hc, c0, c5, tt, true_or, or_true, x_gi_int, x_ga_ref, x_ga_null, List.getElem?_cons_zero, List.getElem?_cons_succ, List.length_cons, List.length_nil, List.set_cons_zero, List.set_cons_succ, Nat.reduceAdd, Nat.reduceLT, xr_lt, xr_eq, xr_toInt, xr_0, xi_add, xi_sub, xi_mul, xr_div, xr_rm, Int.toNat_natCast, bd_t, true_and, and_true, not_false_eq_true, ↓reduceIte, ilt_t, ilt_f, ile_t, x_c1i, x_c1r, x_c1n, and_self, Option.toList_some, Option.toList_none, List.cons_append, List.nil_append, xr_01, xr_00, ieq_f, ieq_t]
      exact hQ
    · rw [if_pos (by omega), if_neg d] at hQ
      rw [pv_r (by omega)] at c5
      simp (disch := first | exact hR _ _ | exact x01a | exact x01b | (unfold x_r; omega) | assumption | omega) only [wK_isMapped_0, wK_isMapped_1, wK_isMapped_4, wK_isMapped_4n, wK_isMapped_5, wK_isMapped_6 g0 g1, wK_isMapped_9, wK_isMapped_32, wK_isMapped_33, wK_isMapped_36n, wK_isMapped_36, wK_isMapped_39, wK_isMapped_40, wK_isMapped_44, hc, c0, c5, tt, true_or, or_true, x_gi_int, x_ga_ref, x_ga_null, List.getElem?_cons_zero, List.getElem?_cons_succ, List.length_cons, List.length_nil, List.set_cons_zero, List.set_cons_succ, Nat.reduceAdd, Nat.reduceLT, xr_lt, xr_eq, xr_toInt, xr_0, xi_add, xi_sub, xi_mul, xr_div, xr_rm, Int.toNat_natCast, bd_t, true_and, and_true, not_false_eq_true, ↓reduceIte, ilt_t, ilt_f, ile_t, x_c1i, x_c1r, x_c1n, and_self, Option.toList_some, Option.toList_none, List.cons_append, List.nil_append, xr_01, xr_00, ieq_f, ieq_t]
      exact hQ
end KF
