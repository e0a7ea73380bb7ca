section TC
variable {P : xP} {w : xH} {A A2 : xA} {S T : xS}
set_option maxHeartbeats 16000000 in
theorem retype_rel (h : Rel w A S (lid S)) (hI : Inv S) {d f t0 a0 a1 : Nat} {k u z : Int} (hk : 0 ≤ k ∧ k ≤ 7) (u0 : 0 ≤ u) (u1 : u < 128) (hd8 : d < 128) (hdead : S 0 d < 0) (hf : f < 128) (hfl : S 0 f = 0)
    (e : ∀ j, (j = 9 ∨ (18 ≤ j ∧ j < 24) ∨ (26 ≤ j ∧ j < 29)) → T j = S j) (o : ∀ j i, j < 9 → i ≠ d → ¬ (j = 6 ∧ i = f) → T j i = S j i) (d0 : T 0 d = k) (d1 : T 1 d = u) (d2 : T 2 d = 7) (d3 : T 3 d = 0) (d4 : T 4 d = (f : Int)) (d5 : k = 0 → s_size 0 (T 5 d) = z) (d7 : T 7 d = -1) (f6 : T 6 f = u + z)
    (o10 : ∀ j i, 10 ≤ j → j < 18 → ¬ (k = 2 ∧ i = t0) → T j i = S j i) (n2 : k = 2 → t0 < 16 ∧ u = 8 * (t0 : Int) ∧ T 10 t0 = 1 ∧ T 11 t0 = -1 ∧ T 12 t0 = -1 ∧ T 13 t0 = 0 ∧ T 14 t0 = 0 ∧ T 15 t0 = 0 ∧ T 16 t0 = 0 ∧ T 17 t0 = 0)
    (o24 : ∀ i : Nat, ¬ (k = 4 ∧ (i : Int) = u / 2) → T 24 i = S 24 i) (n4 : k = 4 → T 24 (u / 2).toNat = 0) (al4 : k = 4 → u % 2 = 0) (al6 : k = 6 → u % 4 = 0) (o25 : ∀ i : Nat, ¬ (k = 6 ∧ (i : Int) = u / 4) → T 25 i = S 25 i) (n6 : k = 6 → T 25 (u / 4).toNat = -1) (fr : ∀ k', 1 ≤ k' → ¬ hd S k' u)
    {w' : xH} {U2 : Int → Int → Prop} {F6 : Int → Int → Nat → Option Value} (H : Hp w' A2 U2 F6) (hU : ∀ k' i', us S k' i' ∨ (k' = 8 ∧ i' = (d : Int)) ∨ (k' = k ∧ i' = tK k u d) ∨ (0 ≤ eK k ∧ k' = eK k ∧ i' = eI k u) → U2 k' i') (aO : ∀ k' i', ¬ ((k' = 8 ∧ i' = (d : Int)) ∨ (k' = k ∧ i' = tK k u d) ∨ (0 ≤ eK k ∧ k' = eK k ∧ i' = eI k u)) → A2 k' i' = A k' i') (aD : A2 8 (d : Int) = a0) (aT : A2 k (tK k u d) = a1) (aE : 0 ≤ eK k → A2 (eK k) (eI k u) = a1 + 1)
    (fO : ∀ k' i' g, us S k' i' → F6 k' i' g = if k' = 12 ∧ i' = 1 ∧ g = d then some (.ref a0) else if k = 2 ∧ k' = 12 ∧ i' = 2 ∧ g = (u / 8).toNat then some (.ref a1) else if k' = 0 ∧ i' = (f : Int) ∧ g = 3 then some (.int (xi (u + z))) else xFv A S (lid S) k' i' g) (fD : ∀ g, F6 8 (d : Int) g = capF a1 d 7 0 (f : Int) (A 8 (f : Int)) g) (fT : ∀ g, F6 k (tK k u d) g = thV k u z a1 g) (fE : 0 ≤ eK k → ∀ g, F6 (eK k) (eI k u) g = if eK k = 9 then some (x_df 3 g) else some .null) : Rel w' A2 T (lid T) := by
  have hA := hI.1.2.1
  have hTr := hI.1.2.2.1.1
  have tA := hI.1.2.2.2.2.2.1
  have tB := hI.1.2.2.2.2.2.2.1
  have mA := hI.1.2.2.2.2.2.2.2.2.2.1
  have mB := hI.1.2.2.2.2.2.2.2.2.2.2.1
  have bI := hI.1.2.2.2.2.2.2.2.2.2.2.2
  have hln := hI.lnI
  have hfd : f ≠ d := by intro c; rw [c] at hfl; omega
  have hdn : ¬ us S 8 (d : Int) := by
    intro x; unfold us at x; rw [Int.toNat_natCast] at x; omega
  -- what is there
  have mono : ∀ {k' u'}, 1 ≤ k' → hd S k' u' → hd T k' u' := by
    rintro k' u' hk' ⟨p, p1, p2, p3⟩
    have c : p ≠ d := by intro c; rw [c] at p2; omega
    exact ⟨p, p1, by rw [o 0 p (by omega) c (by omega)]; exact p2, by rw [o 1 p (by omega) c (by omega)]; exact p3⟩
  have back : ∀ {k' u'}, 1 ≤ k' → hd T k' u' → hd S k' u' ∨ (k' = k ∧ u' = u) := by
    rintro k' u' hk' ⟨p, p1, p2, p3⟩
    by_cases c : p = d
    · rw [c] at p2 p3
      exact Or.inr ⟨by omega, by omega⟩
    · exact Or.inl ⟨p, p1, by rw [← o 0 p (by omega) c (by omega)]; exact p2, by rw [← o 1 p (by omega) c (by omega)]; exact p3⟩
  -- lines are as they were
  have t0n : k = 2 → S 10 t0 = 0 := by
    intro c
    have x := n2 c
    by_cases y : S 10 t0 = 0
    · exact y
    · exact absurd ((tA t0 x.1).2.1.1 y) (by rw [← x.2.1]; exact fr 2 (by omega))
  have e10 : ∀ i, i < 16 → (lid T i = lid S i) := by
    intro i hi
    unfold lid
    by_cases c : k = 2 ∧ i = t0
    · rw [c.2, (n2 c.1).2.2.1, t0n c.1]; rfl
    · rw [o10 10 i (by omega) (by omega) c, o10 13 i (by omega) (by omega) c, e 19 (by omega)]
  have fstT : ∀ l, fstL T (lid T) l = fstL S (lid S) l := fun l => by
    unfold fstL
    rw [e 18 (by omega)]
    exact mnL_cg (fun t ht => by rw [e10 t ht]) (fun _ _ _ => rfl)
  have lstT : ∀ l, lstL T (lid T) l = lstL S (lid S) l := fun l => by
    unfold lstL
    rw [e 18 (by omega)]
    exact mnL_cg (fun t ht => by rw [e10 t ht]) (fun _ _ _ => rfl)
  have nxtT : ∀ t, t < 16 → nxtL T (lid T) t = nxtL S (lid S) t := fun t ht => by
    unfold nxtL
    rw [e 18 (by omega), e10 t ht]
    exact mnL_cg (fun k hk => by rw [e10 k hk]) (fun _ _ _ => rfl)
  -- addresses of what is in use
  have notnew : ∀ k' i', us S k' i' → ¬ ((k' = 8 ∧ i' = (d : Int)) ∨ (k' = k ∧ i' = tK k u d) ∨ (0 ≤ eK k ∧ k' = eK k ∧ i' = eI k u)) := by
    intro k' i' x y
    rcases y with y | y | y
    · rw [y.1, y.2] at x; exact hdn x
    · rw [y.1, y.2] at x
      unfold tK at x
      by_cases c : k = 0
      · rw [if_pos c, c] at x
        unfold us at x; rw [Int.toNat_natCast] at x; omega
      · rw [if_neg c] at x
        unfold us at x
        rcases x with z | z | z | z | z | z | z
        · omega
        · exact fr k (by omega) z.2.2
        all_goals omega
    · rw [y.2.1, y.2.2] at x
      unfold eK at x y
      unfold eI at x
      by_cases c3 : k = 3 ∨ k = 4
      · rw [if_pos c3, if_pos c3] at x
        unfold us at x
        rcases x with z | z | z | z | z | z | z
        · omega
        · omega
        · omega
        · rcases z.2 with q | q | q
          · omega
          · rw [show u + 4 - 4 = u by omega] at q; exact fr 3 (by omega) q
          · rw [show u + 4 - 4 = u by omega] at q; exact fr 4 (by omega) q
        all_goals omega
      rw [if_neg c3, if_neg c3] at x
      by_cases c5 : k = 5
      · rw [if_pos c5] at x
        unfold us at x
        rcases x with z | z | z | z | z | z | z
        all_goals first | exact fr 5 (by omega) z.2 | omega
      rw [if_neg c5] at x
      by_cases c6 : k = 6
      · rw [if_pos c6] at x
        unfold us at x
        rcases x with z | z | z | z | z | z | z
        all_goals first | exact fr 6 (by omega) z.2 | omega
      · rw [if_neg c3, if_neg c5, if_neg c6] at y; omega
  have aU : ∀ k' i', us S k' i' → A2 k' i' = A k' i' := fun k' i' x => aO k' i' (notnew k' i' x)
  have aK : ∀ i', A2 12 i' = A 12 i' := fun i' => aO 12 i' (by unfold eK; omega)
  have usT : ∀ k' i', us T k' i' → us S k' i' ∨ (k' = 8 ∧ i' = (d : Int)) ∨ (k' = k ∧ i' = tK k u d) ∨ (0 ≤ eK k ∧ k' = eK k ∧ i' = eI k u) := by
    intro k' i' x
    unfold us at x
    rcases x with x | x | x | x | x | x | x
    · by_cases c : i'.toNat = d
      · rw [c, d0] at x
        exact Or.inr (Or.inr (Or.inl ⟨by omega, by unfold tK; rw [if_pos x.2.2.2]; omega⟩))
      · rw [o 0 _ (by omega) c (by omega)] at x
        exact Or.inl (Or.inl x)
    · rcases back x.1 x.2.2 with y | y
      · exact Or.inl (us_thi x.1 x.2.1 y)
      · exact Or.inr (Or.inr (Or.inl ⟨y.1, by unfold tK; rw [if_neg (by omega)]; exact y.2⟩))
    · by_cases c : i'.toNat = d
      · exact Or.inr (Or.inl ⟨x.1, by omega⟩)
      · rw [o 0 _ (by omega) c (by omega)] at x
        exact Or.inl (Or.inr (Or.inr (Or.inl x)))
    · rcases x.2 with y | y | y
      · rw [x.1]; exact Or.inl (us_lin (Or.inl y))
      · rcases back (by omega) y with q | q
        · rw [x.1]; exact Or.inl (us_lin (Or.inr (Or.inl q)))
        · have kq := q.1
          subst kq
          exact Or.inr (Or.inr (Or.inr ⟨by decide, x.1, by show i' = u + 4; omega⟩))
      · rcases back (by omega) y with q | q
        · rw [x.1]; exact Or.inl (us_lin (Or.inr (Or.inr q)))
        · have kq := q.1
          subst kq
          exact Or.inr (Or.inr (Or.inr ⟨by decide, x.1, by show i' = u + 4; omega⟩))
    · rcases back (by omega) x.2 with q | q
      · rw [x.1]; exact Or.inl (us_lvs q)
      · have kq := q.1
        subst kq
        exact Or.inr (Or.inr (Or.inr ⟨by decide, x.1, q.2⟩))
    · rcases back (by omega) x.2 with q | q
      · rw [x.1]; exact Or.inl (us_frs q)
      · have kq := q.1
        subst kq
        exact Or.inr (Or.inr (Or.inr ⟨by decide, x.1, q.2⟩))
    · rw [x.1]; exact Or.inl (us_ker x.2)
  have pA : ∀ (x : Int) (k' i' : Int), (¬ x < 0 → us S k' i') → pv x (A2 k' i') = pv x (A k' i') := by
    intro x k' i' hx
    by_cases c : x < 0
    · rw [pv_n c, pv_n c]
    · rw [aU k' i' (hx c)]
  have fbd : A2 8 (f : Int) = A 8 (f : Int) := aU 8 _ (us_cap (by omega) (by omega) (by rw [Int.toNat_natCast]; omega))
  have frT : ∀ l e', 0 ≤ l → s_frameOf T l e' = s_frameOf S l e' := by
    intro l e' l0
    unfold s_frameOf
    refine frL_cg2 (fun q hq => ?_) 128 0 (by omega)
    by_cases cq : q = d
    · rw [cq, d7]
      constructor <;> intro x <;> omega
    · rw [o 0 q (by omega) cq (by omega), o 7 q (by omega) cq (by omega), o 8 q (by omega) cq (by omega)]
  have lfT : ∀ v e', 0 ≤ v → s_leafOf T v e' = s_leafOf S v e' := by
    intro v e' v0
    have sub : ∀ i : Nat, i < 32 → hd T 6 (4 * (i : Int)) → T 25 i = v → T 26 i = e' → hd S 6 (4 * (i : Int)) ∧ S 25 i = v ∧ S 26 i = e' := by
      intro i hi g1 g2 g3
      have nk : ¬ (k = 6 ∧ (i : Int) = u / 4) := by
        intro x
        have := n6 x.1
        rw [show (u / 4).toNat = i by omega] at this
        omega
      rw [o25 i nk] at g2
      rw [e 26 (by omega)] at g3
      refine ⟨(back (by omega) g1).resolve_right (fun x => nk ⟨x.1.symm, by omega⟩), g2, g3⟩
    have sup : ∀ i : Nat, i < 32 → hd S 6 (4 * (i : Int)) → S 25 i = v → S 26 i = e' → hd T 6 (4 * (i : Int)) ∧ T 25 i = v ∧ T 26 i = e' := by
      intro i hi g1 g2 g3
      have nk : ¬ (k = 6 ∧ (i : Int) = u / 4) := by
        intro x
        have a6 := al6 x.1
        exact fr 6 (by omega) (by rw [show u = 4 * (i : Int) by omega]; exact g1)
      rw [o25 i nk, e 26 (by omega)]
      exact ⟨mono (by omega) g1, g2, g3⟩
    by_cases c : 0 ≤ s_leafOf T v e'
    · obtain ⟨i, i1, i2, i3, i4, i5⟩ := leafOf_is c
      obtain ⟨g1, g2, g3⟩ := sub i i1 i3 i4 i5
      rw [i2, leafOf_eq mA i1 g1 g2 g3 (by omega)]
    · have b := s_leafOf_in T v e'
      rw [show s_leafOf T v e' = -1 by omega]
      symm
      refine leafOf_no (fun i i1 i2 i3 i4 => ?_)
      obtain ⟨g1, g2, g3⟩ := sup i i1 i2 i3 i4
      exact absurd ⟨(s_there_hd (by omega)).2 ⟨by omega, by omega, g1⟩, g2, g3⟩ (lfL_no 32 0 (show lfL T v e' 32 0 < 0 by unfold s_leafOf at c; omega) i (by omega) (by omega))
  have chT : ∀ i : Int, i ≠ (f : Int) → (s_children T i = 0 ↔ s_children S i = 0) := by
    intro i hi
    have : s_children T i = s_children S i := by
      unfold s_children
      refine cntL_cg _ _ 128 (fun q hq => ?_)
      by_cases cq : q = d
      · rw [cq, d4]
        constructor <;> intro x <;> omega
      · rw [o 0 q (by omega) cq (by omega), o 4 q (by omega) cq (by omega)]
    rw [this]
  refine H.to (fun k' i' x => ⟨hU k' i' (usT k' i' x), rfl⟩) (fun k' i' g v x q => ?_)
  have k12 := us_le x
  -- the new capability
  by_cases nD : k' = 8 ∧ i' = (d : Int)
  · rw [nD.1, nD.2] at q ⊢
    rw [fD]
    have q : Fcap A2 T (d : Int) g = some v := q
    revert q
    refine Fcap_all (p := fun g v => capF a1 d 7 0 (f : Int) (A 8 (f : Int)) g = some v) ?_ ?_ ?_ ?_ ?_ ?_ (fun y => ?_) ?_ g v
    · have : thA A2 T (d : Int) = a1 := by
        unfold thA
        rw [Int.toNat_natCast, d0, d1]
        unfold tK at aT
        by_cases c : k = 0
        · rw [if_pos c]; rw [if_pos c, c] at aT; exact aT
        · rw [if_neg c]; rw [if_neg c] at aT; exact aT
      rw [this]; rfl
    · rw [Int.toNat_natCast, d2]; rfl
    · rw [Int.toNat_natCast, d3]; rfl
    · rw [Int.toNat_natCast, d4, fbd]; rfl
    · rfl
    · rw [Int.toNat_natCast, d7]; rfl
    · rw [Int.toNat_natCast, d7] at y; omega
    · rw [Int.toNat_natCast, e 9 (by omega), hI.2 d hd8]; rfl
  by_cases nT : k' = k ∧ i' = tK k u d
  · rw [nT.1, nT.2] at q ⊢
    rw [fT]
    unfold tK at q
    by_cases c0 : k = 0
    · rw [if_pos c0, c0, Funt_v] at q
      rw [c0]
      revert q
      refine Funt_all (p := fun g v => thV 0 u z a1 g = some v) ?_ ?_ ?_ (fun y => ?_) g v
      · rfl
      · rw [Int.toNat_natCast, d1]; rfl
      · rw [Int.toNat_natCast, d5 c0]; rfl
      · exfalso
        rw [children_ex] at y
        obtain ⟨r, r1, r2, r3⟩ := y
        by_cases cr : r = d
        · rw [cr, d4] at r3; omega
        · rw [o 4 r (by omega) cr (by omega)] at r3
          have := par_lv hTr r1 (by omega)
          rw [r3, Int.toNat_natCast] at this
          omega
    rw [if_neg c0] at q
    by_cases c2 : k = 2
    · obtain ⟨x1, x2, x3, x4, x5, x6, x7, x8, x9, x10⟩ := n2 c2
      rw [c2, x2, Fv_thr] at q
      rw [c2, x2]
      have lt : lid T t0 = -1 := by unfold lid; rw [x3]; rfl
      have nx : nxtL T (lid T) t0 = -1 := mnL_no (fun t ht y => by rw [lt] at y; omega)
      revert q
      refine Fthr_all (p := fun g v => thV 2 (8 * (t0 : Int)) z a1 g = some v) ?_ ?_ ?_ ?_ ?_ ?_ ?_ ?_ ?_ ?_ ?_ ?_ (fun y => ?_) (fun y => ?_) (fun y => ?_) (fun y => ?_) g v
      · rfl
      · rfl
      · rw [x4]; rfl
      · rw [x5]; rfl
      · rw [x6]; rfl
      · rw [x3]; rfl
      · rw [x7]; rfl
      · rw [x8]; rfl
      · rw [x9]; rfl
      · rw [x10]; rfl
      · rw [lt]; rfl
      · rw [nx]; rfl
      · omega
      · omega
      · omega
      · omega
    have q : Fthi A2 T k u g = some v := by
      rw [← q]
      unfold xFv
      simp only [if_neg c0, if_neg c2, if_pos (show k < 8 by omega)]
    unfold Fthi at q
    unfold thV
    by_cases g0 : g = 0
    · rw [if_pos g0] at q ⊢; exact q
    rw [if_neg g0] at q ⊢
    by_cases g1 : g = 1
    · rw [if_pos g1] at q ⊢; exact q
    rw [if_neg g1] at q ⊢
    rw [if_neg (fun y => c0 y.1), if_neg (fun y => c2 y.1)]
    by_cases g2 : g = 2
    · rw [if_pos g2] at q
      by_cases c3 : k = 3 ∨ k = 4
      · rw [if_pos c3] at q
        have := aE (by unfold eK; rw [if_pos c3]; omega)
        unfold eK eI at this
        rw [if_pos c3, if_pos c3] at this
        rw [if_pos ⟨by omega, g2⟩, ← this]; exact q
      rw [if_neg c3] at q
      by_cases c5 : k = 5
      · rw [if_pos c5] at q
        have := aE (by unfold eK; rw [if_neg c3, if_pos c5]; omega)
        unfold eK eI at this
        rw [if_neg c3, if_neg c3, if_pos c5] at this
        rw [if_pos ⟨by omega, g2⟩, ← this]; exact q
      rw [if_neg c5] at q
      by_cases c6 : k = 6
      · rw [if_pos c6, n6 c6] at q
        rw [if_neg (by omega), if_neg (by omega), c6, g2]; exact q
      · rw [if_neg c6] at q; cases q
    rw [if_neg g2] at q
    rw [if_neg (fun y => g2 y.2)]
    by_cases g3 : g = 3
    · rw [if_pos g3] at q
      by_cases c4 : k = 4
      · rw [if_pos c4, n4 c4] at q
        rw [if_neg (by omega), c4, g3]; exact q
      rw [if_neg c4] at q
      by_cases c6 : k = 6
      · rw [if_pos c6, n6 c6, if_pos (by omega)] at q; cases q
      · rw [if_neg c6] at q; cases q
    rw [if_neg g3] at q
    by_cases g4 : g = 4
    · rw [if_pos g4] at q
      by_cases c6 : k = 6
      · rw [if_pos c6] at q
        have := aE (by unfold eK; rw [if_neg (by omega), if_neg (by omega), if_pos c6]; omega)
        unfold eK eI at this
        rw [if_neg (by omega), if_neg (by omega), if_pos c6, if_neg (by omega)] at this
        rw [if_pos ⟨c6, g4⟩, ← this]; exact q
      · rw [if_neg c6] at q; cases q
    · rw [if_neg g4] at q; cases q
  by_cases nE : 0 ≤ eK k ∧ k' = eK k ∧ i' = eI k u
  · rw [nE.2.1, nE.2.2, fE nE.1]
    rw [nE.2.1, nE.2.2] at q
    unfold eK at q nE
    unfold eI at q
    unfold eK
    by_cases c3 : k = 3 ∨ k = 4
    · rw [if_pos c3, if_pos c3] at q
      rw [if_pos c3, if_pos rfl]
      have q : Flin A2 T (lid T) (u + 4) g = some v := q
      have no : ∀ t, t < 16 → ¬ lid S t = u + 4 := by
        intro t ht y
        have y2 := (hln.2.1 t ht (by omega)).2
        rw [y] at y2
        unfold us at y2
        rcases y2 with z | z | z | z | z | z | z
        · omega
        · omega
        · omega
        · rcases z.2 with r | r | r
          · omega
          · rw [show u + 4 - 4 = u by omega] at r; exact fr 3 (by omega) r
          · rw [show u + 4 - 4 = u by omega] at r; exact fr 4 (by omega) r
        all_goals omega
      unfold Flin at q
      rw [fstT, lstT, show fstL S (lid S) (u + 4) = -1 from mnL_no no, show lstL S (lid S) (u + 4) = -1 from mnL_no no] at q
      by_cases g0 : g = 0
      · rw [if_pos g0] at q; rw [g0]; exact q
      rw [if_neg g0] at q
      by_cases g1 : g = 1
      · rw [if_pos g1] at q; rw [g1]; exact q
      · rw [if_neg g1] at q; cases q
    rw [if_neg c3, if_neg c3] at q
    rw [if_neg c3]
    by_cases c5 : k = 5
    · rw [if_pos c5] at q
      rw [if_pos c5, if_neg (by omega)]
      have q : (if g < 4 then some (pv (s_leafOf T u g) (A2 6 (s_leafOf T u g))) else none) = some v := q
      by_cases g4 : g < 4
      · rw [if_pos g4, lfT u g u0] at q
        have : s_leafOf S u g = -1 := leafOf_no (fun i i1 i2 i3 i4 => fr 5 (by omega) (by
          have := ((mA.1 i i1 i2).resolve_left (by omega)).1
          rw [i3] at this
          exact this))
        rw [this] at q
        exact q
      · rw [if_neg g4] at q; cases q
    rw [if_neg c5] at q
    rw [if_neg c5]
    by_cases c6 : k = 6
    · rw [if_pos c6] at q
      rw [if_pos c6, if_neg (by omega)]
      have q : (if g < 4 then some (pv (s_frameOf T u g) (A2 8 (s_frameOf T u g))) else none) = some v := q
      by_cases g4 : g < 4
      · rw [if_pos g4, frT u g u0] at q
        have : s_frameOf S u g = -1 := frameOf_no (fun i i1 i2 i3 i4 => fr 6 (by omega) (by
          have := ((mB.1 i i1 (by omega)).resolve_left (by omega)).2.1
          rw [i3] at this
          exact this))
        rw [this] at q
        exact q
      · rw [if_neg g4] at q; cases q
    · rw [if_neg c3, if_neg c5, if_neg c6] at nE; omega
  -- what was there before
  have uS : us S k' i' := ((usT k' i' x).resolve_right (fun y => y.elim nD (fun y => y.elim nT nE)))
  rw [fO k' i' g uS]
  by_cases k8 : k' = 8
  · rw [k8] at q uS ⊢
    rw [if_neg (by omega), if_neg (by omega), if_neg (by omega)]
    have lv : 0 ≤ i' ∧ i' < 128 ∧ 0 ≤ S 0 i'.toNat := by unfold us at uS; omega
    have cd : i'.toNat ≠ d := fun y => nD ⟨k8, by omega⟩
    have q : Fcap A2 T i' g = some v := q
    show Fcap A S i' g = some v
    have k7 := (hA i'.toNat (by omega)).1
    revert q
    refine Fcap_all (p := fun g v => Fcap A S i' g = some v) ?_ ?_ ?_ ?_ ?_ ?_ (fun y => ?_) ?_ g v
    · have : thA A2 T i' = thA A S i' := by
        unfold thA
        rw [o 0 _ (by omega) cd (by omega), o 1 _ (by omega) cd (by omega)]
        by_cases c : S 0 i'.toNat = 0
        · rw [if_pos c, if_pos c, aU 0 i' (us_unt lv.1 lv.2.1 c)]
        · rw [if_neg c, if_neg c]
          exact aU _ _ (us_thi (by omega) k7.2.1 ⟨i'.toNat, by omega, rfl, rfl⟩)
      rw [this]; rfl
    · rw [o 2 _ (by omega) cd (by omega)]; rfl
    · rw [o 3 _ (by omega) cd (by omega)]; rfl
    · rw [o 4 _ (by omega) cd (by omega), pA _ 8 _ (fun y => by
        have pl := par_lv hTr (by omega) y
        exact us_cap pl.1 pl.2.1 pl.2.2)]; rfl
    · rfl
    · rw [o 7 _ (by omega) cd (by omega), pA _ 6 _ (fun y => us_thi (by omega) (by omega) ((mB.1 i'.toNat (by omega) lv.2.2).resolve_left (fun y' => by omega)).2.1)]; rfl
    · rw [o 7 _ (by omega) cd (by omega)] at y
      rw [o 8 _ (by omega) cd (by omega)]
      unfold Fcap
      simp [y]
    · rw [e 9 (by omega)]; rfl
  by_cases k0 : k' = 0
  · rw [k0] at q uS ⊢
    rw [if_neg (by omega), if_neg (by omega)]
    have lv : 0 ≤ i' ∧ i' < 128 ∧ S 0 i'.toNat = 0 := by unfold us at uS; omega
    have cd : i'.toNat ≠ d := fun y => by rw [y] at lv; omega
    rw [Funt_v] at q
    by_cases cf : i' = (f : Int)
    · by_cases g3 : g = 3
      · rw [if_pos ⟨rfl, cf, g3⟩]
        rw [g3] at q
        unfold Funt at q
        rw [if_neg (by omega), if_neg (by omega), if_neg (by omega), if_pos rfl] at q
        split at q
        · cases q
        · rw [cf, Int.toNat_natCast, f6] at q; exact q
      · rw [if_neg (fun y => g3 y.2.2), Funt_v, ← q]
        unfold Funt
        rw [o 1 _ (by omega) cd (by omega), o 5 _ (by omega) cd (by omega)]
        simp only [g3, if_false]
    · rw [if_neg (fun y => cf y.2.1), Funt_v]
      revert q
      refine Funt_all (p := fun g v => Funt S i' g = some v) ?_ ?_ ?_ (fun y => ?_) g v
      · rfl
      · rw [o 1 _ (by omega) cd (by omega)]; rfl
      · rw [o 5 _ (by omega) cd (by omega)]
        unfold Funt
        simp
      · rw [o 6 _ (by omega) cd (by omega)]
        have : ¬ s_children S i' = 0 := fun z => y ((chT i' cf).2 z)
        unfold Funt
        simp [this]
  by_cases kk : k' = 12
  · rw [kk] at q uS ⊢
    have i4 := us_12 uS
    have q : Fker A2 T i' g = some v := q
    by_cases i1 : i' = 1
    · rw [i1] at q ⊢
      have q : (if g < 128 then some (pv (T 0 g) (A2 8 (g : Int))) else none) = some v := q
      by_cases gd : g = d
      · rw [if_pos ⟨rfl, rfl, gd⟩]
        rw [gd, if_pos hd8, d0, aD, pv_r (by omega)] at q
        exact q
      · rw [if_neg (fun y => gd y.2.2), if_neg (by omega), if_neg (by omega)]
        show (if g < 128 then some (pv (S 0 g) (A 8 (g : Int))) else none) = some v
        rw [← q]
        by_cases g1 : g < 128
        · rw [if_pos g1, if_pos g1, o 0 g (by omega) gd (by omega), pA _ 8 _ (fun y => us_cap (by omega) (by omega) (by rw [Int.toNat_natCast]; omega))]
        · rw [if_neg g1, if_neg g1]
    rw [if_neg (fun y => i1 y.2.1)]
    by_cases i2 : i' = 2
    · rw [i2] at q ⊢
      have q : (if g < 16 then some (if T 10 g = 0 then Value.null else .ref (A2 2 (8 * (g : Int)))) else none) = some v := q
      by_cases c2 : k = 2 ∧ g = (u / 8).toNat
      · rw [if_pos ⟨c2.1, rfl, rfl, c2.2⟩]
        obtain ⟨x1, x2, x3, -⟩ := n2 c2.1
        have eg : g = t0 := by omega
        rw [eg, if_pos x1, x3, if_neg (by omega)] at q
        unfold tK at aT
        rw [if_neg (by omega), c2.1, x2] at aT
        rw [aT] at q
        exact q
      · rw [if_neg (fun y => c2 ⟨y.1, y.2.2.2⟩), if_neg (by omega)]
        show (if g < 16 then some (if S 10 g = 0 then Value.null else .ref (A 2 (8 * (g : Int)))) else none) = some v
        rw [← q]
        by_cases g1 : g < 16
        · have nk : ¬ (k = 2 ∧ g = t0) := fun y => c2 ⟨y.1, by have := (n2 y.1).2.1; omega⟩
          rw [if_pos g1, if_pos g1, o10 10 g (by omega) (by omega) nk]
          by_cases z0 : S 10 g = 0
          · rw [if_pos z0, if_pos z0]
          · rw [if_neg z0, if_neg z0, aU 2 _ (us_thi (by omega) (by omega) ((tA g g1).2.1.1 z0))]
        · rw [if_neg g1, if_neg g1]
    rw [if_neg (fun y => i2 y.2.2.1), if_neg (by omega)]
    show Fker A S i' g = some v
    rw [← q]
    unfold Fker
    simp only [if_neg i1, if_neg i2]
    by_cases j0 : i' = 0
    · rw [if_pos j0, if_pos j0, aK]
    rw [if_neg j0, if_neg j0]
    by_cases j3 : i' = 3
    · rw [if_pos j3, if_pos j3]
      by_cases g4 : g < 4
      · rw [if_pos g4, if_pos g4, aU 9 _ (us_lin (Or.inl ⟨by omega, by omega⟩))]
      · rw [if_neg g4, if_neg g4]
    rw [if_neg j3, if_neg j3, e 27 (by omega)]
    by_cases g4 : g < 4
    · rw [if_pos g4, if_pos g4, pA _ 4 _ (fun y => us_thi (by omega) (by omega) ((bI.2 g g4).resolve_left (fun y' => by omega)))]
    · rw [if_neg g4, if_neg g4]
  rw [if_neg (fun y => kk y.1), if_neg (fun y => kk y.2.1), if_neg (fun y => k0 y.1)]
  by_cases k11 : k' = 11
  · rw [k11] at q uS ⊢
    have h6 : hd S 6 i' := by
      unfold us at uS
      rcases uS with z | z | z | z | z | z | z
      all_goals first | exact z.2 | omega
    have i0 := hA.hd h6
    have q : (if g < 4 then some (pv (s_frameOf T i' g) (A2 8 (s_frameOf T i' g))) else none) = some v := q
    rw [frT i' g i0.1, pA _ 8 _ (fun y => by
      have z := frameOf_is (S := S) (l := i') (e := g) (by omega)
      exact us_cap (by omega) z.1 (by omega))] at q
    exact q
  by_cases k10 : k' = 10
  · rw [k10] at q uS ⊢
    have h5 : hd S 5 i' := by
      unfold us at uS
      rcases uS with z | z | z | z | z | z | z
      all_goals first | exact z.2 | omega
    have i0 := hA.hd h5
    have q : (if g < 4 then some (pv (s_leafOf T i' g) (A2 6 (s_leafOf T i' g))) else none) = some v := q
    rw [lfT i' g i0.1, pA _ 6 _ (fun y => us_thi (by omega) (by omega) (leafOf_hd (by omega)))] at q
    exact q
  by_cases k9 : k' = 9
  · rw [k9] at q uS ⊢
    have l0 := us_9 hA uS
    have q : Flin A2 T (lid T) i' g = some v := q
    show Flin A S (lid S) i' g = some v
    rw [← q]
    unfold Flin
    rw [fstT, lstT, pA _ 2 _ (fun y => (fst_us hln l0 (by omega)).1), pA _ 2 _ (fun y => (lst_us hln l0 y).1)]
  by_cases k2 : k' = 2
  · rw [k2] at q uS ⊢
    obtain ⟨t, t1, t2⟩ := us_2 hA uS
    rw [t2] at q uS ⊢
    rw [Fv_thr] at q ⊢
    have live : S 10 t ≠ 0 := (tA t t1).2.1.2 (by
      unfold us at uS
      rcases uS with z | z | z | z | z | z | z
      all_goals first | exact z.2.2 | omega)
    have nk : ¬ (k = 2 ∧ t = t0) := fun y => live (by rw [y.2]; exact t0n y.1)
    have oo : ∀ j, 10 ≤ j → j < 18 → T j t = S j t := fun j a b => o10 j t a b nk
    have tb := tB t t1 live
    revert q
    refine Fthr_all (p := fun g v => Fthr A S (lid S) (8 * (t : Int)) t g = some v) ?_ ?_ ?_ ?_ ?_ ?_ ?_ ?_ ?_ ?_ ?_ ?_ (fun y => ?_) (fun y => ?_) (fun y => ?_) (fun y => ?_) g v
    · rfl
    · rfl
    · rw [oo 11 (by omega) (by omega), pA _ 1 _ (fun y => us_thi (by omega) (by omega) (tb.2.1.resolve_left (fun y' => by omega)))]; rfl
    · rw [oo 12 (by omega) (by omega), pA _ 5 _ (fun y => us_thi (by omega) (by omega) (tb.2.2.1.resolve_left (fun y' => by omega)))]; rfl
    · rw [oo 13 (by omega) (by omega)]; rfl
    · rw [oo 10 (by omega) (by omega)]; rfl
    · rw [oo 14 (by omega) (by omega)]; rfl
    · rw [oo 15 (by omega) (by omega)]; rfl
    · rw [oo 16 (by omega) (by omega)]; rfl
    · rw [oo 17 (by omega) (by omega)]; rfl
    · rw [e10 t t1, pA _ 9 _ (fun y => (hln.2.1 t t1 (by omega)).2)]; rfl
    · rw [nxtT t t1, pA _ 2 _ (fun y => ?_)]
      · rfl
      · rcases mnI (S 18) (fun j => lid S j = lid S t ∧ 0 ≤ lid S t ∧ S 18 t < S 18 j) 16 with z | z
        · exact absurd (show nxtL S (lid S) t = -1 from z.1) (by omega)
        · have ez : mnL (S 18) (fun j => lid S j = lid S t ∧ 0 ≤ lid S t ∧ S 18 t < S 18 j) 16 = nxtL S (lid S) t := rfl
          rw [ez] at z
          have := (hln.2.1 (nxtL S (lid S) t).toNat (by omega) (by omega)).1
          rw [show (((nxtL S (lid S) t).toNat : Nat) : Int) = nxtL S (lid S) t by omega] at this
          exact this
    · rw [oo 10 (by omega) (by omega)] at y
      rw [e 21 (by omega)]
      unfold Fthr
      simp [y]
    · rw [oo 10 (by omega) (by omega)] at y
      rw [e 22 (by omega)]
      unfold Fthr
      simp [y]
    · rw [oo 10 (by omega) (by omega)] at y
      rw [e 23 (by omega)]
      unfold Fthr
      simp [y]
    · rw [oo 10 (by omega) (by omega)] at y
      rw [e 20 (by omega)]
      unfold Fthr
      simp [y]
  -- other things
  have hh : hd S k' i' := by
    unfold us at uS
    rcases uS with z | z | z | z | z | z | z
    all_goals first | exact z.2.2 | omega
  have iu : i' ≠ u := fun y => fr k' (by omega) (by rw [← y]; exact hh)
  have i0 := hA.hd hh
  have q : Fthi A2 T k' i' g = some v := by
    rw [← q]
    unfold xFv
    simp only [if_neg k0, if_neg k2, if_pos (show k' < 8 by omega)]
  have r : xFv A S (lid S) k' i' g = Fthi A S k' i' g := by
    unfold xFv
    simp only [if_neg k0, if_neg k2, if_pos (show k' < 8 by omega)]
  rw [r, ← q]
  unfold Fthi
  by_cases g0 : g = 0
  · rw [if_pos g0, if_pos g0]
  rw [if_neg g0, if_neg g0]
  by_cases g1 : g = 1
  · rw [if_pos g1, if_pos g1]
  rw [if_neg g1, if_neg g1]
  by_cases c3 : k' = 3
  · have h9 : A2 9 (i' + 4) = A 9 (i' + 4) := aU 9 _ (us_lin (Or.inr (Or.inl (by rw [show i' + 4 - 4 = i' by omega, ← c3]; exact hh))))
    rw [c3, h9]
    simp
  by_cases c4 : k' = 4
  · have h9 : A2 9 (i' + 4) = A 9 (i' + 4) := aU 9 _ (us_lin (Or.inr (Or.inr (by rw [show i' + 4 - 4 = i' by omega, ← c4]; exact hh))))
    have a1 : i' % 2 = 0 := (hd_al hA (k := 4) (by omega) (by rw [← c4]; exact hh)).1
    have h24 : T 24 (i' / 2).toNat = S 24 (i' / 2).toNat := o24 _ (fun y => by have := al4 y.1; omega)
    rw [c4, h9, h24]
    simp
  by_cases c5 : k' = 5
  · have h10 : A2 10 i' = A 10 i' := aU 10 _ (us_lvs (by rw [← c5]; exact hh))
    rw [c5, h10]
    simp
  by_cases c6 : k' = 6
  · have h11 : A2 11 i' = A 11 i' := aU 11 _ (us_frs (by rw [← c6]; exact hh))
    have a1 : i' % 4 = 0 := (hd_al hA (k := 6) (by omega) (by rw [← c6]; exact hh)).1
    have h25 : T 25 (i' / 4).toNat = S 25 (i' / 4).toNat := o25 _ (fun y => by have := al6 y.1; omega)
    have m := mA.1 (i' / 4).toNat (by omega) (by rw [show 4 * (((i' / 4).toNat : Nat) : Int) = i' by omega, ← c6]; exact hh)
    have p5 : pv (S 25 (i' / 4).toNat) (A2 5 (S 25 (i' / 4).toNat)) = pv (S 25 (i' / 4).toNat) (A 5 (S 25 (i' / 4).toNat)) := pA _ 5 _ (fun y => us_thi (by omega) (by omega) (m.resolve_left (fun y' => by omega)).1)
    rw [c6, h11, h25, e 26 (by omega), p5]
    simp
  · simp only [c3, c4, c5, c6]
    simp
end TC
