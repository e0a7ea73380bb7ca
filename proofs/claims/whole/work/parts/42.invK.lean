theorem InvW.ds {S : xS} {s : Nat} (h : InvW S) (hs : s < 128) (hl : 0 < S 0 s) (hx : ¬ hd (s_rmA S s) (S 0 s) (S 1 s)) (hR' : RgS (s_destroy (s_rmA S s) (S 0 s) (S 1 s))) : InvW (s_destroy (s_rmA S s) (S 0 s) (S 1 s)) := by
  obtain ⟨hR, hA, hM, hT, hD, tA, tB, tC, tD, mA, mB, hB⟩ := h
  obtain ⟨a1, a2, a3⟩ := rmA_slots hs (by omega) hA hM hD
  have hal := ((hA s hs).2 (by omega)).1
  have hu := (hA s hs).1
  have o1 := fun j h0 h4 h9 => rmA_o (S := S) (s := s) (j := j) h0 h4 h9
  have f1 : ∀ k' u', 1 ≤ k' → hd S k' u' → ¬ (k' = S 0 s ∧ u' = S 1 s) → hd (s_rmA S s) k' u' := fun k' u' _ g c => rmA_hd2 g c
  have f2 : ∀ k' u', 1 ≤ k' → hd (s_rmA S s) k' u' → hd S k' u' ∧ ¬ (k' = S 0 s ∧ u' = S 1 s) := by
    intro k' u' hk g
    refine ⟨rmA_hd hk g, fun c => hx ?_⟩
    rw [← c.1, ← c.2]; exact g
  have r9 := fun i => rmA_9 (S := S) (s := s) i
  have r0 := fun i => rmA_0 (S := S) (s := s) i
  have e1 : s_rmA S s 1 = S 1 := o1 1 (by omega) (by omega) (by omega)
  have e7 : s_rmA S s 7 = S 7 := o1 7 (by omega) (by omega) (by omega)
  have e8 : s_rmA S s 8 = S 8 := o1 8 (by omega) (by omega) (by omega)
  have e10 : s_rmA S s 10 = S 10 := o1 10 (by omega) (by omega) (by omega)
  have e11 : s_rmA S s 11 = S 11 := o1 11 (by omega) (by omega) (by omega)
  have e12 : s_rmA S s 12 = S 12 := o1 12 (by omega) (by omega) (by omega)
  have e13 : s_rmA S s 13 = S 13 := o1 13 (by omega) (by omega) (by omega)
  have e14 : s_rmA S s 14 = S 14 := o1 14 (by omega) (by omega) (by omega)
  have e18 : s_rmA S s 18 = S 18 := o1 18 (by omega) (by omega) (by omega)
  have e19 : s_rmA S s 19 = S 19 := o1 19 (by omega) (by omega) (by omega)
  have e24 : s_rmA S s 24 = S 24 := o1 24 (by omega) (by omega) (by omega)
  have e25 : s_rmA S s 25 = S 25 := o1 25 (by omega) (by omega) (by omega)
  have e26 : s_rmA S s 26 = S 26 := o1 26 (by omega) (by omega) (by omega)
  have e27 : s_rmA S s 27 = S 27 := o1 27 (by omega) (by omega) (by omega)
  have e28 : s_rmA S s 28 = S 28 := o1 28 (by omega) (by omega) (by omega)
  have al2 : S 0 s = 2 → S 1 s % 8 = 0 := by
    intro c
    have e : szS S s = 8 := by unfold szS s_size; rw [c]; rfl
    rw [e] at hal; exact hal
  clear hal
  generalize hS1 : s_rmA S s = S1 at *
  generalize hk : S 0 s = k at *
  generalize huu : S 1 s = u at *
  have d := fun j a b c d e f g => ds_o (S := S1) (k := k) (u := u) (j := j) a b c d e f g
  have q0 : s_destroy S1 k u 0 = S1 0 := d 0 (by omega) (by omega) (by omega) (by omega) (by omega) (by omega) (by omega)
  have q1 : s_destroy S1 k u 1 = S1 1 := d 1 (by omega) (by omega) (by omega) (by omega) (by omega) (by omega) (by omega)
  have q2 : s_destroy S1 k u 2 = S1 2 := d 2 (by omega) (by omega) (by omega) (by omega) (by omega) (by omega) (by omega)
  have q3 : s_destroy S1 k u 3 = S1 3 := d 3 (by omega) (by omega) (by omega) (by omega) (by omega) (by omega) (by omega)
  have q4 : s_destroy S1 k u 4 = S1 4 := d 4 (by omega) (by omega) (by omega) (by omega) (by omega) (by omega) (by omega)
  have q5 : s_destroy S1 k u 5 = S1 5 := d 5 (by omega) (by omega) (by omega) (by omega) (by omega) (by omega) (by omega)
  have q6 : s_destroy S1 k u 6 = S1 6 := d 6 (by omega) (by omega) (by omega) (by omega) (by omega) (by omega) (by omega)
  have q8 : s_destroy S1 k u 8 = S 8 := by rw [d 8 (by omega) (by omega) (by omega) (by omega) (by omega) (by omega) (by omega), e8]
  have q13 : s_destroy S1 k u 13 = S 13 := by rw [d 13 (by omega) (by omega) (by omega) (by omega) (by omega) (by omega) (by omega), e13]
  have q14 : s_destroy S1 k u 14 = S 14 := by rw [d 14 (by omega) (by omega) (by omega) (by omega) (by omega) (by omega) (by omega), e14]
  have q18 : s_destroy S1 k u 18 = S 18 := by rw [d 18 (by omega) (by omega) (by omega) (by omega) (by omega) (by omega) (by omega), e18]
  have q19 : s_destroy S1 k u 19 = S 19 := by rw [d 19 (by omega) (by omega) (by omega) (by omega) (by omega) (by omega) (by omega), e19]
  have q24 : s_destroy S1 k u 24 = S 24 := by rw [d 24 (by omega) (by omega) (by omega) (by omega) (by omega) (by omega) (by omega), e24]
  have q26 : s_destroy S1 k u 26 = S 26 := by rw [d 26 (by omega) (by omega) (by omega) (by omega) (by omega) (by omega) (by omega), e26]
  have q28 : s_destroy S1 k u 28 = S 28 := by rw [d 28 (by omega) (by omega) (by omega) (by omega) (by omega) (by omega) (by omega), e28]
  have hh := hd_cg q0 q1
  have p7 : ∀ i, i < 128 → s_destroy S1 k u 7 i = if k = 6 ∧ S 7 i = u then -1 else S 7 i := by
    intro i hi; rw [ds_7 hi]; unfold rm_inl; rw [e7]
  have p9 : ∀ i, i < 128 → s_destroy S1 k u 9 i = if S1 9 i ≠ 0 ∨ (k = 1 ∧ (i : Int) / 16 = u / 16 ∧ 0 ≤ S1 0 i) then 1 else 0 := by
    intro i hi; rw [ds_9 hi]; rfl
  have p10 : ∀ i, i < 16 → s_destroy S1 k u 10 i = if (k = 3 ∨ k = 4) ∧ 3 ≤ S 10 i ∧ S 19 i = u then 1 else if k = 2 ∧ (i : Int) = u / 8 then 0 else S 10 i := by
    intro i hi; rw [ds_10 hi]; unfold rm_sta; rw [e10, e19]
  have p11 : ∀ i, i < 16 → s_destroy S1 k u 11 i = if k = 1 ∧ S 11 i = u then -1 else S 11 i := by
    intro i hi; rw [ds_11 hi]; unfold rm_tab; rw [e11]
  have p12 : ∀ i, i < 16 → s_destroy S1 k u 12 i = if k = 5 ∧ S 12 i = u then -1 else S 12 i := by
    intro i hi; rw [ds_12 hi]; unfold rm_spa; rw [e12]
  have p25 : ∀ i : Nat, i < 32 → s_destroy S1 k u 25 i = if (k = 6 ∧ (i : Int) = u / 4) ∨ (k = 5 ∧ S 25 i = u) then -1 else S 25 i := by
    intro i hi; rw [ds_25 hi]; unfold rm_les; rw [e25]
  have p27 : ∀ i, i < 4 → s_destroy S1 k u 27 i = if k = 4 ∧ S 27 i = u then -1 else S 27 i := by
    intro i hi; rw [ds_27 hi]; unfold rm_lin; rw [e27]
  generalize hS2 : s_destroy S1 k u = S2 at *
  have s10 : ∀ i, i < 16 → 2 ≤ S2 10 i → S2 10 i = S 10 i := by
    intro i hi g
    rw [p10 i hi] at g ⊢
    split at g
    · omega
    next c =>
      rw [if_neg c]
      split at g
      · omega
      next c2 => rw [if_neg c2]
  refine ⟨hR', a1.cg q0 q1 q2 q3 q5 q6, a2.cg q0 q1 q4 q5 q6, fun p hp => ?_, fun p hp => ?_, fun i hi => ?_, fun i hi => ?_, ⟨by rw [q28]; exact tC.1, fun i hi g => ?_, fun i i' hi hi' hne g g' => ?_⟩, fun i i' hi hi' g g' => ?_, ⟨fun l hl' => ?_, fun l l' hl1 hl2 hne => ?_⟩, ⟨fun p hp => ?_, fun p p' hp hp' hne => ?_⟩, ⟨by rw [q24]; exact hB.1, fun q hq => ?_⟩⟩
  · rw [q0, p9 p hp, hh]
    intro g g9
    split at g9
    · omega
    next c =>
      have c1 : S1 9 p = 0 := by omega
      rw [r9] at c1
      have cs : p ≠ s := by
        intro cs
        rw [r0, if_pos cs] at g; omega
      rw [if_neg cs] at c1
      have g0 := g
      rw [r0, if_neg cs] at g
      refine f1 1 _ (by omega) (hT p hp g c1) (fun cc => c (Or.inr ⟨cc.1.symm, by omega, g0⟩))
  · rw [q0, p9 p hp]
    split
    next c =>
      refine Or.inr ⟨rfl, ?_⟩
      rcases c with c | c
      · rcases a3 p hp with x | x
        · exact absurd x c
        · exact x.2
      · exact c.2.2
    · exact Or.inl rfl
  · have g := tA i hi
    rw [p10 i hi, p11 i hi, hh]
    refine ⟨?_, ?_, ?_⟩
    · split
      · omega
      · split <;> omega
    · split
      next c => exact ⟨fun _ => f1 2 _ (by omega) (g.2.1.1 (by omega)) (by omega), fun _ => by omega⟩
      next c =>
        split
        next c2 =>
          refine ⟨fun x => by omega, fun x => ?_⟩
          have := al2 c2.1
          exact absurd ⟨c2.1.symm, by omega⟩ (f2 2 _ (by omega) x).2
        next c2 =>
          refine ⟨fun x => f1 2 _ (by omega) (g.2.1.1 x) (fun cc => c2 ⟨cc.1.symm, by omega⟩), fun x => g.2.1.2 (f2 2 _ (by omega) x).1⟩
    · split
      · exact Or.inl rfl
      · exact g.2.2
  · intro gl
    have gl0 : S 10 i ≠ 0 := by
      intro c
      rw [p10 i hi, c] at gl
      split at gl
      · omega
      · split at gl <;> omega
    have g := tB i hi gl0
    rw [q13, q14, q19, hh, p11 i hi, p12 i hi]
    refine ⟨g.1, ?_, ?_, fun x => ?_, fun x => ?_, fun x => ?_⟩
    · split
      · exact Or.inl rfl
      next c => exact g.2.1.imp id (fun y => f1 1 _ (by omega) y (fun cc => c ⟨cc.1.symm, cc.2⟩))
    · split
      · exact Or.inl rfl
      next c => exact g.2.2.1.imp id (fun y => f1 5 _ (by omega) y (fun cc => c ⟨cc.1.symm, cc.2⟩))
    · have x2 := s10 i hi (by omega)
      have x3 := x
      rw [p10 i hi] at x3
      refine f1 3 _ (by omega) (g.2.2.2.1 (by omega)) (fun cc => ?_)
      rw [if_pos ⟨Or.inl cc.1.symm, by omega, cc.2⟩] at x3
      omega
    · have x2 := s10 i hi (by omega)
      have x3 := x
      rw [p10 i hi] at x3
      refine f1 4 _ (by omega) (g.2.2.2.2.1 (by omega)) (fun cc => ?_)
      rw [if_pos ⟨Or.inr cc.1.symm, by omega, cc.2⟩] at x3
      omega
    · have x2 := s10 i hi (by omega)
      exact g.2.2.2.2.2 (by omega)
  · rw [q18, q28]
    have := s10 i hi g
    exact tC.2.1 i hi (by omega)
  · rw [q18]
    have y1 := s10 i hi g
    have y2 := s10 i' hi' g'
    exact tC.2.2 i i' hi hi' hne (by omega) (by omega)
  · rw [q19]
    have y1 := s10 i hi (by omega)
    have y2 := s10 i' hi' (by omega)
    exact tD i i' hi hi' (by omega) (by omega)
  · rw [hh, p25 l hl', q26]
    intro g
    split
    · exact Or.inl rfl
    next c => exact (mA.1 l hl' (f2 6 _ (by omega) g).1).imp id (fun y => ⟨f1 5 _ (by omega) y.1 (fun cc => c (Or.inr ⟨cc.1.symm, cc.2⟩)), y.2⟩)
  · rw [hh, p25 l hl1, p25 l' hl2, q26]
    intro g g' k1 k2
    split at k1
    · omega
    next c =>
      rw [if_neg c] at k2
      split at k2
      · omega
      · exact mA.2 l l' hl1 hl2 hne (f2 6 _ (by omega) g).1 (f2 6 _ (by omega) g').1 k1 k2
  · rw [q0, p7 p hp, q8, hh, r0]
    intro g
    split at g
    · omega
    next cs =>
      rw [if_neg cs]
      split
      · exact Or.inl rfl
      next c => exact (mB.1 p hp g).imp id (fun y => ⟨y.1, f1 6 _ (by omega) y.2.1 (fun cc => c ⟨cc.1.symm, cc.2⟩), y.2.2⟩)
  · rw [q0, p7 p hp, p7 p' hp', q8, r0, r0]
    intro g g' k1 k2
    split at g
    · omega
    · split at g'
      · omega
      · split at k1
        · omega
        next c =>
          rw [if_neg c] at k2
          split at k2
          · omega
          · exact mB.2 p p' hp hp' hne g g' k1 k2
  · rw [p27 q hq, hh]
    split
    · exact Or.inl rfl
    next c => exact (hB.2 q hq).imp id (fun y => f1 4 _ (by omega) y (fun cc => c ⟨cc.1.symm, cc.2⟩))
