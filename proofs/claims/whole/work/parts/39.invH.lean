/-! a new thing out of untyped memory -/
theorem CapM.fresh {S : xS} (h : CapM S) {f : Nat} {u z : Int} (hf : f < 128) (hfl : S 0 f = 0) (hz : 0 < z) (u1 : S 1 f ≤ u) (u2 : u + z ≤ S 1 f + szS S f) (u3 : ∀ q, Anc S f q → S 1 q + szS S q ≤ u) {q : Nat} (hq : q < 128) (hl : 0 < S 0 q) (hz2 : 0 < szS S q) : S 1 q ≠ u := by
  intro c
  have qf : f ≠ q := by intro e; rw [← e] at hl; omega
  rcases h.2.2 f q hf hq qf (by omega) (by omega) ⟨by omega, by omega⟩ with k | ⟨k1, k2⟩ | ⟨k1, k2⟩
  · omega
  · have := u3 q k2
    omega
  · omega
theorem Inv.new {S S' : xS} (h : Inv S) (hR : RgS S') {d f t0 : Nat} {k u : Int} (hd8 : d < 128) (hdead : S 0 d < 0) (hf : f < 128) (hfl : S 0 f = 0) (htab : hd S 1 (16 * ((d : Int) / 16)))
    (e : ∀ j, (j = 9 ∨ (18 ≤ j ∧ j < 24) ∨ (26 ≤ j ∧ j < 29)) → S' j = S j) (o : ∀ j i, j < 9 → i ≠ d → ¬ (j = 6 ∧ i = f) → S' j i = S j i)
    (hk : 0 ≤ k ∧ k ≤ 7) (hd0 : S' 0 d = k) (hd1 : S' 1 d = u) (hd4 : S' 4 d = (f : Int)) (hd5 : k = 0 → 1 ≤ S' 5 d ∧ S' 5 d ≤ 6) (hdr : 0 ≤ S' 2 d ∧ S' 2 d ≤ 7 ∧ 0 ≤ S' 3 d ∧ S' 3 d ≤ 255 ∧ 0 ≤ S' 6 d ∧ S' 6 d ≤ 128) (hd7 : S' 7 d = -1) (hal : u % szS S' d = 0) (hf6 : S' 6 f = u + szS S' d)
    (u1 : S 1 f ≤ u) (u2 : u + szS S' d ≤ S 1 f + szS S f) (u3 : ∀ q, Anc S f q → S 1 q + szS S q ≤ u) (u4 : 0 < szS S' d)
    (o10 : ∀ j i, 10 ≤ j → j < 18 → ¬ (k = 2 ∧ i = t0) → S' j i = S j i) (n2 : k = 2 → u = 8 * (t0 : Int) ∧ S' 10 t0 = 1 ∧ S' 11 t0 = -1 ∧ S' 12 t0 = -1 ∧ S' 13 t0 = 0)
    (o24 : ∀ q, q < 64 → 0 ≤ S' 24 q ∧ S' 24 q < 512) (o25 : ∀ i : Nat, ¬ (k = 6 ∧ 4 * (i : Int) = u) → S' 25 i = S 25 i) (n6 : k = 6 → ∀ i : Nat, 4 * (i : Int) = u → S' 25 i = -1) : Inv S' := by
  obtain ⟨⟨-, hA, hM, hT, hD, tA, tB, tC, tD, mA, mB, hB⟩, hz⟩ := h
  have hfd : f ≠ d := by intro c; rw [c] at hfl; omega
  have sp : ∀ q, q < 128 → 0 ≤ S 0 q → 0 < szS S q := by
    intro q hq g
    have := s_size_in (k := S 0 q) (b := S 5 q) (fun c => ((hA q hq).2 g).2.2.2 c)
    unfold szS
    omega
  have fr : ∀ k', 1 ≤ k' → ¬ hd S k' u := by
    rintro k' hk' ⟨q, q1, q2, q3⟩
    exact hM.fresh hf hfl u4 u1 u2 u3 q1 (by omega) (sp q q1 (by omega)) q3
  have mono : ∀ {k' u'}, 1 ≤ k' → hd S k' u' → hd S' k' u' := by
    rintro k' u' hk' ⟨p, p1, p2, p3⟩
    have c : p ≠ d := by intro c; rw [c] at p2; omega
    exact ⟨p, p1, by rw [o 0 p (by omega) c (by omega)]; exact p2, by rw [o 1 p (by omega) c (by omega)]; exact p3⟩
  have back : ∀ {k' u'}, 1 ≤ k' → hd S' k' u' → hd S k' u' ∨ (k' = k ∧ u' = u) := by
    rintro k' u' hk' ⟨p, p1, p2, p3⟩
    by_cases c : p = d
    · rw [c] at p2 p3
      exact Or.inr ⟨by omega, by omega⟩
    · exact Or.inl ⟨p, p1, by rw [← o 0 p (by omega) c (by omega)]; exact p2, by rw [← o 1 p (by omega) c (by omega)]; exact p3⟩
  have me : k ≠ 0 → hd S' k u := fun _ => ⟨d, hd8, hd0, hd1⟩
  have sz : ∀ q, q ≠ d → szS S' q = szS S q := by
    intro q c
    unfold szS
    rw [o 0 q (by omega) c (by omega), o 5 q (by omega) c (by omega)]
  have kf := (hA f hf).2 (by omega)
  have kf1 := (hA f hf).1
  have s10 : ∀ i, i < 16 → 2 ≤ S' 10 i → 2 ≤ S 10 i ∧ S' 10 i = S 10 i := by
    intro i hi g
    by_cases c : k = 2 ∧ i = t0
    · have := (n2 c.1).2.1
      rw [c.2] at g
      omega
    · rw [o10 10 i (by omega) (by omega) c] at g ⊢
      exact ⟨g, rfl⟩
  refine ⟨⟨hR, fun p hp => ?_, ?_, fun p hp => ?_, fun p hp => ?_, fun i hi => ?_, fun i hi => ?_, ?_, ?_, ⟨fun l hl => ?_, fun l l' hl hl' hne => ?_⟩, ⟨fun p hp => ?_, fun p p' hp hp' hne => ?_⟩, ⟨o24, fun q hq => ?_⟩⟩, ?_⟩
  · by_cases c : p = d
    · rw [c, hd0, hd1]
      exact ⟨⟨by omega, by omega, by omega, by omega⟩, fun g => ⟨hal, by omega, hdr, hd5⟩⟩
    · have g := hA p hp
      rw [sz p c, o 0 p (by omega) c (by omega), o 1 p (by omega) c (by omega), o 2 p (by omega) c (by omega), o 3 p (by omega) c (by omega), o 5 p (by omega) c (by omega)]
      refine ⟨g.1, fun gl => ?_⟩
      have g2 := g.2 gl
      refine ⟨g2.1, g2.2.1, ?_, g2.2.2.2⟩
      by_cases c2 : p = f
      · rw [c2, hf6]
        rw [c2] at g2
        exact ⟨g2.2.2.1.1, g2.2.2.1.2.1, g2.2.2.1.2.2.1, g2.2.2.1.2.2.2.1, by omega, by omega⟩
      · rw [o 6 p (by omega) c (by omega)]
        exact g2.2.2.1
  · exact hM.rt hd8 hdead hf hfl (fun q _ c => o 0 q (by omega) c (by omega)) (fun q _ c => o 1 q (by omega) c (by omega)) (fun q _ c => o 4 q (by omega) c (by omega)) (fun q _ c => o 5 q (by omega) c (by omega)) (fun q _ c c2 => o 6 q (by omega) c (by omega)) (by omega) hd4 (by rw [hd1]; exact hf6) (by rw [hd1]; exact u1) (by rw [hd1]; exact u2) (by rw [hd1]; exact u3) u4 sp
  · rw [e 9 (by omega)]
    by_cases c : p = d
    · intro _ _
      rw [c]; exact mono (by omega) htab
    · rw [o 0 p (by omega) c (by omega)]
      exact fun a b => mono (by omega) (hT p hp a b)
  · rw [e 9 (by omega)]
    exact Or.inl (hz p hp)
  · by_cases c : k = 2 ∧ i = t0
    · have g := n2 c.1
      rw [c.2, g.2.1, g.2.2.1]
      refine ⟨by omega, ⟨fun _ => ?_, fun _ => by omega⟩, Or.inl rfl⟩
      rw [← g.1, ← c.1]
      exact me (by omega)
    · have g := tA i hi
      rw [o10 10 i (by omega) (by omega) c, o10 11 i (by omega) (by omega) c]
      refine ⟨g.1, ⟨fun q => mono (by omega) (g.2.1.1 q), fun q => ?_⟩, g.2.2⟩
      rcases back (by omega) q with q | q
      · exact g.2.1.2 q
      · exfalso
        have := (n2 q.1.symm).1
        exact c ⟨q.1.symm, by omega⟩
  · by_cases c : k = 2 ∧ i = t0
    · have g := n2 c.1
      rw [c.2, g.2.1, g.2.2.1, g.2.2.2.1, g.2.2.2.2]
      intro _
      exact ⟨by omega, Or.inl rfl, Or.inl rfl, fun q => by omega, fun q => by omega, fun q => by omega⟩
    · rw [o10 10 i (by omega) (by omega) c, o10 11 i (by omega) (by omega) c, o10 12 i (by omega) (by omega) c, o10 13 i (by omega) (by omega) c, o10 14 i (by omega) (by omega) c, e 19 (by omega)]
      intro gl
      have g := tB i hi gl
      exact ⟨g.1, g.2.1.imp id (mono (by omega)), g.2.2.1.imp id (mono (by omega)), fun q => mono (by omega) (g.2.2.2.1 q), fun q => mono (by omega) (g.2.2.2.2.1 q), g.2.2.2.2.2⟩
  · unfold ThC
    rw [e 18 (by omega), e 28 (by omega)]
    exact ⟨tC.1, fun i hi g => tC.2.1 i hi (s10 i hi g).1, fun i i' hi hi' hne g g' => tC.2.2 i i' hi hi' hne (s10 i hi g).1 (s10 i' hi' g').1⟩
  · intro i i' hi hi' g g'
    rw [e 19 (by omega)]
    exact tD i i' hi hi' (by rw [← (s10 i hi (by omega)).2]; exact g) (by rw [← (s10 i' hi' (by omega)).2]; exact g')
  · intro g
    by_cases c : k = 6 ∧ 4 * (l : Int) = u
    · exact Or.inl (n6 c.1 l c.2)
    · rw [o25 l c, e 26 (by omega)]
      rcases back (by omega) g with q | q
      · exact (mA.1 l hl q).imp id (fun r => ⟨mono (by omega) r.1, r.2⟩)
      · exact absurd ⟨q.1.symm, q.2⟩ c
  · intro g g' k1 k2
    rw [e 26 (by omega)]
    by_cases c : k = 6 ∧ 4 * (l : Int) = u
    · exact absurd (n6 c.1 l c.2) k1
    · by_cases c' : k = 6 ∧ 4 * (l' : Int) = u
      · rw [n6 c'.1 l' c'.2] at k2
        exact absurd k2 k1
      · rw [o25 l c] at k1 k2
        rw [o25 l' c'] at k2
        have q : hd S 6 (4 * (l : Int)) := (back (by omega) g).resolve_right (fun q => c ⟨q.1.symm, q.2⟩)
        have q' : hd S 6 (4 * (l' : Int)) := (back (by omega) g').resolve_right (fun q => c' ⟨q.1.symm, q.2⟩)
        exact mA.2 l l' hl hl' hne q q' k1 k2
  · by_cases c : p = d
    · intro _
      rw [c]; exact Or.inl hd7
    · rw [o 0 p (by omega) c (by omega), o 7 p (by omega) c (by omega), o 8 p (by omega) c (by omega)]
      exact fun g => (mB.1 p hp g).imp id (fun r => ⟨r.1, mono (by omega) r.2.1, r.2.2⟩)
  · by_cases c : p = d
    · intro _ _ q
      rw [c] at q
      exact absurd hd7 q
    · rw [o 0 p (by omega) c (by omega), o 7 p (by omega) c (by omega), o 8 p (by omega) c (by omega)]
      by_cases c' : p' = d
      · intro _ _ k1 k2
        rw [c', hd7] at k2
        exact absurd k2 k1
      · rw [o 0 p' (by omega) c' (by omega), o 7 p' (by omega) c' (by omega), o 8 p' (by omega) c' (by omega)]
        exact mB.2 p p' hp hp' hne
  · rw [e 27 (by omega)]
    exact (hB.2 q hq).imp id (mono (by omega))
  · rw [e 9 (by omega)]; exact hz
