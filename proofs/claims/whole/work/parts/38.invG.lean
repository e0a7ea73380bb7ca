/-! when just the same things are there -/
section CH
variable {S S' : xS}
theorem ThA.ch (h : ThA S) (hh : ∀ k u, 1 ≤ k → (hd S' k u ↔ hd S k u)) (h10 : S' 10 = S 10) (h11 : S' 11 = S 11) : ThA S' := by
  unfold ThA
  simp only [fun u => hh 2 u (by omega), h10, h11]
  exact h
theorem ThB.ch (h : ThB S) (hh : ∀ k u, 1 ≤ k → (hd S' k u ↔ hd S k u)) (h10 : S' 10 = S 10) (h11 : S' 11 = S 11) (h12 : S' 12 = S 12) (h13 : S' 13 = S 13) (h14 : S' 14 = S 14) (h19 : S' 19 = S 19) : ThB S' := by
  unfold ThB
  simp only [fun u => hh 1 u (by omega), fun u => hh 3 u (by omega), fun u => hh 4 u (by omega), fun u => hh 5 u (by omega), h10, h11, h12, h13, h14, h19]
  exact h
theorem MpA.ch (h : MpA S) (hh : ∀ k u, 1 ≤ k → (hd S' k u ↔ hd S k u)) (h25 : S' 25 = S 25) (h26 : S' 26 = S 26) : MpA S' := by
  unfold MpA
  simp only [fun u => hh 5 u (by omega), fun u => hh 6 u (by omega), h25, h26]
  exact h
theorem BeI.ch (h : BeI S) (hh : ∀ k u, 1 ≤ k → (hd S' k u ↔ hd S k u)) (h24 : S' 24 = S 24) (h27 : S' 27 = S 27) : BeI S' := by
  unfold BeI
  simp only [fun u => hh 4 u (by omega), h24, h27]
  exact h
end CH
/-! a copy of the capability at f comes to d -/
theorem Inv.copy {S S' : xS} (h : Inv S) (hR : RgS S') {d f : Nat} (hd8 : d < 128) (hdead : S 0 d < 0) (hf : f < 128) (hfl : 0 < S 0 f) (htab : hd S 1 (16 * ((d : Int) / 16))) (e : ∀ j, 9 ≤ j → S' j = S j) (o : ∀ j i, j < 9 → i ≠ d → S' j i = S j i)
    (hd0 : S' 0 d = S 0 f) (hd1 : S' 1 d = S 1 f) (hd4 : S' 4 d = (f : Int)) (hdr : 0 ≤ S' 2 d ∧ S' 2 d ≤ 7 ∧ 0 ≤ S' 3 d ∧ S' 3 d ≤ 255 ∧ 0 ≤ S' 6 d ∧ S' 6 d ≤ 128) (hd7 : S' 7 d = -1) : Inv S' := by
  obtain ⟨⟨-, hA, hM, hT, hD, tA, tB, tC, tD, mA, mB, hB⟩, hz⟩ := h
  have hfd : f ≠ d := by intro c; rw [c] at hfl; omega
  have hh : ∀ k u, 1 ≤ k → (hd S' k u ↔ hd S k u) := by
    intro k u hk
    refine ⟨?_, ?_⟩
    · rintro ⟨p, p1, p2, p3⟩
      by_cases c : p = d
      · rw [c] at p2 p3
        exact ⟨f, hf, by rw [← hd0]; exact p2, by rw [← hd1]; exact p3⟩
      · exact ⟨p, p1, by rw [← o 0 p (by omega) c]; exact p2, by rw [← o 1 p (by omega) c]; exact p3⟩
    · rintro ⟨p, p1, p2, p3⟩
      have c : p ≠ d := by intro c; rw [c] at p2; omega
      exact ⟨p, p1, by rw [o 0 p (by omega) c]; exact p2, by rw [o 1 p (by omega) c]; exact p3⟩
  have sz : ∀ q, q ≠ d → szS S' q = szS S q := by
    intro q c
    unfold szS
    rw [o 0 q (by omega) c, o 5 q (by omega) c]
  have szd : szS S' d = szS S f := by
    unfold szS s_size
    have e : ¬ S 0 f = 0 := by omega
    rw [hd0]
    simp only [if_neg e]
  have kf := hA f hf
  refine ⟨⟨hR, fun p hp => ?_, ?_, fun p hp => ?_, fun p hp => ?_, tA.ch hh (e 10 (by omega)) (e 11 (by omega)), tB.ch hh (e 10 (by omega)) (e 11 (by omega)) (e 12 (by omega)) (e 13 (by omega)) (e 14 (by omega)) (e 19 (by omega)), tC.cg (e 10 (by omega)) (e 18 (by omega)) (e 28 (by omega)), tD.cg (e 10 (by omega)) (e 19 (by omega)), mA.ch hh (e 25 (by omega)) (e 26 (by omega)), ⟨fun p hp => ?_, fun p p' hp hp' hne => ?_⟩, hB.ch hh (e 24 (by omega)) (e 27 (by omega))⟩, ?_⟩
  · by_cases c : p = d
    · rw [c, hd0, hd1, szd]
      exact ⟨kf.1, fun g => ⟨(kf.2 g).1, (kf.2 g).2.1, hdr, fun k => by omega⟩⟩
    · rw [sz p c, o 0 p (by omega) c, o 1 p (by omega) c, o 2 p (by omega) c, o 3 p (by omega) c, o 5 p (by omega) c, o 6 p (by omega) c]
      exact hA p hp
  · exact hM.cp hd8 hdead hf hfl (fun q _ c => o 0 q (by omega) c) (fun q _ c => o 1 q (by omega) c) (fun q _ c => o 4 q (by omega) c) (fun q _ c => o 5 q (by omega) c) (fun q _ c => o 6 q (by omega) c) hd0 hd1 hd4
  · rw [e 9 (by omega), hh 1 _ (by omega)]
    by_cases c : p = d
    · intro _ _
      rw [c]; exact htab
    · rw [o 0 p (by omega) c]
      exact hT p hp
  · rw [e 9 (by omega)]
    exact Or.inl (hz p hp)
  · rw [hh 6 _ (by omega)]
    by_cases c : p = d
    · intro _
      rw [c]; exact Or.inl hd7
    · rw [o 0 p (by omega) c, o 7 p (by omega) c, o 8 p (by omega) c]
      exact mB.1 p hp
  · by_cases c : p = d
    · intro _ _ k
      rw [c] at k
      exact absurd hd7 k
    · rw [o 0 p (by omega) c, o 7 p (by omega) c, o 8 p (by omega) c]
      by_cases c' : p' = d
      · intro _ _ k1 k2
        rw [c', hd7] at k2
        exact absurd k2 k1
      · rw [o 0 p' (by omega) c', o 7 p' (by omega) c', o 8 p' (by omega) c']
        exact mB.2 p p' hp hp' hne
  · rw [e 9 (by omega)]; exact hz
/-! the capability at s moves to d -/
theorem Inv.move {S S' : xS} (h : Inv S) (hR : RgS S') {s d : Nat} (hs8 : s < 128) (hd8 : d < 128) (hl : 0 ≤ S 0 s) (hdead : S 0 d < 0) (htab : hd S 1 (16 * ((d : Int) / 16))) (e : ∀ j, 9 ≤ j → S' j = S j) (h0 : ∀ q, q < 128 → S' 0 q = if q = s then -1 else if q = d then S 0 s else S 0 q)
    (o : ∀ j q, 1 ≤ j → j < 9 → j ≠ 4 → q < 128 → S' j q = S j (mvB s d q)) (h4 : ∀ q, q < 128 → S' 4 q = if S 4 (if q = d then s else q) = (s : Int) then (d : Int) else S 4 (if q = d then s else q)) : Inv S' := by
  obtain ⟨⟨-, hA, hM, hT, hD, tA, tB, tC, tD, mA, mB, hB⟩, hz⟩ := h
  have hsd : s ≠ d := by intro c; rw [c] at hl; omega
  have lv : ∀ q, q < 128 → 0 ≤ S' 0 q → q ≠ s ∧ mvB s d q < 128 ∧ S' 0 q = S 0 (mvB s d q) := by
    intro q hq g
    have e := h0 q hq
    by_cases c : q = s
    · rw [if_pos c] at e
      omega
    · rw [if_neg c] at e
      refine ⟨c, ?_, ?_⟩
      · unfold mvB; split <;> omega
      · rw [e]
        unfold mvB
        split <;> rfl
  have inj : ∀ q q', q ≠ s → q' ≠ s → q ≠ q' → mvB s d q ≠ mvB s d q' := by
    intro q q' a b c
    unfold mvB
    split <;> split <;> omega
  have hh : ∀ k u, 1 ≤ k → (hd S' k u ↔ hd S k u) := by
    intro k u hk
    refine ⟨?_, ?_⟩
    · rintro ⟨p, p1, p2, p3⟩
      obtain ⟨g1, g2, g3⟩ := lv p p1 (by omega)
      exact ⟨mvB s d p, g2, by rw [← g3]; exact p2, by rw [← o 1 p (by omega) (by omega) (by omega) p1]; exact p3⟩
    · rintro ⟨p, p1, p2, p3⟩
      by_cases c : p = s
      · refine ⟨d, hd8, by rw [h0 d hd8, if_neg (by omega), if_pos rfl, ← c]; exact p2, ?_⟩
        rw [o 1 d (by omega) (by omega) (by omega) hd8]
        unfold mvB
        rw [if_pos rfl, ← c]; exact p3
      · have cd : p ≠ d := by intro c; rw [c] at p2; omega
        refine ⟨p, p1, by rw [h0 p p1, if_neg c, if_neg cd]; exact p2, ?_⟩
        rw [o 1 p (by omega) (by omega) (by omega) p1]
        unfold mvB
        rw [if_neg cd]; exact p3
  have bB : ∀ q, q < 128 → mvB s d q < 128 := by
    intro q hq
    unfold mvB
    split <;> omega
  refine ⟨⟨hR, fun p hp => ?_, ?_, fun p hp => ?_, fun p hp => ?_, tA.ch hh (e 10 (by omega)) (e 11 (by omega)), tB.ch hh (e 10 (by omega)) (e 11 (by omega)) (e 12 (by omega)) (e 13 (by omega)) (e 14 (by omega)) (e 19 (by omega)), tC.cg (e 10 (by omega)) (e 18 (by omega)) (e 28 (by omega)), tD.cg (e 10 (by omega)) (e 19 (by omega)), mA.ch hh (e 25 (by omega)) (e 26 (by omega)), ⟨fun p hp => ?_, fun p p' hp hp' hne => ?_⟩, hB.ch hh (e 24 (by omega)) (e 27 (by omega))⟩, ?_⟩
  · have k := hA (mvB s d p) (bB p hp)
    refine ⟨?_, fun g => ?_⟩
    · rw [o 1 p (by omega) (by omega) (by omega) hp, h0 p hp]
      have k2 := (hA p hp).1
      have k3 := (hA s hs8).1
      refine ⟨?_, ?_, k.1.2.2.1, k.1.2.2.2⟩
      · split
        · omega
        · split <;> omega
      · split
        · omega
        · split <;> omega
    · obtain ⟨g1, g2, g3⟩ := lv p hp g
      have esz : szS S' p = szS S (mvB s d p) := by
        unfold szS
        rw [g3, o 5 p (by omega) (by omega) (by omega) hp]
      rw [esz, g3, o 1 p (by omega) (by omega) (by omega) hp, o 2 p (by omega) (by omega) (by omega) hp, o 3 p (by omega) (by omega) (by omega) hp, o 5 p (by omega) (by omega) (by omega) hp, o 6 p (by omega) (by omega) (by omega) hp]
      exact k.2 (by rw [← g3]; exact g)
  · exact hM.mv hs8 hd8 hl hdead h0 (fun q hq _ => o 1 q (by omega) (by omega) (by omega) hq) (fun q hq _ => o 5 q (by omega) (by omega) (by omega) hq) (fun q hq _ => o 6 q (by omega) (by omega) (by omega) hq) h4
  · rw [e 9 (by omega), hh 1 _ (by omega)]
    intro g gz
    obtain ⟨g1, g2, g3⟩ := lv p hp g
    by_cases c : p = d
    · rw [c]; exact htab
    · refine hT p hp ?_ gz
      rw [g3] at g
      unfold mvB at g
      rw [if_neg c] at g
      exact g
  · rw [e 9 (by omega)]
    exact Or.inl (hz p hp)
  · rw [hh 6 _ (by omega)]
    intro g
    obtain ⟨g1, g2, g3⟩ := lv p hp g
    rw [o 7 p (by omega) (by omega) (by omega) hp, o 8 p (by omega) (by omega) (by omega) hp, g3]
    exact mB.1 _ g2 (by rw [← g3]; exact g)
  · intro g g'
    obtain ⟨g1, g2, g3⟩ := lv p hp g
    obtain ⟨g1', g2', g3'⟩ := lv p' hp' g'
    rw [o 7 p (by omega) (by omega) (by omega) hp, o 8 p (by omega) (by omega) (by omega) hp, o 7 p' (by omega) (by omega) (by omega) hp', o 8 p' (by omega) (by omega) (by omega) hp']
    exact mB.2 _ _ g2 g2' (inj p p' g1 g1' hne) (by rw [← g3]; exact g) (by rw [← g3']; exact g')
  · rw [e 9 (by omega)]; exact hz
