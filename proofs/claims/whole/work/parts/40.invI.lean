/-! the capability at s goes: the slots' side -/
section RM
variable {S : xS} {s : Nat}
theorem rmA_o {j : Nat} (h0 : j ≠ 0) (h4 : j ≠ 4) (h9 : j ≠ 9) : s_rmA S s j = S j := by
  unfold s_rmA
  rw [mapA_o h4, sset_o h0, sset_o h9]
theorem rmA_0 (i : Nat) : s_rmA S s 0 i = if i = s then -1 else S 0 i := by
  rw [s_rmA_0, Int.toNat_natCast]
theorem rmA_4 {i : Nat} (hi : i < 128) : s_rmA S s 4 i = if S 4 i = (s : Int) then S 4 s else S 4 i := by
  rw [s_rmA_4 S s hi, Int.toNat_natCast]
theorem rmA_9 (i : Nat) : s_rmA S s 9 i = if i = s then 0 else S 9 i := by
  unfold s_rmA
  rw [mapA_o (by omega), sset_o (by omega)]
  simp [sset_at]
theorem TrS.rmA (hT : TrS S) (hs : s < 128) : TrS (s_rmA S s) := by
  have hne := hT.ne (s := (s : Int)) (by omega) (by omega)
  rw [Int.toNat_natCast] at hne
  obtain ⟨rho, h⟩ := hT
  refine ⟨rho, fun q hq => ?_⟩
  rw [rmA_4 hq]
  have h1 := h s hs
  have hq4 := h q hq
  split
  next c =>
    rcases h1 with g | ⟨g1, g2, g3, g4⟩
    · exact Or.inl g
    · rcases hq4 with f | ⟨f1, f2, f3, f4⟩
      · omega
      · rw [c, Int.toNat_natCast] at f4
        refine Or.inr ⟨g1, g2, ?_, by omega⟩
        rw [rmA_0, if_neg (by omega)]
        exact g3
  next c =>
    rcases hq4 with f | ⟨f1, f2, f3, f4⟩
    · exact Or.inl f
    · refine Or.inr ⟨f1, f2, ?_, f4⟩
      rw [rmA_0, if_neg (by omega)]
      exact f3
/-- without the one at s: what is kept whatever becomes of the thing -/
theorem rmA_slots (hs : s < 128) (hl : 0 ≤ S 0 s) (hA : CapA S) (hM : CapM S) (hD : DooI S) : CapA (s_rmA S s) ∧ CapM (s_rmA S s) ∧ DooI (s_rmA S s) := by
  have o := fun j h0 h4 h9 => rmA_o (S := S) (s := s) (j := j) h0 h4 h9
  refine ⟨fun p hp => ?_, ?_, fun p hp => ?_⟩
  · have g := hA p hp
    have esz : szS (s_rmA S s) p = s_size (s_rmA S s 0 p) (S 5 p) := by
      unfold szS
      rw [o 5 (by omega) (by omega) (by omega)]
    rw [esz, o 1 (by omega) (by omega) (by omega), o 2 (by omega) (by omega) (by omega), o 3 (by omega) (by omega) (by omega), o 5 (by omega) (by omega) (by omega), o 6 (by omega) (by omega) (by omega), rmA_0]
    by_cases c : p = s
    · rw [if_pos c]
      exact ⟨⟨by omega, by omega, g.1.2.2.1, g.1.2.2.2⟩, fun k => by omega⟩
    · rw [if_neg c]
      exact g
  · exact hM.rm hs hl (fun q _ => rmA_0 q) (fun q _ => by rw [o 1 (by omega) (by omega) (by omega)]) (fun q _ => by rw [o 5 (by omega) (by omega) (by omega)]) (fun q _ => by rw [o 6 (by omega) (by omega) (by omega)]) (fun q hq => rmA_4 hq) (hM.1.rmA hs)
  · rw [rmA_9, rmA_0]
    by_cases c : p = s
    · rw [if_pos c]; exact Or.inl rfl
    · rw [if_neg c, if_neg c]
      exact hD p hp
/-- what is there afterwards was there, and all but the last of its kind stays -/
theorem rmA_hd {k u : Int} (hk : 1 ≤ k) : hd (s_rmA S s) k u → hd S k u := by
  rintro ⟨p, p1, p2, p3⟩
  rw [rmA_0] at p2
  rw [rmA_o (by omega) (by omega) (by omega)] at p3
  split at p2
  · omega
  · exact ⟨p, p1, p2, p3⟩
theorem rmA_hd2 {k u : Int} (h : hd S k u) (hn : ¬ (k = S 0 s ∧ u = S 1 s)) : hd (s_rmA S s) k u := by
  obtain ⟨p, p1, p2, p3⟩ := h
  have c : p ≠ s := by
    intro c
    rw [c] at p2 p3
    exact hn ⟨p2.symm, p3.symm⟩
  exact ⟨p, p1, by rw [rmA_0, if_neg c]; exact p2, by rw [rmA_o (by omega) (by omega) (by omega)]; exact p3⟩
end RM
/-- the same things are there: another capability for it is left, or it was untyped memory -/
theorem InvW.rmA {S : xS} {s : Nat} (h : InvW S) (hs : s < 128) (hl : 0 ≤ S 0 s) (hx : S 0 s = 0 ∨ hd (s_rmA S s) (S 0 s) (S 1 s)) : InvW (s_rmA S s) := by
  obtain ⟨hR, hA, hM, hT, hD, tA, tB, tC, tD, mA, mB, hB⟩ := h
  obtain ⟨a1, a2, a3⟩ := rmA_slots hs hl hA hM hD
  have o := fun j h0 h4 h9 => rmA_o (S := S) (s := s) (j := j) h0 h4 h9
  have hh : ∀ k u, 1 ≤ k → (hd (s_rmA S s) k u ↔ hd S k u) := by
    intro k u hk
    refine ⟨rmA_hd hk, fun g => ?_⟩
    by_cases c : k = S 0 s ∧ u = S 1 s
    · rcases hx with x | x
      · omega
      · rw [c.1, c.2]; exact x
    · exact rmA_hd2 g c
  refine ⟨hR.rmA s, a1, a2, fun p hp => ?_, a3, tA.ch hh (o 10 (by omega) (by omega) (by omega)) (o 11 (by omega) (by omega) (by omega)), tB.ch hh (o 10 (by omega) (by omega) (by omega)) (o 11 (by omega) (by omega) (by omega)) (o 12 (by omega) (by omega) (by omega)) (o 13 (by omega) (by omega) (by omega)) (o 14 (by omega) (by omega) (by omega)) (o 19 (by omega) (by omega) (by omega)), tC.cg (o 10 (by omega) (by omega) (by omega)) (o 18 (by omega) (by omega) (by omega)) (o 28 (by omega) (by omega) (by omega)), tD.cg (o 10 (by omega) (by omega) (by omega)) (o 19 (by omega) (by omega) (by omega)), mA.ch hh (o 25 (by omega) (by omega) (by omega)) (o 26 (by omega) (by omega) (by omega)), ⟨fun p hp => ?_, fun p p' hp hp' hne => ?_⟩, hB.ch hh (o 24 (by omega) (by omega) (by omega)) (o 27 (by omega) (by omega) (by omega))⟩
  · rw [hh 1 _ (by omega), rmA_0, rmA_9]
    by_cases c : p = s
    · rw [if_pos c]; intro k; omega
    · rw [if_neg c, if_neg c]; exact hT p hp
  · rw [hh 6 _ (by omega), rmA_0, o 7 (by omega) (by omega) (by omega), o 8 (by omega) (by omega) (by omega)]
    by_cases c : p = s
    · rw [if_pos c]; intro k; omega
    · rw [if_neg c]; exact mB.1 p hp
  · rw [rmA_0, rmA_0, o 7 (by omega) (by omega) (by omega), o 8 (by omega) (by omega) (by omega)]
    intro g g'
    split at g
    · omega
    · split at g'
      · omega
      · exact mB.2 p p' hp hp' hne g g'
