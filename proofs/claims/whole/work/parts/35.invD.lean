/-! steps that touch threads only -/
theorem Inv.th {S S' : xS} (h : Inv S) (hR : RgS S') (e : ∀ j, (j < 10 ∨ (24 ≤ j ∧ j < 28)) → S' j = S j) (tA : ThA S') (tB : ThB S') (tC : ThC S') (tD : ThD S') : Inv S' := by
  obtain ⟨⟨-, hA, hM, hT, hD, -, -, -, -, mA, mB, hB⟩, hz⟩ := h
  have q0 := e 0 (by omega)
  have q1 := e 1 (by omega)
  refine ⟨⟨hR, ?_, ?_, ?_, ?_, tA, tB, tC, tD, ?_, ?_, ?_⟩, ?_⟩
  · exact hA.cg q0 q1 (e 2 (by omega)) (e 3 (by omega)) (e 5 (by omega)) (e 6 (by omega))
  · exact hM.cg q0 q1 (e 4 (by omega)) (e 5 (by omega)) (e 6 (by omega))
  · exact hT.cg q0 q1 (e 9 (by omega))
  · exact hD.cg q0 (e 9 (by omega))
  · exact mA.cg q0 q1 (e 25 (by omega)) (e 26 (by omega))
  · exact mB.cg q0 q1 (e 7 (by omega)) (e 8 (by omega))
  · exact hB.cg q0 q1 (e 24 (by omega)) (e 27 (by omega))
  · rw [e 9 (by omega)]; exact hz
/-- words, badges, marks, addresses: nothing is asked of them -/
theorem Inv.scal {S : xS} (h : Inv S) {j i : Nat} {v : Int} (hj : (15 ≤ j ∧ j ≤ 17) ∨ (20 ≤ j ∧ j ≤ 23)) (hv : x_r v) : Inv (sset S j i v) := by
  have h' := h
  obtain ⟨⟨hR, hA, hM, hT, hD, tA, tB, tC, tD, mA, mB, hB⟩, hz⟩ := h'
  have e : ∀ j', j' ≠ j → sset S j i v j' = S j' := fun j' c => sset_o c
  refine h.th (hR.set hv) (fun j' c => e j' (by omega)) ?_ ?_ ?_ ?_
  · exact tA.cg (e 0 (by omega)) (e 1 (by omega)) (e 10 (by omega)) (e 11 (by omega))
  · exact tB.cg (e 0 (by omega)) (e 1 (by omega)) (e 10 (by omega)) (e 11 (by omega)) (e 12 (by omega)) (e 13 (by omega)) (e 14 (by omega)) (e 19 (by omega))
  · exact tC.cg (e 10 (by omega)) (e 18 (by omega)) (e 28 (by omega))
  · exact tD.cg (e 10 (by omega)) (e 19 (by omega))
/-- a thread is stopped -/
theorem Inv.stop {S : xS} (h : Inv S) {t : Nat} (ht : t < 16) (hl : S 10 t ≠ 0) : Inv (sset S 10 t 1) := by
  have h' := h
  obtain ⟨⟨hR, hA, hM, hT, hD, tA, tB, tC, tD, mA, mB, hB⟩, hz⟩ := h'
  have e : ∀ j', j' ≠ 10 → sset S 10 t 1 j' = S j' := fun j' c => sset_o c
  have hh := hd_cg (e 0 (by omega)) (e 1 (by omega))
  have e10 : ∀ i, sset S 10 t 1 10 i = if i = t then 1 else S 10 i := by
    intro i
    simp [sset_at]
  refine h.th (hR.set ⟨by omega, by omega⟩) (fun j' c => e j' (by omega)) (fun i hi => ?_) (fun i hi => ?_) ?_ ?_
  · have g := tA i hi
    rw [e10, hh, e 11 (by omega)]
    by_cases c : i = t
    · rw [if_pos c]
      exact ⟨by omega, ⟨fun _ => g.2.1.1 (c ▸ hl), fun _ => by omega⟩, g.2.2⟩
    · rw [if_neg c]; exact g
  · rw [e10, hh, e 11 (by omega), e 12 (by omega), e 13 (by omega), e 14 (by omega), e 19 (by omega)]
    intro gl
    by_cases c : i = t
    · have g := tB i hi (c ▸ hl)
      rw [if_pos c]
      exact ⟨g.1, g.2.1, g.2.2.1, fun k => by omega, fun k => by omega, fun k => by omega⟩
    · rw [if_neg c] at gl
      rw [if_neg c]
      exact tB i hi gl
  · obtain ⟨c0, c1, c2⟩ := tC
    have k : ∀ i, 2 ≤ sset S 10 t 1 10 i → 2 ≤ S 10 i := by
      intro i g
      rw [e10] at g
      split at g
      · omega
      · exact g
    unfold ThC
    rw [e 18 (by omega), e 28 (by omega)]
    exact ⟨c0, fun i hi g => c1 i hi (k i g), fun i i' hi hi' hne g g' => c2 i i' hi hi' hne (k i g) (k i' g')⟩
  · intro i i' hi hi' g g'
    rw [e 19 (by omega)]
    rw [e10] at g g'
    split at g
    · omega
    · split at g'
      · omega
      · exact tD i i' hi hi' g g'
/-- a thread begins to wait -/
theorem Inv.waits {S : xS} (h : Inv S) (hC : S 28 0 < 2000000000) {t : Nat} {how u a : Int} (ht : t < 16) (hl : S 10 t ≠ 0) (hu : x_r u) (ha : x_r a) (hw : (how = 3 ∧ hd S 3 u ∧ ∀ i, i < 16 → S 10 i = 4 → S 19 i ≠ u) ∨ (how = 4 ∧ hd S 3 u ∧ ∀ i, i < 16 → S 10 i = 3 → S 19 i ≠ u) ∨ (how = 5 ∧ hd S 4 u)) : Inv (s_waits S t how u a) := by
  have h' := h
  obtain ⟨⟨hR, hA, hM, hT, hD, tA, tB, tC, tD, mA, mB, hB⟩, hz⟩ := h'
  have e : ∀ j, j ≠ 10 → j ≠ 19 → j ≠ 20 → j ≠ 28 → j ≠ 18 → s_waits S t how u a j = S j := by
    intro j a1 a2 a3 a4 a5
    unfold s_waits
    rw [sset_o a5, sset_o a4, sset_o a3, sset_o a2, sset_o a1]
  have e10 : ∀ i, s_waits S t how u a 10 i = if i = t then how else S 10 i := by
    intro i
    unfold s_waits
    simp [sset_at]
  have e19 : ∀ i, s_waits S t how u a 19 i = if i = t then u else S 19 i := by
    intro i
    unfold s_waits
    simp [sset_at]
  have e18 : ∀ i, s_waits S t how u a 18 i = if i = t then S 28 0 + 1 else S 18 i := by
    intro i
    unfold s_waits
    simp [sset_at]
  have e28 : s_waits S t how u a 28 0 = S 28 0 + 1 := by
    unfold s_waits
    simp [sset_at]
  have hw1 : 3 ≤ how ∧ how ≤ 5 := by omega
  have hh := hd_cg (e 0 (by omega) (by omega) (by omega) (by omega) (by omega)) (e 1 (by omega) (by omega) (by omega) (by omega) (by omega))
  refine h.th (hR.waits ⟨tC.1, hC⟩ ⟨by omega, by omega⟩ hu ha) (fun j' c => e j' (by omega) (by omega) (by omega) (by omega) (by omega)) (fun i hi => ?_) (fun i hi => ?_) ?_ ?_
  · have g := tA i hi
    rw [e10, hh, e 11 (by omega) (by omega) (by omega) (by omega) (by omega)]
    by_cases c : i = t
    · rw [if_pos c]
      exact ⟨by omega, ⟨fun _ => g.2.1.1 (c ▸ hl), fun _ => by omega⟩, g.2.2⟩
    · rw [if_neg c]; exact g
  · rw [e10, hh, e 11 (by omega) (by omega) (by omega) (by omega) (by omega), e 12 (by omega) (by omega) (by omega) (by omega) (by omega), e 13 (by omega) (by omega) (by omega) (by omega) (by omega), e 14 (by omega) (by omega) (by omega) (by omega) (by omega), e19]
    intro gl
    by_cases c : i = t
    · have g := tB i hi (c ▸ hl)
      rw [if_pos c, if_pos c]
      refine ⟨g.1, g.2.1, g.2.2.1, fun k => ?_, fun k => ?_, fun k => by omega⟩
      · rcases hw with w | w | w
        · exact w.2.1
        · exact w.2.1
        · omega
      · rcases hw with w | w | w
        · omega
        · omega
        · exact w.2
    · rw [if_neg c] at gl
      rw [if_neg c, if_neg c]
      exact tB i hi gl
  · obtain ⟨c0, c1, c2⟩ := tC
    refine ⟨by rw [e28]; omega, fun i hi g => ?_, fun i i' hi hi' hne g g' => ?_⟩
    · rw [e18, e28]
      rw [e10] at g
      by_cases c : i = t
      · rw [if_pos c]; exact Int.le_refl _
      · rw [if_neg c] at g ⊢
        have := c1 i hi g
        omega
    · rw [e18, e18]
      rw [e10] at g g'
      by_cases c : i = t
      · have c' : i' ≠ t := by omega
        rw [if_neg c'] at g'
        rw [if_pos c, if_neg c']
        have := c1 i' hi' g'
        omega
      · rw [if_neg c] at g ⊢
        by_cases c' : i' = t
        · rw [if_pos c']
          have := c1 i hi g
          omega
        · rw [if_neg c'] at g' ⊢
          exact c2 i i' hi hi' hne g g'
  · intro i i' hi hi' g g'
    rw [e10] at g g'
    rw [e19, e19]
    by_cases c : i = t
    · rw [if_pos c] at g
      have c' : i' ≠ t := by
        intro c'
        rw [if_pos c'] at g'
        omega
      rw [if_neg c'] at g'
      rw [if_pos c, if_neg c']
      rcases hw with w | w | w
      · exact fun k => w.2.2 i' hi' g' k.symm
      · omega
      · omega
    · rw [if_neg c] at g
      rw [if_neg c]
      by_cases c' : i' = t
      · rw [if_pos c'] at g'
        rw [if_pos c']
        rcases hw with w | w | w
        · omega
        · exact w.2.2 i hi g
        · omega
      · rw [if_neg c'] at g'
        rw [if_neg c']
        exact tD i i' hi hi' g g'
