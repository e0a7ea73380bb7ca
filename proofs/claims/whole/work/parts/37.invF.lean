/-! spaces -/
theorem lfL_no {S : xS} {u e : Int} : ∀ (n q : Nat), lfL S u e n q < 0 → ∀ i, q ≤ i → i < q + n → ¬ (s_there S 6 (4 * (i : Int)) ∧ S 25 i = u ∧ S 26 i = e) := by
  intro n
  induction n with
  | zero => intro q _ i h1 h2; omega
  | succ n ih =>
    intro q h i h1 h2
    unfold lfL at h
    split at h
    · omega
    next c =>
      by_cases k : i = q
      · rw [k]; exact c
      · exact ih (q + 1) h i (by omega) (by omega)
theorem lfL_yes {S : xS} {u e : Int} : ∀ (n q : Nat), 0 ≤ lfL S u e n q → ∃ i : Nat, q ≤ i ∧ i < q + n ∧ lfL S u e n q = 4 * (i : Int) ∧ s_there S 6 (4 * (i : Int)) ∧ S 25 i = u ∧ S 26 i = e := by
  intro n
  induction n with
  | zero => intro q h; unfold lfL at h; omega
  | succ n ih =>
    intro q h
    unfold lfL at h ⊢
    split at h
    next c =>
      rw [if_pos c]
      exact ⟨q, by omega, by omega, rfl, c⟩
    next c =>
      rw [if_neg c]
      obtain ⟨i, h1, h2, h3⟩ := ih (q + 1) h
      exact ⟨i, by omega, by omega, h3⟩
theorem frL_no {S : xS} {l e : Int} : ∀ (n q : Nat), frL S l e n q < 0 → ∀ i, q ≤ i → i < q + n → ¬ (S 0 i = 7 ∧ S 7 i = l ∧ S 8 i = e) := by
  intro n
  induction n with
  | zero => intro q _ i h1 h2; omega
  | succ n ih =>
    intro q h i h1 h2
    unfold frL at h
    split at h
    · omega
    next c =>
      by_cases k : i = q
      · rw [k]; exact c
      · exact ih (q + 1) h i (by omega) (by omega)
theorem frL_yes {S : xS} {l e : Int} : ∀ (n q : Nat), 0 ≤ frL S l e n q → ∃ i : Nat, q ≤ i ∧ i < q + n ∧ frL S l e n q = (i : Int) ∧ S 0 i = 7 ∧ S 7 i = l ∧ S 8 i = e := by
  intro n
  induction n with
  | zero => intro q h; unfold frL at h; omega
  | succ n ih =>
    intro q h
    unfold frL at h ⊢
    split at h
    next c =>
      rw [if_pos c]
      exact ⟨q, by omega, by omega, rfl, c⟩
    next c =>
      rw [if_neg c]
      obtain ⟨i, h1, h2, h3⟩ := ih (q + 1) h
      exact ⟨i, by omega, by omega, h3⟩
theorem Inv.mp {S S' : xS} (h : Inv S) (hR : RgS S') (e : ∀ j, j ≠ 7 → j ≠ 8 → j ≠ 25 → j ≠ 26 → S' j = S j) (mA : MpA S') (mB : MpB S') : Inv S' := by
  obtain ⟨⟨-, hA, hM, hT, hD, tA, tB, tC, tD, -, -, hB⟩, hz⟩ := h
  have q : ∀ j, (j < 7 ∨ (9 ≤ j ∧ j < 25) ∨ j = 27 ∨ j = 28) → S' j = S j := fun j hj => e j (by omega) (by omega) (by omega) (by omega)
  refine ⟨⟨hR, ?_, ?_, ?_, ?_, ?_, ?_, ?_, ?_, mA, mB, ?_⟩, ?_⟩
  · exact hA.cg (q 0 (by omega)) (q 1 (by omega)) (q 2 (by omega)) (q 3 (by omega)) (q 5 (by omega)) (q 6 (by omega))
  · exact hM.cg (q 0 (by omega)) (q 1 (by omega)) (q 4 (by omega)) (q 5 (by omega)) (q 6 (by omega))
  · exact hT.cg (q 0 (by omega)) (q 1 (by omega)) (q 9 (by omega))
  · exact hD.cg (q 0 (by omega)) (q 9 (by omega))
  · exact tA.cg (q 0 (by omega)) (q 1 (by omega)) (q 10 (by omega)) (q 11 (by omega))
  · exact tB.cg (q 0 (by omega)) (q 1 (by omega)) (q 10 (by omega)) (q 11 (by omega)) (q 12 (by omega)) (q 13 (by omega)) (q 14 (by omega)) (q 19 (by omega))
  · exact tC.cg (q 10 (by omega)) (q 18 (by omega)) (q 28 (by omega))
  · exact tD.cg (q 10 (by omega)) (q 19 (by omega))
  · exact hB.cg (q 0 (by omega)) (q 1 (by omega)) (q 24 (by omega)) (q 27 (by omega))
  · rw [q 9 (by omega)]; exact hz
theorem Inv.mapL {S : xS} (h : Inv S) {l : Nat} {u e : Int} (hu : hd S 5 u) (he : 0 ≤ e ∧ e ≤ 3) (hno : ∀ i : Nat, i < 32 → ¬ (s_there S 6 (4 * (i : Int)) ∧ S 25 i = u ∧ S 26 i = e)) : Inv (sset (sset S 25 l u) 26 l e) := by
  have mA := h.1.2.2.2.2.2.2.2.2.2.1
  have mB := h.1.2.2.2.2.2.2.2.2.2.2.1
  have hA := h.1.2.1
  have hr := hA.hd hu
  generalize hS : sset (sset S 25 l u) 26 l e = S'
  have q : ∀ j, j ≠ 25 → j ≠ 26 → S' j = S j := by
    intro j a b
    rw [← hS, sset_o b, sset_o a]
  have e25 : ∀ i, S' 25 i = if i = l then u else S 25 i := by
    intro i
    rw [← hS]
    simp [sset_at]
  have e26 : ∀ i, S' 26 i = if i = l then e else S 26 i := by
    intro i
    rw [← hS]
    simp [sset_at]
  have hh := hd_cg (q 0 (by omega) (by omega)) (q 1 (by omega) (by omega))
  have no : ∀ i : Nat, i < 32 → hd S 6 (4 * (i : Int)) → S 25 i = u → S 26 i ≠ e := by
    intro i hi g1 g2 g3
    exact hno i hi ⟨(s_there_hd (by omega)).2 ⟨by omega, by omega, g1⟩, g2, g3⟩
  refine h.mp ?_ (fun j _ _ a b => q j a b) ⟨fun i hi => ?_, fun i i' hi hi' hne => ?_⟩ (mB.cg (q 0 (by omega) (by omega)) (q 1 (by omega) (by omega)) (q 7 (by omega) (by omega)) (q 8 (by omega) (by omega)))
  · rw [← hS]
    exact (h.1.1.set ⟨by omega, by omega⟩).set ⟨by omega, by omega⟩
  · rw [hh, e25, e26]
    intro g
    by_cases c : i = l
    · rw [if_pos c, if_pos c]
      exact Or.inr ⟨hu, he⟩
    · rw [if_neg c, if_neg c]
      exact mA.1 i hi g
  · rw [hh, e25, e26, e25, e26]
    intro g g' k1 k2
    by_cases c : i = l
    · have c' : i' ≠ l := by omega
      rw [if_pos c, if_neg c'] at k2
      rw [if_pos c, if_neg c']
      exact fun k => no i' hi' g' k2.symm k.symm
    · rw [if_neg c] at k1 k2 ⊢
      by_cases c' : i' = l
      · rw [if_pos c'] at k2 ⊢
        exact no i hi g k2
      · rw [if_neg c'] at k2 ⊢
        exact mA.2 i i' hi hi' hne g g' k1 k2
theorem Inv.unmL {S : xS} (h : Inv S) {l : Nat} : Inv (sset S 25 l (-1)) := by
  have mA := h.1.2.2.2.2.2.2.2.2.2.1
  have mB := h.1.2.2.2.2.2.2.2.2.2.2.1
  have q : ∀ j, j ≠ 25 → sset S 25 l (-1) j = S j := fun j a => sset_o a
  have e25 : ∀ i, sset S 25 l (-1) 25 i = if i = l then -1 else S 25 i := by
    intro i
    simp [sset_at]
  have hh := hd_cg (q 0 (by omega)) (q 1 (by omega))
  refine h.mp (h.1.1.set x_r_m1) (fun j _ _ a _ => q j a) ⟨fun i hi => ?_, fun i i' hi hi' hne => ?_⟩ (mB.cg (q 0 (by omega)) (q 1 (by omega)) (q 7 (by omega)) (q 8 (by omega)))
  · rw [hh, e25, q 26 (by omega)]
    intro g
    by_cases c : i = l
    · rw [if_pos c]; exact Or.inl rfl
    · rw [if_neg c]; exact mA.1 i hi g
  · rw [hh, e25, e25, q 26 (by omega)]
    intro g g' k1 k2
    by_cases c : i = l
    · rw [if_pos c] at k1; omega
    · rw [if_neg c] at k1 k2
      by_cases c' : i' = l
      · rw [if_pos c'] at k2; omega
      · rw [if_neg c'] at k2
        exact mA.2 i i' hi hi' hne g g' k1 k2
theorem Inv.mapF {S : xS} (h : Inv S) {l : Nat} {u e : Int} (hk : S 0 l = 7) (hu : hd S 6 u) (he : 0 ≤ e ∧ e ≤ 3) (hno : ∀ i : Nat, i < 128 → ¬ (S 0 i = 7 ∧ S 7 i = u ∧ S 8 i = e)) : Inv (sset (sset S 7 l u) 8 l e) := by
  have mA := h.1.2.2.2.2.2.2.2.2.2.1
  have mB := h.1.2.2.2.2.2.2.2.2.2.2.1
  have hA := h.1.2.1
  have hr := hA.hd hu
  generalize hS : sset (sset S 7 l u) 8 l e = S'
  have q : ∀ j, j ≠ 7 → j ≠ 8 → S' j = S j := by
    intro j a b
    rw [← hS, sset_o b, sset_o a]
  have e25 : ∀ i, S' 7 i = if i = l then u else S 7 i := by
    intro i
    rw [← hS]
    simp [sset_at]
  have e26 : ∀ i, S' 8 i = if i = l then e else S 8 i := by
    intro i
    rw [← hS]
    simp [sset_at]
  have hh := hd_cg (q 0 (by omega) (by omega)) (q 1 (by omega) (by omega))
  have no : ∀ i : Nat, i < 128 → 0 ≤ S 0 i → S 7 i = u → S 8 i ≠ e := by
    intro i hi g1 g2 g3
    rcases mB.1 i hi g1 with k | k
    · omega
    · exact hno i hi ⟨k.1, g2, g3⟩
  refine h.mp ?_ (fun j a b _ _ => q j a b) (mA.cg (q 0 (by omega) (by omega)) (q 1 (by omega) (by omega)) (q 25 (by omega) (by omega)) (q 26 (by omega) (by omega))) ⟨fun i hi => ?_, fun i i' hi hi' hne => ?_⟩
  · rw [← hS]
    exact (h.1.1.set ⟨by omega, by omega⟩).set ⟨by omega, by omega⟩
  · rw [hh, e25, e26, q 0 (by omega) (by omega)]
    intro g
    by_cases c : i = l
    · rw [if_pos c, if_pos c]
      exact Or.inr ⟨c ▸ hk, hu, he⟩
    · rw [if_neg c, if_neg c]
      exact mB.1 i hi g
  · rw [e25, e26, e25, e26, q 0 (by omega) (by omega)]
    intro g g' k1 k2
    by_cases c : i = l
    · have c' : i' ≠ l := by omega
      rw [if_pos c, if_neg c'] at k2
      rw [if_pos c, if_neg c']
      exact fun k => no i' hi' g' k2.symm k.symm
    · rw [if_neg c] at k1 k2 ⊢
      by_cases c' : i' = l
      · rw [if_pos c'] at k2 ⊢
        exact no i hi g k2
      · rw [if_neg c'] at k2 ⊢
        exact mB.2 i i' hi hi' hne g g' k1 k2
theorem Inv.unmF {S : xS} (h : Inv S) {l : Nat} : Inv (sset S 7 l (-1)) := by
  have mA := h.1.2.2.2.2.2.2.2.2.2.1
  have mB := h.1.2.2.2.2.2.2.2.2.2.2.1
  have q : ∀ j, j ≠ 7 → sset S 7 l (-1) j = S j := fun j a => sset_o a
  have e25 : ∀ i, sset S 7 l (-1) 7 i = if i = l then -1 else S 7 i := by
    intro i
    simp [sset_at]
  have hh := hd_cg (q 0 (by omega)) (q 1 (by omega))
  refine h.mp (h.1.1.set x_r_m1) (fun j a _ _ _ => q j a) (mA.cg (q 0 (by omega)) (q 1 (by omega)) (q 25 (by omega)) (q 26 (by omega))) ⟨fun i hi => ?_, fun i i' hi hi' hne => ?_⟩
  · rw [hh, e25, q 8 (by omega), q 0 (by omega)]
    intro g
    by_cases c : i = l
    · rw [if_pos c]; exact Or.inl rfl
    · rw [if_neg c]; exact mB.1 i hi g
  · rw [e25, e25, q 8 (by omega), q 0 (by omega)]
    intro g g' k1 k2
    by_cases c : i = l
    · rw [if_pos c] at k1; omega
    · rw [if_neg c] at k1 k2
      by_cases c' : i' = l
      · rw [if_pos c'] at k2; omega
      · rw [if_neg c'] at k2
        exact mB.2 i i' hi hi' hne g g' k1 k2
