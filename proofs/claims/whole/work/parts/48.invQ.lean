theorem s_or_in {a b : Int} (ha : 0 ≤ a ∧ a < 512) (hb : 0 ≤ b ∧ b < 512) : 0 ≤ s_or a b ∧ s_or a b < 512 := by
  unfold s_or
  have := Nat.or_lt_two_pow (x := a.toNat) (y := b.toNat) (n := 9) (by omega) (by omega)
  omega
theorem Inv.ring {S : xS} (h : Inv S) (hC : S 28 0 < 2000000000) {u n : Int} (hu : 0 ≤ u ∧ u < 128) (hn : 0 ≤ n ∧ n < 512) : Inv (s_ring S u n) := by
  have hB := h.1.2.2.2.2.2.2.2.2.2.2.2
  unfold s_ring
  split
  · exact h.bell (s_or_in (hB.1 _ (by omega)) hn)
  next c =>
    have k := firstL_is (S := S) (how := 5) (u := u) 16 (by unfold s_first at c; omega)
    have hs : s_first S 5 u = ((s_first S 5 u).toNat : Nat) := by omega
    have h2 : Inv (s_hears S (s_first S 5 u) n) := h.hears ⟨by omega, by omega⟩
    have e10 : s_hears S (s_first S 5 u) n 10 = S 10 := by
      unfold s_hears
      rw [sset_o (by omega), sset_o (by omega), sset_o (by omega)]
    have e28 : s_hears S (s_first S 5 u) n 28 = S 28 := by
      unfold s_hears
      rw [sset_o (by omega), sset_o (by omega), sset_o (by omega)]
    have k1 : (s_first S 5 u).toNat < 16 := k.1
    have k2 : S 10 (s_first S 5 u).toNat = 5 := k.2.1
    have r := h2.ready (by rw [e28]; exact hC) (t := (s_first S 5 u).toNat) k1 (by rw [e10, k2]; omega)
    rw [← hs] at r
    exact r
