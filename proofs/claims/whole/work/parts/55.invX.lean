theorem fill_o {S : xS} {s k u size from_ : Int} {j : Nat} (h : 9 ≤ j) : s_fill S s k u size from_ j = S j := by
  unfold s_fill
  rw [sset_o (by omega), sset_o (by omega), sset_o (by omega), sset_o (by omega), sset_o (by omega), sset_o (by omega), sset_o (by omega), sset_o (by omega), sset_o (by omega)]
theorem fill_i {S : xS} {s k u size from_ : Int} {j i : Nat} (h : i ≠ s.toNat) : s_fill S s k u size from_ j i = S j i := by
  unfold s_fill
  simp only [sset_at]
  simp [h]
theorem fill_d {S : xS} {s k u size from_ : Int} : s_fill S s k u size from_ 0 s.toNat = k ∧ s_fill S s k u size from_ 1 s.toNat = u ∧ s_fill S s k u size from_ 4 s.toNat = from_ ∧ s_fill S s k u size from_ 5 s.toNat = size ∧ s_fill S s k u size from_ 6 s.toNat = u ∧ s_fill S s k u size from_ 7 s.toNat = -1 := by
  unfold s_fill
  simp [sset_at]
