theorem mv1_o {S : xS} {s d : Int} {j : Nat} (h : 9 ≤ j) : s_mv1 S s d j = S j := by
  unfold s_mv1
  rw [sset_o (by omega), sset_o (by omega), sset_o (by omega), sset_o (by omega), sset_o (by omega), sset_o (by omega), fill_o h]
theorem mv1_i {S : xS} {s d : Int} {j i : Nat} (h0 : j ≠ 0) (h : i ≠ d.toNat) : s_mv1 S s d j i = S j i := by
  unfold s_mv1
  rw [sset_o h0, sset_at, if_neg (fun x => h x.2), sset_at, if_neg (fun x => h x.2), sset_at, if_neg (fun x => h x.2), sset_at, if_neg (fun x => h x.2), sset_at, if_neg (fun x => h x.2), fill_i h]
theorem mv1_d {S : xS} {s d : Int} {j : Nat} (h0 : 1 ≤ j) (h : j < 9) : s_mv1 S s d j d.toNat = S j s.toNat := by
  unfold s_mv1 s_fill
  rcases (by omega : j = 1 ∨ j = 2 ∨ j = 3 ∨ j = 4 ∨ j = 5 ∨ j = 6 ∨ j = 7 ∨ j = 8) with rfl | rfl | rfl | rfl | rfl | rfl | rfl | rfl <;> simp [sset_at]
theorem mv1_0 {S : xS} {s d : Int} (i : Nat) : s_mv1 S s d 0 i = if i = s.toNat then -1 else if i = d.toNat then S 0 s.toNat else S 0 i := by
  unfold s_mv1 s_fill
  simp [sset_at]
