theorem InvW.remove {S : xS} {s : Nat} (h : InvW S) (hs : s < 128) (hl : 0 ≤ S 0 s) : InvW (s_remove S s) := by
  have hR' := h.1.remove (s : Int)
  unfold s_remove at hR' ⊢
  rw [Int.toNat_natCast] at hR' ⊢
  by_cases c : S 0 s = 0
  · rw [if_pos c]
    exact h.rmA hs hl (Or.inl c)
  · rw [if_neg c] at hR' ⊢
    have e : 0 < s_holders (s_rmA S s) (S 0 s) (S 1 s) ↔ hd (s_rmA S s) (S 0 s) (S 1 s) := by
      unfold s_holders
      rw [if_neg c]
      exact s_hold_hd
    by_cases c2 : 0 < s_holders (s_rmA S s) (S 0 s) (S 1 s)
    · rw [if_pos c2]
      exact h.rmA hs hl (Or.inr (e.1 c2))
    · rw [if_neg c2] at hR' ⊢
      exact h.ds hs (by omega) (fun g => c2 (e.2 g)) hR'
theorem remove_0 {S : xS} {s : Nat} (i : Nat) : s_remove S s 0 i = if i = s then -1 else S 0 i := by
  rw [s_remove_at (by omega) (by omega) (by omega) (by omega) (by omega) (by omega) (by omega), rmA_0]
/-- how many slots hold something -/
def nlv (S : xS) (n : Nat) : Nat := (cntL (fun p => 0 ≤ S 0 p) n).toNat
theorem cntL_rm {S S' : xS} {s : Nat} (h0 : ∀ i, S' 0 i = if i = s then -1 else S 0 i) (hl : 0 ≤ S 0 s) : ∀ n, cntL (fun p => 0 ≤ S' 0 p) n = cntL (fun p => 0 ≤ S 0 p) n - (if s < n then 1 else 0) := by
  intro n
  induction n with
  | zero => unfold cntL; rw [if_neg (by omega)]; omega
  | succ n ih =>
    unfold cntL
    rw [ih, h0 n]
    by_cases c : n = s
    · have e : 0 ≤ S 0 n := by rw [c]; exact hl
      rw [if_pos c, if_neg (show ¬ (0 : Int) ≤ -1 by omega), if_pos e, if_neg (show ¬ s < n by omega), if_pos (show s < n + 1 by omega)]
      omega
    · rw [if_neg c]
      by_cases c2 : s < n
      · rw [if_pos c2, if_pos (show s < n + 1 by omega)]
        omega
      · rw [if_neg c2, if_neg (show ¬ s < n + 1 by omega)]
        omega
theorem swI_inv : ∀ (d s : Nat) (S : xS) (b : Int), s + d = 128 → InvW S → InvW (swI d s S b).1 ∧ ((swI d s S b).2 = b ∨ ((swI d s S b).2 = 1 ∧ cntL (fun p => 0 ≤ (swI d s S b).1 0 p) 128 < cntL (fun p => 0 ≤ S 0 p) 128)) ∧ cntL (fun p => 0 ≤ (swI d s S b).1 0 p) 128 ≤ cntL (fun p => 0 ≤ S 0 p) 128 := by
  intro d
  induction d with
  | zero =>
    intro s S b _ h
    exact ⟨h, Or.inl rfl, Int.le_refl _⟩
  | succ d ih =>
    intro s S b hs h
    unfold swI
    by_cases c : S 9 s = 0
    · rw [if_pos c]
      exact ih (s + 1) S b (by omega) h
    · rw [if_neg c]
      have hl : 0 ≤ S 0 s := by
        rcases h.2.2.2.2.1 s (by omega) with x | x
        · exact absurd x c
        · exact x.2
      have k := cntL_rm (S := S) (S' := s_remove S s) (s := s) (fun i => remove_0 i) hl 128
      rw [if_pos (show s < 128 by omega)] at k
      obtain ⟨i1, i2, i3⟩ := ih (s + 1) (s_remove S s) 1 (by omega) (h.remove (by omega) hl)
      refine ⟨i1, Or.inr ⟨?_, by omega⟩, by omega⟩
      rcases i2 with x | x
      · exact x
      · exact x.1
