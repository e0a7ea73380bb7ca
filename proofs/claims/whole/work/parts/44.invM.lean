theorem swI_1 : ∀ (d s : Nat) (S : xS), (swI d s S 1).2 = 1 := by
  intro d
  induction d with
  | zero => intro s S; rfl
  | succ d ih =>
    intro s S
    unfold swI
    split
    · exact ih _ _
    · exact ih _ _
theorem swI_0 : ∀ (d s : Nat) (S : xS), (swI d s S 0).2 = 0 → (swI d s S 0).1 = S ∧ ∀ i, s ≤ i → i < s + d → S 9 i = 0 := by
  intro d
  induction d with
  | zero => intro s S _; exact ⟨rfl, fun i h1 h2 => by omega⟩
  | succ d ih =>
    intro s S h
    unfold swI at h ⊢
    by_cases c : S 9 s = 0
    · rw [if_pos c] at h ⊢
      obtain ⟨i1, i2⟩ := ih (s + 1) S h
      refine ⟨i1, fun i h1 h2 => ?_⟩
      by_cases k : i = s
      · rw [k]; exact c
      · exact i2 i (by omega) (by omega)
    · rw [if_neg c, swI_1] at h
      omega
theorem swO_0 (n : Nat) (S : xS) : swO n S 0 = S := by
  cases n with
  | zero => rfl
  | succ n => unfold swO; rw [if_pos rfl]
/-- enough rounds: nothing marked is left -/
theorem swO_inv : ∀ (n : Nat) (S : xS), cntL (fun p => 0 ≤ S 0 p) 128 < n → InvW S → Inv (swO n S 1) := by
  intro n
  induction n with
  | zero =>
    intro S h _
    have := cntL_in (fun p => 0 ≤ S 0 p) 128
    omega
  | succ n ih =>
    intro S h hI
    unfold swO
    rw [if_neg (by omega)]
    obtain ⟨i1, i2, i3⟩ := swI_inv 128 0 S 0 rfl hI
    rcases i2 with x | ⟨x, y⟩
    · obtain ⟨j1, j2⟩ := swI_0 128 0 S x
      rw [x, swO_0, j1]
      exact ⟨hI, fun p hp => j2 p (by omega) (by omega)⟩
    · rw [x]
      exact ih _ (by omega) i1
theorem swO_eq : ∀ (n m : Nat) (S : xS), cntL (fun p => 0 ≤ S 0 p) 128 < n → cntL (fun p => 0 ≤ S 0 p) 128 < m → InvW S → swO n S 1 = swO m S 1 := by
  intro n
  induction n with
  | zero =>
    intro m S h _ _
    have := cntL_in (fun p => 0 ≤ S 0 p) 128
    omega
  | succ n ih =>
    intro m S h h2 hI
    cases m with
    | zero =>
      have := cntL_in (fun p => 0 ≤ S 0 p) 128
      omega
    | succ m =>
      unfold swO
      rw [if_neg (by omega), if_neg (by omega)]
      obtain ⟨i1, i2, i3⟩ := swI_inv 128 0 S 0 rfl hI
      rcases i2 with x | ⟨x, y⟩
      · rw [x, swO_0, swO_0]
      · rw [x]
        exact ih m _ (by omega) (by omega) i1
theorem InvW.sweep {S : xS} (h : InvW S) : Inv (s_sweep S) := by
  have := cntL_in (fun p => 0 ≤ S 0 p) 128
  exact swO_inv 1000 S (by omega) h
theorem sweep_129 {S : xS} (h : InvW S) : s_sweep S = swO 129 S 1 := by
  have := cntL_in (fun p => 0 ≤ S 0 p) 128
  exact swO_eq 1000 129 S (by omega) (by omega) h
