section XM
variable {P : xP}
set_option maxHeartbeats 4000000 in
set_option maxRecDepth 100000 in
theorem xI_mono {ins : Instr} {mi pc pc' : Nat} {lo lo' : List (Option Value)} {st st' : List Value} {w w' : xH} (h : xI P ins mi pc lo st w = some (pc', lo', st', w')) : x_sz w ≤ x_sz w' ∧ x_sl w ≤ x_sl w' := by
  have key : w' = w ∨ (∃ a k v, w' = x_put w a k v) ∨ ∃ t n F, w' = x_new w t n F := by
    unfold xI at h
    split at h
    all_goals (try simp only [x_ldi, x_lda, x_sti, x_sta, x_b2, x_d2, x_br, x_go] at h)
    all_goals (repeat' split at h)
    all_goals first
      | (cases h; done)
      | (simp only [Option.some.injEq, Prod.mk.injEq] at h
         obtain ⟨_, _, _, rfl⟩ := h
         first
          | exact Or.inl rfl
          | exact Or.inr (Or.inl ⟨_, _, _, rfl⟩)
          | exact Or.inr (Or.inr ⟨_, _, _, rfl⟩))
  rcases key with rfl | ⟨a, k, v, rfl⟩ | ⟨t, n, F, rfl⟩
  · exact ⟨Nat.le_refl _, Nat.le_refl _⟩
  · exact ⟨Nat.le_refl _, Nat.le_refl _⟩
  · rw [x_sz_new, x_sl_new]
    exact ⟨Nat.le_add_right _ _, Nat.le_add_right _ _⟩
theorem ex_succ {n mi pc : Nat} {lo : List (Option Value)} {st : List Value} {w : xH} {r : Option Value × xH} (h : ex P (n + 1) mi pc lo st w = some r) :
    ∃ ins, x_ct mi pc = some ins ∧ ((∃ v, x_ret ins mi st = some v ∧ r = (v, w)) ∨
      (x_ret ins mi st = none ∧ ∃ mj as rest v1 w1, x_inv ins mi st w = some (mj, as, rest) ∧ ex P n mj 0 (x_en mj as) [] w = some (v1, w1) ∧ ex P n mi (pc + 3) lo (v1.toList ++ rest) w1 = some r) ∨
      (x_ret ins mi st = none ∧ x_inv ins mi st w = none ∧ ∃ pc' lo' st' w', xI P ins mi pc lo st w = some (pc', lo', st', w') ∧ ex P n mi pc' lo' st' w' = some r)) := by
  unfold ex at h
  split at h
  next => cases h
  next ins hct =>
    refine ⟨ins, hct, ?_⟩
    split at h
    next v hv => exact Or.inl ⟨v, hv, (Option.some.inj h).symm⟩
    next hr =>
      split at h
      next mj as rest hi =>
        split at h
        next v1 w1 hc => exact Or.inr (Or.inl ⟨hr, mj, as, rest, v1, w1, hi, hc, h⟩)
        next => cases h
      next hi =>
        split at h
        next pc' lo' st' w' hx => exact Or.inr (Or.inr ⟨hr, hi, pc', lo', st', w', hx, h⟩)
        next => cases h
theorem ex_mono : ∀ (n : Nat) {mi pc : Nat} {lo : List (Option Value)} {st : List Value} {w w' : xH} {v : Option Value}, ex P n mi pc lo st w = some (v, w') → x_sz w ≤ x_sz w' ∧ x_sl w ≤ x_sl w' := by
  intro n
  induction n with
  | zero => intro mi pc lo st w w' v h; simp [ex] at h
  | succ n ih =>
    intro mi pc lo st w w' v h
    obtain ⟨ins, -, h1 | h1 | h1⟩ := ex_succ h
    · obtain ⟨v', -, e⟩ := h1
      cases e
      exact ⟨Nat.le_refl _, Nat.le_refl _⟩
    · obtain ⟨-, mj, as, rest, v1, w1, -, h2, h3⟩ := h1
      have a1 := ih h2
      have a2 := ih h3
      exact ⟨Nat.le_trans a1.1 a2.1, Nat.le_trans a1.2 a2.2⟩
    · obtain ⟨-, -, pc', lo', st', w1, h2, h3⟩ := h1
      have a1 := xI_mono h2
      have a2 := ih h3
      exact ⟨Nat.le_trans a1.1 a2.1, Nat.le_trans a1.2 a2.2⟩
end XM
