theorem init_0 (p : Nat) (hp : p < 128) (h4 : 4 ≤ p) : s_init 0 p = -1 ∧ s_init 1 p = 0 ∧ s_init 4 p = 0 := by
  have a0 : p ≠ 0 := by omega
  have a1 : p ≠ 1 := by omega
  have a2 : p ≠ 2 := by omega
  have a3 : p ≠ 3 := by omega
  unfold s_init s_ready s_begin s_i1 s_fill s_i0 s_zero
  simp [sset_at, mapA_at, a0, a1, a2, a3, hp]
theorem init_9 (p : Nat) : s_init 9 p = 0 := by
  unfold s_init s_ready s_begin s_i1 s_fill s_i0 s_zero
  simp [sset_at, mapA_at]
theorem init_10 (t : Nat) : s_init 10 t = if t = 2 then 2 else 0 := by
  unfold s_init s_ready s_begin s_i1 s_fill s_i0 s_zero
  simp [sset_at, mapA_at]
  split <;> rfl
theorem init_11 (t : Nat) : s_init 11 t = 0 := by
  unfold s_init s_ready s_begin s_i1 s_fill s_i0 s_zero
  simp [sset_at, mapA_at]
theorem init_24 (t : Nat) : s_init 24 t = 0 := by
  unfold s_init s_ready s_begin s_i1 s_fill s_i0 s_zero
  simp [sset_at, mapA_at]
theorem init_27 (t : Nat) (ht : t < 4) : s_init 27 t = -1 := by
  unfold s_init s_ready s_begin s_i1 s_fill s_i0 s_zero
  simp [sset_at, mapA_at, ht]
theorem init_lv {p : Nat} (hp : p < 128) (hl : 0 ≤ s_init 0 p) : (p = 0 ∧ s_init 0 p = 1 ∧ s_init 1 p = 0) ∨ (p = 1 ∧ s_init 0 p = 2 ∧ s_init 1 p = 16) ∨ (p = 2 ∧ s_init 0 p = 0 ∧ s_init 1 p = 32) ∨ (p = 3 ∧ s_init 0 p = 0 ∧ s_init 1 p = 64) := by
  by_cases c : 4 ≤ p
  · have := (init_0 p hp c).1
    omega
  · rcases (by omega : p = 0 ∨ p = 1 ∨ p = 2 ∨ p = 3) with rfl | rfl | rfl | rfl <;> simp <;> exact ⟨rfl, rfl⟩
theorem init_sz : szS s_init 0 = 16 ∧ szS s_init 1 = 8 ∧ szS s_init 2 = 32 ∧ szS s_init 3 = 64 := ⟨rfl, rfl, rfl, rfl⟩
theorem init_hd {k u : Int} (hk : 1 ≤ k) : hd s_init k u ↔ (k = 1 ∧ u = 0) ∨ (k = 2 ∧ u = 16) := by
  constructor
  · rintro ⟨p, p1, p2, p3⟩
    rcases init_lv p1 (by omega) with g | g | g | g <;> omega
  · rintro (⟨rfl, rfl⟩ | ⟨rfl, rfl⟩)
    · exact ⟨0, by omega, rfl, rfl⟩
    · exact ⟨1, by omega, rfl, rfl⟩
theorem RgS.init : RgS s_init := by
  have x7 : ∀ v : Int, 0 ≤ v ∧ v ≤ 128 → x_r v := fun v hv => ⟨by omega, by omega⟩
  unfold s_init
  refine RgS.ready ((RgS.begin ?_ 2 16).set x_r_0 |>.set (x7 _ (by omega))) ?_ 2
  · unfold s_i1
    refine (((RgS.fill ?_ (x7 _ (by omega)) x_r_0 x_r_0 x_r_m1).fill (x7 _ (by omega)) (x7 _ (by omega)) x_r_0 x_r_m1).fill x_r_0 (x7 _ (by omega)) (x7 _ (by omega)) x_r_m1).fill x_r_0 (x7 _ (by omega)) (x7 _ (by omega)) x_r_m1
    unfold s_i0
    exact (RgS.zero.map (fun _ _ => x_r_m1)).map (fun _ _ => x_r_m1)
  · exact ⟨by decide, by decide⟩
theorem Inv.init : Inv s_init := by
  have p4 : ∀ q, q < 128 → 0 ≤ s_init 0 q → s_init 4 q = -1 := by
    intro q hq g
    rcases init_lv hq g with g | g | g | g <;> rw [g.1] <;> rfl
  have na : ∀ p q, Anc s_init p q → False := by
    intro p q g
    have k := g.lv
    have k4 := p4 q k.1 k.2
    rcases g.last with e | ⟨m, -, e⟩ <;> omega
  have i2 : s_init 11 2 = 0 ∧ s_init 12 2 = -1 ∧ s_init 13 2 = 3 ∧ s_init 14 2 = 3 ∧ s_init 18 2 = 1 ∧ s_init 28 0 = 1 := ⟨rfl, rfl, rfl, rfl, rfl, rfl⟩
  refine ⟨⟨RgS.init, fun p hp => ⟨?_, fun hl => ?_⟩, ⟨⟨id, fun q hq => ?_⟩, fun p q g => (na p q g).elim, fun p q hp hq hne hl hl' ho => ?_⟩, fun p hp hl _ => ?_, fun p hp => Or.inl (init_9 p), fun t ht => ?_, fun t ht => ?_, ⟨?_, fun t ht g => ?_, fun t t' ht ht' hne g g' => ?_⟩, fun t t' ht ht' g g' => ?_, ⟨fun l hl g => ?_, fun l l' hl hl' hne g => ?_⟩, ⟨fun p hp hl => ?_, fun p p' hp hp' hne hl hl' g => ?_⟩, ⟨fun q hq => ?_, fun q hq => Or.inl (init_27 q hq)⟩⟩, fun p hp => init_9 p⟩
  · by_cases c : 4 ≤ p
    · have := init_0 p hp c
      omega
    · have : 0 ≤ s_init 0 p := by
        rcases (by omega : p = 0 ∨ p = 1 ∨ p = 2 ∨ p = 3) with rfl | rfl | rfl | rfl <;> decide
      rcases init_lv hp this with g | g | g | g <;> omega
  · rcases init_lv hp hl with g | g | g | g <;> rw [g.1] <;> decide
  · by_cases c : 4 ≤ q
    · have e := (init_0 q hq c).2.2
      right
      rw [e]
      refine ⟨by omega, by omega, by decide, ?_⟩
      show 0 < q
      omega
    · left
      rcases (by omega : q = 0 ∨ q = 1 ∨ q = 2 ∨ q = 3) with rfl | rfl | rfl | rfl <;> rfl
  · exfalso
    obtain ⟨z0, z1, z2, z3⟩ := init_sz
    unfold ovl at ho
    rcases init_lv hp hl with g | g | g | g <;> rcases init_lv hq hl' with g' | g' | g' | g' <;> obtain ⟨g1, g2, g3⟩ := g <;> obtain ⟨g1', g2', g3'⟩ := g' <;> subst g1 <;> subst g1' <;> first | omega | (simp only [z0, z1, z2, z3] at ho; omega)
  · rw [init_hd (by omega)]
    left
    rcases init_lv hp hl with g | g | g | g <;> omega
  · rw [init_10, init_11, init_hd (by omega)]
    refine ⟨?_, ?_, Or.inr (by omega)⟩
    · split <;> omega
    · split <;> omega
  · rw [init_10]
    intro g
    have e : t = 2 := by
      split at g
      · assumption
      · exact absurd rfl g
    rw [e, i2.1, i2.2.1, i2.2.2.1, i2.2.2.2.1]
    exact ⟨by omega, Or.inr ((init_hd (by omega)).2 (Or.inl ⟨rfl, rfl⟩)), Or.inl rfl, fun k => by simp at k, fun k => by simp at k, fun _ => by omega⟩
  · decide
  · rw [init_10] at g
    have e : t = 2 := by
      split at g
      · assumption
      · omega
    rw [e, i2.2.2.2.2.1, i2.2.2.2.2.2]
    omega
  · rw [init_10] at g g'
    exfalso
    split at g
    · split at g'
      · omega
      · omega
    · omega
  · rw [init_10] at g
    split at g <;> omega
  · rw [init_hd (by omega)] at g
    omega
  · rw [init_hd (by omega)] at g
    omega
  · left
    rcases init_lv hp hl with g | g | g | g <;> rw [g.1] <;> rfl
  · exfalso
    apply g
    rcases init_lv hp hl with g | g | g | g <;> rw [g.1] <;> rfl
  · rw [init_24]
    omega
