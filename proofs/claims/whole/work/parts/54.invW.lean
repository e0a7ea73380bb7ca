/-- the place that an address means lies in a table that is there -/
theorem find_tab {S : xS} (h : Inv S) {t : Nat} (ht : t < 16) (hl : S 10 t ≠ 0) {a : Int} (hf : ¬ s_find S t a < 0) : s_find S t a < 128 ∧ hd S 1 (16 * (((s_find S t a).toNat : Int) / 16)) := by
  have hA := h.1.2.1
  have hb := (s_find_in h.gs.1 ht a).2
  refine ⟨hb, ?_⟩
  have tb := (h.1.2.2.2.2.2.2.1 t ht hl).2.1
  unfold s_find at hf hb ⊢
  by_cases c1 : S 11 t = -1
  · rw [if_pos c1] at hf; omega
  rw [if_neg c1] at hf hb ⊢
  by_cases c2 : a < 0
  · rw [if_pos c2] at hf; omega
  rw [if_neg c2] at hf hb ⊢
  by_cases c3 : 271 < a
  · rw [if_pos c3] at hf; omega
  rw [if_neg c3] at hf hb ⊢
  have g := tb.resolve_left c1
  by_cases c4 : a < 16
  · rw [if_pos c4] at hf hb ⊢
    obtain ⟨p, p1, p2, p3⟩ := g
    have k := hA.tab p1 p2
    rw [p3] at k
    refine ⟨p, p1, p2, ?_⟩
    omega
  rw [if_neg c4] at hf hb ⊢
  by_cases c5 : S 0 (S 11 t + a / 16 - 1).toNat = 1
  · rw [if_pos c5] at hf hb ⊢
    have g2 := hA.hd g
    obtain ⟨p, p1, p2, p3⟩ := g
    have k := hA.tab p1 p2
    have k2 := hA.tab (p := (S 11 t + a / 16 - 1).toNat) (by omega) c5
    have k3 := (hA (S 11 t + a / 16 - 1).toNat (by omega)).1
    refine ⟨(S 11 t + a / 16 - 1).toNat, by omega, c5, ?_⟩
    omega
  · rw [if_neg c5] at hf; omega
