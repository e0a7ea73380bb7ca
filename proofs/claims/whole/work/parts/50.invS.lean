theorem having_th {S : xS} (h : Inv S) (hn : 0 ≤ s_now S) {a : Int} (hg : ¬ s_having S a 2 < 0) : (S 1 (s_having S a 2).toNat / 8).toNat < 16 ∧ S 10 (S 1 (s_having S a 2).toNat / 8).toNat ≠ 0 ∧ S 1 (s_having S a 2).toNat = 8 * ((S 1 (s_having S a 2).toNat / 8).toNat : Int) := by
  have hh := s_having_in h.gs.1 (by omega) a 2
  have hk := (hh.2.2 (by omega)).2 (by omega)
  have g := h.1.2.1 (s_having S a 2).toNat (by omega)
  have g2 := (g.2 (by omega)).1
  have e : szS S (s_having S a 2).toNat = 8 := by unfold szS s_size; rw [hk]; rfl
  rw [e] at g2
  have e8 : S 1 (s_having S a 2).toNat = 8 * ((S 1 (s_having S a 2).toNat / 8).toNat : Int) := by omega
  have t := (h.1.2.2.2.2.2.1 (S 1 (s_having S a 2).toNat / 8).toNat (by omega)).2.1.2
  refine ⟨by omega, t ?_, e8⟩
  rw [← e8]
  exact having_hd h hn (by omega) hg
theorem Inv.run {S : xS} (h : Inv S) (hC : S 28 0 < 2000000000) (t on : Int) : Inv (s_run S t on).2 := by
  have hn := s_now_in S
  unfold s_run
  split
  · exact h
  next c1 =>
    split
    · exact h
    next c2 =>
      obtain ⟨k1, k2, k3⟩ := having_th h (by omega) c2
      split
      · exact h.stop k1 k2
      · split
        · have r := h.ready hC k1 k2
          rw [show (((S 1 (s_having S t 2).toNat / 8).toNat : Nat) : Int) = S 1 (s_having S t 2).toNat / 8 by omega] at r
          exact r
        · exact h
