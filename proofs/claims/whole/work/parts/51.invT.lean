theorem now_is {S : xS} (hn : ¬ s_now S < 0) : (s_now S).toNat < 16 ∧ S 10 (s_now S).toNat = 2 := nowL_is 16 (by unfold s_now at hn; omega)
theorem Inv.tick {S : xS} (h : Inv S) (hC : S 28 0 < 2000000000) : Inv (s_tick S).2 := by
  have hn := s_now_in S
  unfold s_tick
  split
  · exact h
  next c1 =>
    obtain ⟨k1, k2⟩ := now_is c1
    have sl := (h.1.2.2.2.2.2.2.1 _ k1 (by omega)).2.2.2.2.2 k2
    split
    · have r := h.ready hC k1 (by omega)
      have e : s_ready (sset S 14 (s_now S).toNat (S 14 (s_now S).toNat - 1)) ((s_now S).toNat : Nat) = s_ready S ((s_now S).toNat : Nat) := ready_14 S _ _
      rw [← e, show (((s_now S).toNat : Nat) : Int) = s_now S by omega] at r
      exact r
    · exact h.slice (by omega)
theorem Inv.unmap {S : xS} (h : Inv S) (c : Int) : Inv (s_unmap S c).2 := by
  unfold s_unmap
  (repeat' split) <;> first
    | exact h
    | exact h.unmL
    | exact h.unmF
