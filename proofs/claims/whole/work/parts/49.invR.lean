theorem Inv.signal {S : xS} (h : Inv S) (hC : S 28 0 < 2000000000) (b : Int) : Inv (s_signal S b).2 := by
  have hn := s_now_in S
  unfold s_signal
  split
  · exact h
  next c1 =>
    split
    · exact h
    next c2 =>
      split
      · exact h
      next c3 =>
        have hh := s_having_in h.gs.1 (by omega) b 4
        have hu := h.1.2.1.hd (having_hd h (by omega) (by omega) c2)
        have hl := (hh.2.2 (by omega)).1
        have hr := ((h.1.2.1 (s_having S b 4).toNat (by omega)).2 hl).2.2.1
        refine h.ring hC hu ?_
        split <;> omega
theorem Inv.interrupt {S : xS} (h : Inv S) (hC : S 28 0 < 2000000000) (n : Int) : Inv (s_interrupt S n).2 := by
  have hB := h.1.2.2.2.2.2.2.2.2.2.2.2
  unfold s_interrupt
  split
  · exact h
  next c1 =>
    split
    · exact h
    next c2 =>
      split
      · exact h
      next c3 =>
        have hu := h.1.2.1.hd ((hB.2 n.toNat (by omega)).resolve_left c3)
        refine h.ring hC hu ?_
        rcases (by omega : n = 0 ∨ n = 1 ∨ n = 2 ∨ n = 3) with rfl | rfl | rfl | rfl <;> decide
