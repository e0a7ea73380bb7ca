theorem Inv.map {S : xS} (h : Inv S) (c sp e : Int) : Inv (s_map S c sp e).2 := by
  have hn := s_now_in S
  have hA := h.1.2.1
  unfold s_map
  split
  · exact h
  next c1 =>
    split
    · exact h
    next c2 =>
      split
      · exact h
      next c3 =>
        split
        · exact h
        next c4 =>
          split
          · exact h
          next c5 =>
            split
            · exact h
            next c6 =>
              have hh := s_having_in h.gs.1 (by omega) c (-1)
              have hs := having_hd h (by omega) (by omega) c4
              split
              next k6 =>
                split
                · split
                  next c7 =>
                    exact h.mapL hs (by omega) (fun i hi => lfL_no 32 0 c7 i (by omega) (by omega))
                  · exact h
                · exact h
              next k6 =>
                split
                · split
                  · exact h
                  next c7 =>
                    split
                    next c8 =>
                      obtain ⟨i, i1, i2, i3, i4, i5⟩ := lfL_yes (S := S) (u := S 1 (s_having S sp 5).toNat) (e := e / 4) 32 0 (by unfold s_leafOf at c7; omega)
                      have hl : hd S 6 (s_leafOf S (S 1 (s_having S sp 5).toNat) (e / 4)) := by
                        have := ((s_there_hd (by omega)).1 i4).2.2
                        unfold s_leafOf
                        rw [i3]
                        exact this
                      have k7 := (hA (s_having S c (-1)).toNat (by omega)).1
                      exact h.mapF (by omega) hl (by omega) (fun i hi => frL_no 128 0 c8 i (by omega) (by omega))
                    · exact h
                · exact h
theorem Inv.listen {S : xS} (h : Inv S) (hC : S 28 0 < 2000000000) (b block : Int) : Inv (s_listen S b block).2 := by
  have hn := s_now_in S
  have hB := h.1.2.2.2.2.2.2.2.2.2.2.2
  unfold s_listen
  split
  · exact h
  next c1 =>
    split
    · exact h
    next c2 =>
      split
      · exact h
      next c3 =>
        have hs := having_hd h (by omega) (by omega) c2
        have hu := h.1.2.1.hd hs
        obtain ⟨k1, k2⟩ := now_is c1
        split
        · split
          · exact h
          · have r := h.waits (how := 5) (u := S 1 (s_having S b 4).toNat) (a := -1) hC k1 (by omega) ⟨by omega, by omega⟩ x_r_m1 (Or.inr (Or.inr ⟨rfl, hs⟩))
            rw [show (((s_now S).toNat : Nat) : Int) = s_now S by omega] at r
            exact r
        · exact (h.hears (h.1.1 _ _)).bell (by omega)
