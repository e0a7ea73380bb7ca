theorem Inv.moveC {S : xS} (h : Inv S) (src dest : Int) : Inv (s_move S src dest).2 := by
  have hn := s_now_in S
  have hA := h.1.2.1
  unfold s_move
  split
  · exact h
  next c1 =>
    split
    · exact h
    next c2 =>
      split
      · exact h
      next c3 =>
        have hh := s_having_in h.gs.1 (by omega) src (-1)
        obtain ⟨v1, v2, v3⟩ := vacant_is h c1 c3
        have hl := (hh.2.2 (by omega)).1
        dsimp only
        generalize s_having S src (-1) = s at *
        generalize s_vacant S dest = d at *
        have hsd : s.toNat ≠ d.toNat := by intro c; rw [c] at hl; omega
        have h41 := fun q hq => h.1.2.2.1.1.par (q := q) hq
        refine h.move (s := s.toNat) (d := d.toNat) ?_ (by omega) (by omega) hl v2 v3 (fun j hj => ?_) (fun q hq => ?_) (fun j q j1 j2 j3 hq => ?_) (fun q hq => ?_)
        · have k : RgS (s_mv1 S s d) := by
            unfold s_mv1
            exact ((((((h.1.1.fill (h.1.1 _ _) (h.1.1 _ _) (h.1.1 _ _) (h.1.1 _ _)).set (h.1.1 _ _)).set (h.1.1 _ _)).set (h.1.1 _ _)).set (h.1.1 _ _)).set (h.1.1 _ _)).set x_r_m1
          refine k.map (fun i hi => ?_)
          unfold mv_par
          split
          · exact ⟨by omega, by omega⟩
          · exact k _ _
        · rw [mapA_o (by omega), mv1_o hj]
        · rw [mapA_o (by omega), mv1_0]
        · rw [mapA_o j3]
          unfold mvB
          by_cases c : q = d.toNat
          · rw [if_pos c, c, mv1_d j1 j2]
          · rw [if_neg c, mv1_i (by omega) c]
        · rw [mapA_at, if_pos ⟨rfl, hq⟩]
          unfold mv_par
          have e : s_mv1 S s d 4 q = S 4 (if q = d.toNat then s.toNat else q) := by
            by_cases c : q = d.toNat
            · rw [if_pos c, c, mv1_d (by omega) (by omega)]
            · rw [if_neg c, mv1_i (by omega) c]
          rw [e, show ((s.toNat : Nat) : Int) = s by omega, show ((d.toNat : Nat) : Int) = d by omega]
