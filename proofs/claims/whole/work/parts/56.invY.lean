theorem vacant_is {S : xS} (h : Inv S) (hn : ¬ s_now S < 0) {a : Int} (hv : ¬ s_vacant S a < 0) : s_vacant S a < 128 ∧ S 0 (s_vacant S a).toNat < 0 ∧ hd S 1 (16 * (((s_vacant S a).toNat : Int) / 16)) := by
  obtain ⟨k1, k2⟩ := now_is hn
  unfold s_vacant at hv ⊢
  by_cases c1 : s_find S (s_now S).toNat a < 0
  · rw [if_pos c1] at hv; omega
  rw [if_neg c1] at hv ⊢
  have f := find_tab h k1 (by omega) c1
  by_cases c2 : S 0 (s_find S (s_now S).toNat a).toNat < 0
  · rw [if_pos c2]
    exact ⟨f.1, c2, f.2⟩
  · rw [if_neg c2] at hv; omega
theorem s_and_7 {a b : Int} (ha : 0 ≤ a ∧ a ≤ 7) : 0 ≤ s_and a b ∧ s_and a b ≤ 7 := by
  unfold s_and
  have := Nat.and_le_left (n := a.toNat) (m := b.toNat)
  omega
theorem Inv.copyC {S : xS} (h : Inv S) (src dest rg mine : Int) : Inv (s_copy S src dest rg mine).2 := by
  have hn := s_now_in S
  have hA := h.1.2.1
  unfold s_copy
  split
  · exact h
  next c1 =>
    split
    · exact h
    next c2 =>
      split
      · exact h
      next c3 =>
        split
        · exact h
        next c4 =>
          split
          · exact h
          next c5 =>
            split
            · exact h
            next c6 =>
              split
              · exact h
              next c7 =>
                split
                · exact h
                next c8 =>
                  have hh := s_having_in h.gs.1 (by omega) src (-1)
                  obtain ⟨v1, v2, v3⟩ := vacant_is h c1 c8
                  have hl := (hh.2.2 (by omega)).1
                  have hr := ((hA (s_having S src (-1)).toNat (by omega)).2 hl).2.2.1
                  have hu := (hA (s_having S src (-1)).toNat (by omega)).1
                  have ha := s_and_7 (b := rg) ⟨hr.1, hr.2.1⟩
                  have hbd : 0 ≤ (if S 3 (s_having S src (-1)).toNat = 0 ∧ (S 0 (s_having S src (-1)).toNat = 3 ∨ S 0 (s_having S src (-1)).toNat = 4) then mine else S 3 (s_having S src (-1)).toNat) ∧ (if S 3 (s_having S src (-1)).toNat = 0 ∧ (S 0 (s_having S src (-1)).toNat = 3 ∨ S 0 (s_having S src (-1)).toNat = 4) then mine else S 3 (s_having S src (-1)).toNat) ≤ 255 := by
                    split <;> omega
                  generalize (if S 3 (s_having S src (-1)).toNat = 0 ∧ (S 0 (s_having S src (-1)).toNat = 3 ∨ S 0 (s_having S src (-1)).toNat = 4) then mine else S 3 (s_having S src (-1)).toNat) = bd at *
                  generalize s_and (S 2 (s_having S src (-1)).toNat) rg = an at *
                  have fd := fill_d (S := S) (s := s_vacant S dest) (k := S 0 (s_having S src (-1)).toNat) (u := S 1 (s_having S src (-1)).toNat) (size := 0) (from_ := s_having S src (-1))
                  dsimp only
                  refine h.copy (d := (s_vacant S dest).toNat) (f := (s_having S src (-1)).toNat) ?_ (by omega) v2 (by omega) (by omega) v3 (fun j hj => ?_) (fun j i hj hi => ?_) ?_ ?_ ?_ ?_ ?_
                  · exact ((h.1.1.fill ⟨by omega, by omega⟩ ⟨by omega, by omega⟩ ⟨by omega, by omega⟩ ⟨by omega, by omega⟩).set ⟨by omega, by omega⟩).set ⟨by omega, by omega⟩
                  · rw [sset_o (by omega), sset_o (by omega), fill_o hj]
                  · rw [sset_at, if_neg (fun x => hi x.2), sset_at, if_neg (fun x => hi x.2), fill_i hi]
                  · rw [sset_o (by omega), sset_o (by omega)]; exact fd.1
                  · rw [sset_o (by omega), sset_o (by omega)]; exact fd.2.1
                  · rw [sset_o (by omega), sset_o (by omega)]
                    have := fd.2.2.1
                    omega
                  · rw [sset_o (j' := 2) (by omega), sset_o (j' := 6) (by omega), sset_o (j' := 6) (by omega), fd.2.2.2.2.1]
                    simp only [sset_at, and_self, if_true]
                    omega
                  · rw [sset_o (by omega), sset_o (by omega)]; exact fd.2.2.2.2.2
