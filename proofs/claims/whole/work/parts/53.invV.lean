theorem Inv.configure {S : xS} (h : Inv S) (hC : S 28 0 < 2000000000) (t tab spc prio : Int) : Inv (s_configure S t tab spc prio).2 := by
  have hn := s_now_in S
  unfold s_configure
  split
  · exact h
  next c1 =>
    split
    · exact h
    next c2 =>
      obtain ⟨k1, k2, k3⟩ := having_th h (by omega) c2
      split
      · exact h
      next c3 =>
        split
        · exact h
        next c4 =>
          split
          · exact h
          next c5 =>
            split
            · exact h
            next c6 =>
              split
              · exact h
              next c7 =>
                have a1 : (if tab = -1 then -1 else S 1 (s_having S tab 1).toNat) = -1 ∨ hd S 1 (if tab = -1 then -1 else S 1 (s_having S tab 1).toNat) := by
                  split
                  · exact Or.inl rfl
                  next d => exact Or.inr (having_hd h (by omega) (by omega) (fun x => c3 ⟨d, x⟩))
                have a2 : (if spc = -1 then -1 else S 1 (s_having S spc 5).toNat) = -1 ∨ hd S 5 (if spc = -1 then -1 else S 1 (s_having S spc 5).toNat) := by
                  split
                  · exact Or.inl rfl
                  next d => exact Or.inr (having_hd h (by omega) (by omega) (fun x => c4 ⟨d, x⟩))
                have r := h.cf1 (t := (S 1 (s_having S t 2).toNat / 8).toNat) a1 a2
                have e28 : ∀ x y z, s_cf1 S x y z 28 = S 28 := by
                  intro x y z
                  unfold s_cf1
                  rw [sset_o (by omega), sset_o (by omega)]
                have r2 := r.cf2 (by rw [e28]; exact hC) k1 (prio := prio) ⟨by omega, by omega⟩
                rw [show (((S 1 (s_having S t 2).toNat / 8).toNat : Nat) : Int) = S 1 (s_having S t 2).toNat / 8 by omega] at r2
                exact r2
