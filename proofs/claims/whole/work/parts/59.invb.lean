theorem firstL_no {S : xS} {how u : Int} : ∀ n : Nat, firstL S how u n < 0 → ∀ t, t < n → S 10 t = how → S 19 t ≠ u := by
  intro n
  induction n with
  | zero => intro _ t ht; omega
  | succ n ih =>
    intro h t ht k1 k2
    unfold firstL at h
    split at h
    · omega
    next c =>
      by_cases e : t = n
      · rw [e] at k1 k2
        exact c ⟨k1, k2, Or.inl h⟩
      · exact ih h t (by omega) k1 k2
theorem Inv.trC {S : xS} (h : Inv S) {b s d : Int} (hs0 : 0 ≤ s) (hs : s < 128) (hl : 0 < S 0 s.toNat) (hd0 : 0 ≤ d) (hd1 : d < 128) (hde : S 0 d.toNat < 0) (htab : hd S 1 (16 * ((d.toNat : Int) / 16))) : Inv (s_trC S b s d) := by
  have h2 : Inv (sset S 17 b.toNat 1) := h.scal (by omega) ⟨by omega, by omega⟩
  have hA := h2.1.2.1
  unfold s_trC
  have e0 : sset S 17 b.toNat 1 0 = S 0 := sset_o (by omega)
  have e1 : sset S 17 b.toNat 1 1 = S 1 := sset_o (by omega)
  rw [← e0] at hl hde ⊢
  rw [← e1]
  have htab2 : hd (sset S 17 b.toNat 1) 1 (16 * ((d.toNat : Int) / 16)) := by rw [hd_cg e0 e1]; exact htab
  generalize sset S 17 b.toNat 1 = T at *
  have hsd : s.toNat ≠ d.toNat := by intro c; rw [c] at hl; omega
  have fd := fill_d (S := T) (s := d) (k := T 0 s.toNat) (u := T 1 s.toNat) (size := 0) (from_ := s)
  have hr := ((hA s.toNat (by omega)).2 (by omega)).2.2.1
  have hu := (hA s.toNat (by omega)).1
  rw [fill_i hsd, fill_i hsd]
  refine h2.copy (d := d.toNat) (f := s.toNat) ?_ (by omega) hde (by omega) hl htab2 (fun j hj => ?_) (fun j i hj hi => ?_) ?_ ?_ ?_ ?_ ?_
  · exact ((h2.1.1.fill (h2.1.1 _ _) (h2.1.1 _ _) x_r_0 ⟨by omega, by omega⟩).set (h2.1.1 _ _)).set (h2.1.1 _ _)
  · rw [sset_o (by omega), sset_o (by omega), fill_o hj]
  · rw [sset_at, if_neg (fun x => hi x.2), sset_at, if_neg (fun x => hi x.2), fill_i hi]
  · rw [sset_o (by omega), sset_o (by omega)]; exact fd.1
  · rw [sset_o (by omega), sset_o (by omega)]; exact fd.2.1
  · rw [sset_o (by omega), sset_o (by omega)]
    have := fd.2.2.1
    omega
  · rw [sset_o (j' := 2) (by omega), sset_o (j' := 6) (by omega), sset_o (j' := 6) (by omega), fd.2.2.2.2.1]
    simp only [sset_at, and_self, if_true]
    omega
  · rw [sset_o (by omega), sset_o (by omega)]; exact fd.2.2.2.2.2
theorem Inv.transfer {S : xS} (h : Inv S) {a b : Int} (ha0 : 0 ≤ a) (ha : a < 16) (hal : S 10 a.toNat ≠ 0) (hb0 : 0 ≤ b) (hb : b < 16) (hbl : S 10 b.toNat ≠ 0) : Inv (s_transfer S a b) := by
  unfold s_transfer
  have h1 : Inv (s_tr1 S a b) := by
    unfold s_tr1
    exact (h.scal (by omega) (h.1.1 _ _)).scal (by omega) (h.1.1 _ _)
  have e : s_tr1 S a b 10 = S 10 := by
    unfold s_tr1
    rw [sset_o (by omega), sset_o (by omega)]
  rw [← e] at hal hbl
  generalize s_tr1 S a b = T at *
  have z : Inv (sset T 17 b.toNat 0) := h1.scal (by omega) x_r_0
  unfold s_trF
  split
  · exact z
  split
  · exact z
  next c2 =>
    split
    · exact z
    next c3 =>
      split
      · exact z
      split
      · have g1 := find_tab h1 (by omega) hal c2
        have g2 := find_tab h1 (by omega) hbl c3
        exact h1.trC (by omega) g1.1 (by omega) (by omega) g2.1 (by omega) g2.2
      · exact z
theorem transfer_e {S : xS} {a b : Int} {j : Nat} (hj : j = 10 ∨ j = 28 ∨ j = 18 ∨ j = 19 ∨ j = 14 ∨ j = 13) : s_transfer S a b j = S j := by
  have k : s_tr1 S a b j = S j := by
    unfold s_tr1
    rw [sset_o (by omega), sset_o (by omega)]
  have z : ∀ v, sset (s_tr1 S a b) 17 b.toNat v j = S j := by
    intro v
    rw [sset_o (by omega), k]
  unfold s_transfer s_trF
  split
  · exact z _
  split
  · exact z _
  split
  · exact z _
  split
  · exact z _
  split
  · unfold s_trC
    rw [sset_o (by omega), sset_o (by omega), fill_o (by omega)]
    exact z _
  · exact z _
theorem Inv.send0 {S : xS} (h : Inv S) {s g word c : Int} (hw : x_r word) (hc : x_r c) : Inv (s_send0 S s g word c) := by
  unfold s_send0
  refine (((h.scal (by omega) hc).scal (by omega) hw).scal (by omega) (h.1.1 _ _)).scal (by omega) ?_
  split
  · exact x_r_0
  · exact ⟨by omega, by omega⟩
theorem send0_e {S : xS} {s g word c : Int} {j : Nat} (hj : ¬ (20 ≤ j ∧ j ≤ 23)) : s_send0 S s g word c j = S j := by
  unfold s_send0
  rw [sset_o (by omega), sset_o (by omega), sset_o (by omega), sset_o (by omega)]
theorem Inv.send {S : xS} (h : Inv S) (hC : S 28 0 < 2000000000) {g word c bl : Int} (hw : x_r word) (hc : x_r c) : Inv (s_send S g word c bl).2 := by
  have hn := s_now_in S
  unfold s_send
  split
  · exact h
  next c1 =>
    obtain ⟨n1, n2⟩ := now_is c1
    split
    · exact h
    next c2 =>
      have gh := having_hd h (k := 3) (by omega) (by omega) c2
      split
      · exact h
      have h0 := h.send0 (s := s_now S) (g := s_having S g 3) hw hc
      have e := fun j hj => send0_e (S := S) (s := s_now S) (g := s_having S g 3) (word := word) (c := c) (j := j) hj
      generalize s_send0 S (s_now S) (s_having S g 3) word c = T at *
      split
      next c3 =>
        split
        · exact h
        · have q := h0.waits (t := (s_now S).toNat) (how := 3) (u := S 1 (s_having S g 3).toNat) (a := c) (by rw [e 28 (by omega)]; exact hC) n1 (by rw [e 10 (by omega)]; omega) (h.1.1 _ _) hc (Or.inl ⟨rfl, by rw [hd_cg (e 0 (by omega)) (e 1 (by omega))]; exact gh, fun i hi k => by
            rw [e 10 (by omega)] at k
            rw [e 19 (by omega)]
            exact firstL_no 16 c3 i hi k⟩)
          rw [show (((s_now S).toNat : Nat) : Int) = s_now S by omega] at q
          exact q
      next c3 =>
        have f := firstL_is 16 (show 0 ≤ firstL S 4 (S 1 (s_having S g 3).toNat) 16 from by unfold s_first at c3; omega)
        have fe : firstL S 4 (S 1 (s_having S g 3).toNat) 16 = s_first S 4 (S 1 (s_having S g 3).toNat) := rfl
        rw [fe] at f
        generalize s_first S 4 (S 1 (s_having S g 3).toNat) = b at *
        have q := (h0.transfer (a := s_now S) (b := b) (by omega) (by omega) (by rw [e 10 (by omega)]; omega) (by omega) (by omega) (by rw [e 10 (by omega)]; omega)).ready (t := b.toNat) (by rw [transfer_e (by omega), e 28 (by omega)]; exact hC) f.1 (by rw [transfer_e (by omega), e 10 (by omega)]; omega)
        rw [show ((b.toNat : Nat) : Int) = b by omega] at q
        exact q
theorem Inv.receive {S : xS} (h : Inv S) (hC : S 28 0 < 2000000000) {g d bl : Int} (hd' : x_r d) : Inv (s_receive S g d bl).2 := by
  have hn := s_now_in S
  unfold s_receive
  split
  · exact h
  next c1 =>
    obtain ⟨n1, n2⟩ := now_is c1
    split
    · exact h
    next c2 =>
      have gh := having_hd h (k := 3) (by omega) (by omega) c2
      split
      · exact h
      split
      next c3 =>
        split
        · exact h
        · have q := h.waits (t := (s_now S).toNat) (how := 4) (u := S 1 (s_having S g 3).toNat) (a := d) hC n1 (by omega) (h.1.1 _ _) hd' (Or.inr (Or.inl ⟨rfl, gh, fun i hi k => firstL_no 16 c3 i hi k⟩))
          rw [show (((s_now S).toNat : Nat) : Int) = s_now S by omega] at q
          exact q
      next c3 =>
        have h0 : Inv (sset S 20 (s_now S).toNat d) := h.scal (by omega) hd'
        have e := fun j hj => sset_o (S := S) (j := 20) (i := (s_now S).toNat) (v := d) (j' := j) hj
        have f := firstL_is 16 (show 0 ≤ firstL S 3 (S 1 (s_having S g 3).toNat) 16 from by unfold s_first at c3; omega)
        have fe : firstL S 3 (S 1 (s_having S g 3).toNat) 16 = s_first S 3 (S 1 (s_having S g 3).toNat) := rfl
        rw [fe] at f
        generalize s_first S 3 (S 1 (s_having S g 3).toNat) = b at *
        generalize sset S 20 (s_now S).toNat d = T at *
        have q := (h0.transfer (a := b) (b := s_now S) (by omega) (by omega) (by rw [e 10 (by omega)]; omega) (by omega) (by omega) (by rw [e 10 (by omega)]; omega)).ready (t := b.toNat) (by rw [transfer_e (by omega), e 28 (by omega)]; exact hC) f.1 (by rw [transfer_e (by omega), e 10 (by omega)]; omega)
        rw [show ((b.toNat : Nat) : Int) = b by omega] at q
        exact q
