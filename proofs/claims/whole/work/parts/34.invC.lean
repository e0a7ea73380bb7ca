/-! what a change of other arrays leaves as it was -/
theorem sset_o {S : xS} {j i j' : Nat} {v : Int} (h : j' ≠ j) : sset S j i v j' = S j' := by
  funext k
  rw [sset_at, if_neg (fun c => h c.1)]
theorem mapA_o {S : xS} {j k j' : Nat} {f : Nat → Int} (h : j' ≠ j) : mapA S j k f j' = S j' := by
  funext i
  rw [mapA_at, if_neg (fun c => h c.1)]
section CG
variable {S S' : xS}
theorem hd_cg (h0 : S' 0 = S 0) (h1 : S' 1 = S 1) : hd S' = hd S := by
  funext k u
  unfold hd
  rw [h0, h1]
theorem szS_cg (h0 : S' 0 = S 0) (h5 : S' 5 = S 5) : szS S' = szS S := by
  funext p
  unfold szS
  rw [h0, h5]
theorem ancN_cg (h0 : S' 0 = S 0) (h4 : S' 4 = S 4) (p : Nat) : ∀ n q, ancN S' p n q ↔ ancN S p n q := by
  intro n
  induction n with
  | zero => intro q; unfold ancN; rw [h0, h4]
  | succ n ih =>
    intro q
    unfold ancN
    rw [h0, h4]
    simp only [ih]
theorem Anc_cg (h0 : S' 0 = S 0) (h4 : S' 4 = S 4) : Anc S' = Anc S := by
  funext p q
  unfold Anc
  simp only [ancN_cg h0 h4]
theorem CapA.cg (h : CapA S) (h0 : S' 0 = S 0) (h1 : S' 1 = S 1) (h2 : S' 2 = S 2) (h3 : S' 3 = S 3) (h5 : S' 5 = S 5) (h6 : S' 6 = S 6) : CapA S' := by
  unfold CapA
  rw [szS_cg h0 h5, h0, h1, h2, h3, h5, h6]
  exact h
theorem CapM.cg (h : CapM S) (h0 : S' 0 = S 0) (h1 : S' 1 = S 1) (h4 : S' 4 = S 4) (h5 : S' 5 = S 5) (h6 : S' 6 = S 6) : CapM S' := by
  unfold CapM TrS ovl
  rw [szS_cg h0 h5, Anc_cg h0 h4, h0, h1, h4, h6]
  exact h
theorem CapT.cg (h : CapT S) (h0 : S' 0 = S 0) (h1 : S' 1 = S 1) (h9 : S' 9 = S 9) : CapT S' := by
  unfold CapT
  rw [hd_cg h0 h1, h0, h9]
  exact h
theorem DooI.cg (h : DooI S) (h0 : S' 0 = S 0) (h9 : S' 9 = S 9) : DooI S' := by
  unfold DooI
  rw [h0, h9]
  exact h
theorem ThA.cg (h : ThA S) (h0 : S' 0 = S 0) (h1 : S' 1 = S 1) (h10 : S' 10 = S 10) (h11 : S' 11 = S 11) : ThA S' := by
  unfold ThA
  rw [hd_cg h0 h1, h10, h11]
  exact h
theorem ThB.cg (h : ThB S) (h0 : S' 0 = S 0) (h1 : S' 1 = S 1) (h10 : S' 10 = S 10) (h11 : S' 11 = S 11) (h12 : S' 12 = S 12) (h13 : S' 13 = S 13) (h14 : S' 14 = S 14) (h19 : S' 19 = S 19) : ThB S' := by
  unfold ThB
  rw [hd_cg h0 h1, h10, h11, h12, h13, h14, h19]
  exact h
theorem ThC.cg (h : ThC S) (h10 : S' 10 = S 10) (h18 : S' 18 = S 18) (h28 : S' 28 = S 28) : ThC S' := by
  unfold ThC
  rw [h10, h18, h28]
  exact h
theorem ThD.cg (h : ThD S) (h10 : S' 10 = S 10) (h19 : S' 19 = S 19) : ThD S' := by
  unfold ThD
  rw [h10, h19]
  exact h
theorem MpA.cg (h : MpA S) (h0 : S' 0 = S 0) (h1 : S' 1 = S 1) (h25 : S' 25 = S 25) (h26 : S' 26 = S 26) : MpA S' := by
  unfold MpA
  rw [hd_cg h0 h1, h25, h26]
  exact h
theorem MpB.cg (h : MpB S) (h0 : S' 0 = S 0) (h1 : S' 1 = S 1) (h7 : S' 7 = S 7) (h8 : S' 8 = S 8) : MpB S' := by
  unfold MpB
  rw [hd_cg h0 h1, h0, h7, h8]
  exact h
theorem BeI.cg (h : BeI S) (h0 : S' 0 = S 0) (h1 : S' 1 = S 1) (h24 : S' 24 = S 24) (h27 : S' 27 = S 27) : BeI S' := by
  unfold BeI
  rw [hd_cg h0 h1, h24, h27]
  exact h
end CG
/-- the clock's value after n calls -/
def Ck (S : xS) (n : Nat) : Prop := S 28 0 ≤ 4 * (n : Int)
theorem Inv.clock {S : xS} {n : Nat} (h : Inv S) (hc : Ck S n) (hn : n < 400000000) : 0 ≤ S 28 0 ∧ S 28 0 < 2000000000 := by
  have := h.1.2.2.2.2.2.2.2.1.1
  unfold Ck at hc
  omega
/-! threads become ready, wait, stop -/
theorem Inv.ready {S : xS} (h : Inv S) (hC : S 28 0 < 2000000000) {t : Nat} (ht : t < 16) (hl : S 10 t ≠ 0) : Inv (s_ready S t) := by
  obtain ⟨⟨hR, hA, hM, hT, hD, tA, tB, tC, tD, mA, mB, hB⟩, hz⟩ := h
  have e : ∀ j, j ≠ 10 → j ≠ 14 → j ≠ 28 → j ≠ 18 → s_ready S t j = S j := by
    intro j a b c d
    unfold s_ready
    rw [sset_o d, sset_o c, sset_o b, sset_o a]
  have e10 : ∀ i, s_ready S t 10 i = if i = t then 2 else S 10 i := by
    intro i
    unfold s_ready
    simp [sset_at]
  have e14 : ∀ i, s_ready S t 14 i = if i = t then 3 else S 14 i := by
    intro i
    unfold s_ready
    simp [sset_at]
  have e18 : ∀ i, s_ready S t 18 i = if i = t then S 28 0 + 1 else S 18 i := by
    intro i
    unfold s_ready
    simp [sset_at]
  have e28 : s_ready S t 28 0 = S 28 0 + 1 := by
    unfold s_ready
    simp [sset_at]
  have E := fun j a b c d => e j a b c d
  have q0 := e 0 (by omega) (by omega) (by omega) (by omega)
  have q1 := e 1 (by omega) (by omega) (by omega) (by omega)
  have hh := hd_cg q0 q1
  refine ⟨⟨hR.ready ⟨tC.1, hC⟩ t, ?_, ?_, ?_, ?_, fun i hi => ?_, fun i hi => ?_, ?_, ?_, ?_, ?_, ?_⟩, ?_⟩
  · exact hA.cg q0 q1 (e 2 (by omega) (by omega) (by omega) (by omega)) (e 3 (by omega) (by omega) (by omega) (by omega)) (e 5 (by omega) (by omega) (by omega) (by omega)) (e 6 (by omega) (by omega) (by omega) (by omega))
  · exact hM.cg q0 q1 (e 4 (by omega) (by omega) (by omega) (by omega)) (e 5 (by omega) (by omega) (by omega) (by omega)) (e 6 (by omega) (by omega) (by omega) (by omega))
  · exact hT.cg q0 q1 (e 9 (by omega) (by omega) (by omega) (by omega))
  · exact hD.cg q0 (e 9 (by omega) (by omega) (by omega) (by omega))
  · have g := tA i hi
    rw [e10, hh, e 11 (by omega) (by omega) (by omega) (by omega)]
    by_cases c : i = t
    · rw [if_pos c]
      refine ⟨by omega, ⟨fun _ => g.2.1.1 (c ▸ hl), fun _ => by omega⟩, g.2.2⟩
    · rw [if_neg c]; exact g
  · rw [e10, hh, e 11 (by omega) (by omega) (by omega) (by omega), e 12 (by omega) (by omega) (by omega) (by omega), e 13 (by omega) (by omega) (by omega) (by omega), e 19 (by omega) (by omega) (by omega) (by omega), e14]
    intro gl
    by_cases c : i = t
    · have g := tB i hi (c ▸ hl)
      rw [if_pos c, if_pos c]
      exact ⟨g.1, g.2.1, g.2.2.1, fun k => by omega, fun k => by omega, fun _ => by omega⟩
    · rw [if_neg c] at gl
      rw [if_neg c, if_neg c]
      exact tB i hi gl
  · obtain ⟨c0, c1, c2⟩ := tC
    refine ⟨by rw [e28]; omega, fun i hi g => ?_, fun i i' hi hi' hne g g' => ?_⟩
    · rw [e18, e28]
      rw [e10] at g
      by_cases c : i = t
      · rw [if_pos c]; exact Int.le_refl _
      · rw [if_neg c] at g ⊢
        have := c1 i hi g
        omega
    · rw [e18, e18]
      rw [e10] at g g'
      by_cases c : i = t
      · have c' : i' ≠ t := by omega
        rw [if_neg c'] at g'
        rw [if_pos c, if_neg c']
        have := c1 i' hi' g'
        omega
      · rw [if_neg c] at g ⊢
        by_cases c' : i' = t
        · rw [if_pos c']
          have := c1 i hi g
          omega
        · rw [if_neg c'] at g' ⊢
          exact c2 i i' hi hi' hne g g'
  · intro i i' hi hi' g g'
    rw [e10] at g g'
    rw [e 19 (by omega) (by omega) (by omega) (by omega)]
    by_cases c : i = t
    · rw [if_pos c] at g; omega
    · rw [if_neg c] at g
      by_cases c' : i' = t
      · rw [if_pos c'] at g'; omega
      · rw [if_neg c'] at g'
        exact tD i i' hi hi' g g'
  · exact mA.cg q0 q1 (e 25 (by omega) (by omega) (by omega) (by omega)) (e 26 (by omega) (by omega) (by omega) (by omega))
  · exact mB.cg q0 q1 (e 7 (by omega) (by omega) (by omega) (by omega)) (e 8 (by omega) (by omega) (by omega) (by omega))
  · exact hB.cg q0 q1 (e 24 (by omega) (by omega) (by omega) (by omega)) (e 27 (by omega) (by omega) (by omega) (by omega))
  · rw [e 9 (by omega) (by omega) (by omega) (by omega)]
    exact hz
