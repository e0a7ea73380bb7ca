/-- the rest of a slice -/
theorem Inv.slice {S : xS} (h : Inv S) {t : Nat} {v : Int} (hv : 1 ≤ v ∧ v ≤ 3) : Inv (sset S 14 t v) := by
  have h' := h
  obtain ⟨⟨hR, hA, hM, hT, hD, tA, tB, tC, tD, mA, mB, hB⟩, hz⟩ := h'
  have e : ∀ j', j' ≠ 14 → sset S 14 t v j' = S j' := fun j' c => sset_o c
  have hh := hd_cg (e 0 (by omega)) (e 1 (by omega))
  refine h.th (hR.set ⟨by omega, by omega⟩) (fun j' c => e j' (by omega)) ?_ (fun i hi => ?_) ?_ ?_
  · exact tA.cg (e 0 (by omega)) (e 1 (by omega)) (e 10 (by omega)) (e 11 (by omega))
  · rw [hh, e 10 (by omega), e 11 (by omega), e 12 (by omega), e 13 (by omega), e 19 (by omega)]
    intro gl
    have g := tB i hi gl
    refine ⟨g.1, g.2.1, g.2.2.1, g.2.2.2.1, g.2.2.2.2.1, fun k => ?_⟩
    rw [sset_at]
    split
    · exact hv
    · exact g.2.2.2.2.2 k
  · exact tC.cg (e 10 (by omega)) (e 18 (by omega)) (e 28 (by omega))
  · exact tD.cg (e 10 (by omega)) (e 19 (by omega))
theorem ready_14 (S : xS) (t : Nat) (v : Int) : s_ready (sset S 14 t v) t = s_ready S t := by
  unfold s_ready
  funext j i
  simp only [sset_at, Int.toNat_natCast]
  by_cases c1 : j = 18 ∧ i = t
  · simp [c1]
  · by_cases c2 : j = 28 ∧ i = 0
    · simp [c2]
    · by_cases c3 : j = 14 ∧ i = t
      · simp [c3]
      · simp [c1, c2, c3]
/-- a thread gets its table and its space -/
theorem Inv.cf1 {S : xS} (h : Inv S) {t : Nat} {ta sp : Int} (ha : ta = -1 ∨ hd S 1 ta) (hs : sp = -1 ∨ hd S 5 sp) : Inv (s_cf1 S t ta sp) := by
  have h' := h
  obtain ⟨⟨hR, hA, hM, hT, hD, tA, tB, tC, tD, mA, mB, hB⟩, hz⟩ := h'
  have e : ∀ j', j' ≠ 11 → j' ≠ 12 → s_cf1 S t ta sp j' = S j' := by
    intro j' c1 c2
    unfold s_cf1
    rw [sset_o c2, sset_o c1]
  have e11 : ∀ i, s_cf1 S t ta sp 11 i = if i = t then ta else S 11 i := by
    intro i
    unfold s_cf1
    simp [sset_at]
  have e12 : ∀ i, s_cf1 S t ta sp 12 i = if i = t then sp else S 12 i := by
    intro i
    unfold s_cf1
    simp [sset_at]
  have a1 : ta = -1 ∨ (0 ≤ ta ∧ ta ≤ 112) := by
    rcases ha with g | g
    · exact Or.inl g
    · have k := hA.hd g
      obtain ⟨p, p1, p2, p3⟩ := g
      have := hA.tab p1 p2
      omega
  have a2 : sp = -1 ∨ (0 ≤ sp ∧ sp < 128) := by
    rcases hs with g | g
    · exact Or.inl g
    · exact Or.inr (hA.hd g)
  have hh := hd_cg (e 0 (by omega) (by omega)) (e 1 (by omega) (by omega))
  refine h.th ((hR.set ⟨by omega, by omega⟩).set ⟨by omega, by omega⟩) (fun j' c => e j' (by omega) (by omega)) (fun i hi => ?_) (fun i hi => ?_) ?_ ?_
  · have g := tA i hi
    rw [hh, e11, e 10 (by omega) (by omega)]
    refine ⟨g.1, g.2.1, ?_⟩
    split
    · exact a1
    · exact g.2.2
  · rw [hh, e11, e12, e 10 (by omega) (by omega), e 13 (by omega) (by omega), e 14 (by omega) (by omega), e 19 (by omega) (by omega)]
    intro gl
    have g := tB i hi gl
    refine ⟨g.1, ?_, ?_, g.2.2.2⟩
    · split
      · exact ha
      · exact g.2.1
    · split
      · exact hs
      · exact g.2.2.1
  · exact tC.cg (e 10 (by omega) (by omega)) (e 18 (by omega) (by omega)) (e 28 (by omega) (by omega))
  · exact tD.cg (e 10 (by omega) (by omega)) (e 19 (by omega) (by omega))
/-- a thread gets a priority -/
theorem Inv.cf2 {S : xS} (h : Inv S) (hC : S 28 0 < 2000000000) {t : Nat} (ht : t < 16) {prio : Int} (hp : 0 ≤ prio ∧ prio ≤ 3) : Inv (s_cf2 S t prio) := by
  have h' := h
  obtain ⟨⟨hR, hA, hM, hT, hD, tA, tB, tC, tD, mA, mB, hB⟩, hz⟩ := h'
  have c0 := tC.1
  have hpr : x_r prio := ⟨by omega, by omega⟩
  have hRc : RgS (s_cf2 S t prio) := by
    unfold s_cf2
    split
    · exact hR.set hpr
    · refine ((hR.set ⟨by omega, by omega⟩).set ?_).set hpr
      split
      · exact ⟨by omega, by omega⟩
      · exact hR _ _
  have e : ∀ j', j' ≠ 13 → j' ≠ 18 → j' ≠ 28 → s_cf2 S t prio j' = S j' := by
    intro j' c1 c2 c3
    unfold s_cf2
    split
    · rw [sset_o c1]
    · rw [sset_o c1, sset_o c2, sset_o c3]
  have e13 : ∀ i, s_cf2 S t prio 13 i = if i = t then prio else S 13 i := by
    intro i
    unfold s_cf2
    split <;> simp [sset_at]
  have hh := hd_cg (e 0 (by omega) (by omega) (by omega)) (e 1 (by omega) (by omega) (by omega))
  refine h.th hRc (fun j' c => e j' (by omega) (by omega) (by omega)) ?_ (fun i hi => ?_) ?_ ?_
  · exact tA.cg (e 0 (by omega) (by omega) (by omega)) (e 1 (by omega) (by omega) (by omega)) (e 10 (by omega) (by omega) (by omega)) (e 11 (by omega) (by omega) (by omega))
  · rw [hh, e13, e 10 (by omega) (by omega) (by omega), e 11 (by omega) (by omega) (by omega), e 12 (by omega) (by omega) (by omega), e 14 (by omega) (by omega) (by omega), e 19 (by omega) (by omega) (by omega)]
    intro gl
    have g := tB i hi gl
    refine ⟨?_, g.2⟩
    split
    · exact hp
    · exact g.1
  · have k10 := e 10 (by omega) (by omega) (by omega)
    by_cases c : S 13 t = prio
    · have q18 : s_cf2 S t prio 18 = S 18 := by
        unfold s_cf2
        rw [Int.toNat_natCast, if_pos c]
        exact sset_o (by omega)
      have q28 : s_cf2 S t prio 28 = S 28 := by
        unfold s_cf2
        rw [Int.toNat_natCast, if_pos c]
        exact sset_o (by omega)
      exact tC.cg k10 q18 q28
    · have q18 : ∀ i, s_cf2 S t prio 18 i = if i = t ∧ S 10 t = 2 then S 28 0 + 1 else S 18 i := by
        intro i
        unfold s_cf2
        rw [Int.toNat_natCast, if_neg c, sset_at, if_neg (by omega), sset_at]
        by_cases c1 : i = t
        · rw [if_pos ⟨rfl, c1⟩]
          by_cases c2 : S 10 t = 2
          · rw [if_pos c2, if_pos ⟨c1, c2⟩]
          · rw [if_neg c2, if_neg (fun k => c2 k.2), c1]
        · rw [if_neg (fun k => c1 k.2), if_neg (fun k => c1 k.1), sset_at, if_neg (by omega)]
      have q28 : s_cf2 S t prio 28 0 = S 28 0 + 1 := by
        unfold s_cf2
        rw [Int.toNat_natCast, if_neg c]
        simp [sset_at]
      obtain ⟨c0, c1, c2⟩ := tC
      refine ⟨by rw [q28]; omega, fun i hi g => ?_, fun i i' hi hi' hne g g' => ?_⟩
      · rw [q18, q28]
        rw [k10] at g
        have := c1 i hi g
        split <;> omega
      · rw [q18, q18]
        rw [k10] at g g'
        have k1 := c1 i hi g
        have k2 := c1 i' hi' g'
        have k3 := c2 i i' hi hi' hne g g'
        split
        · rw [if_neg (by omega)]
          omega
        · split
          · omega
          · exact k3
  · exact tD.cg (e 10 (by omega) (by omega) (by omega)) (e 19 (by omega) (by omega) (by omega))
/-! bells and lines -/
theorem Inv.be {S S' : xS} (h : Inv S) (hR : RgS S') (e : ∀ j, j ≠ 24 → j ≠ 27 → S' j = S j) (hB : BeI S') : Inv S' := by
  obtain ⟨⟨-, hA, hM, hT, hD, tA, tB, tC, tD, mA, mB, -⟩, hz⟩ := h
  have q : ∀ j, j < 24 → S' j = S j := fun j hj => e j (by omega) (by omega)
  refine ⟨⟨hR, ?_, ?_, ?_, ?_, ?_, ?_, ?_, ?_, ?_, ?_, hB⟩, ?_⟩
  · exact hA.cg (q 0 (by omega)) (q 1 (by omega)) (q 2 (by omega)) (q 3 (by omega)) (q 5 (by omega)) (q 6 (by omega))
  · exact hM.cg (q 0 (by omega)) (q 1 (by omega)) (q 4 (by omega)) (q 5 (by omega)) (q 6 (by omega))
  · exact hT.cg (q 0 (by omega)) (q 1 (by omega)) (q 9 (by omega))
  · exact hD.cg (q 0 (by omega)) (q 9 (by omega))
  · exact tA.cg (q 0 (by omega)) (q 1 (by omega)) (q 10 (by omega)) (q 11 (by omega))
  · exact tB.cg (q 0 (by omega)) (q 1 (by omega)) (q 10 (by omega)) (q 11 (by omega)) (q 12 (by omega)) (q 13 (by omega)) (q 14 (by omega)) (q 19 (by omega))
  · exact tC.cg (q 10 (by omega)) (q 18 (by omega)) (e 28 (by omega) (by omega))
  · exact tD.cg (q 10 (by omega)) (q 19 (by omega))
  · exact mA.cg (q 0 (by omega)) (q 1 (by omega)) (e 25 (by omega) (by omega)) (e 26 (by omega) (by omega))
  · exact mB.cg (q 0 (by omega)) (q 1 (by omega)) (q 7 (by omega)) (q 8 (by omega))
  · rw [q 9 (by omega)]; exact hz
theorem Inv.bell {S : xS} (h : Inv S) {q : Nat} {v : Int} (hv : 0 ≤ v ∧ v < 512) : Inv (sset S 24 q v) := by
  have hB := h.1.2.2.2.2.2.2.2.2.2.2.2
  refine h.be (h.1.1.set ⟨by omega, by omega⟩) (fun j c _ => sset_o c) ⟨fun i hi => ?_, fun i hi => ?_⟩
  · rw [sset_at]
    split
    · exact hv
    · exact hB.1 i hi
  · rw [hd_cg (sset_o (by omega)) (sset_o (by omega)), sset_o (by omega)]
    exact hB.2 i hi
theorem Inv.line {S : xS} (h : Inv S) {q : Nat} {v : Int} (hv : v = -1 ∨ hd S 4 v) : Inv (sset S 27 q v) := by
  have hB := h.1.2.2.2.2.2.2.2.2.2.2.2
  have hr : x_r v := by
    rcases hv with c | c
    · rw [c]; exact x_r_m1
    · have := h.1.2.1.hd c
      exact ⟨by omega, by omega⟩
  refine h.be (h.1.1.set hr) (fun j _ c => sset_o c) ⟨fun i hi => ?_, fun i hi => ?_⟩
  · rw [sset_o (by omega)]
    exact hB.1 i hi
  · rw [hd_cg (sset_o (by omega)) (sset_o (by omega)), sset_at]
    split
    · exact hv
    · exact hB.2 i hi
