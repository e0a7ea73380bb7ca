theorem hd_kind {S : xS} (hI : Inv S) {k k' u : Int} (h1 : 1 ≤ k) (h2 : 1 ≤ k') (g : hd S k u) (g' : hd S k' u) : k = k' := by
  obtain ⟨p, p1, p2, p3⟩ := g
  obtain ⟨q, q1, q2, q3⟩ := g'
  have hA := hI.1.2.1
  have hM := hI.1.2.2.1
  by_cases c : p = q
  · rw [← c] at q2; omega
  · have sp : ∀ x, x < 128 → 0 ≤ S 0 x → 0 < szS S x := by
      intro x hx g
      have := s_size_in (k := S 0 x) (b := S 5 x) (fun c => ((hA x hx).2 g).2.2.2 c)
      unfold szS
      omega
    have a := sp p p1 (by omega)
    have b := sp q q1 (by omega)
    rcases hM.2.2 p q p1 q1 c (by omega) (by omega) ⟨by omega, by omega⟩ with x | x | x
    · omega
    · omega
    · omega
theorem first_lin {S : xS} (hI : Inv S) {u how : Int} (hh : ((how = 3 ∨ how = 4) ∧ hd S 3 u) ∨ (how = 5 ∧ hd S 4 u)) : (if fstL S (lid S) (u + 4) < 0 then -1 else if S 10 (fstL S (lid S) (u + 4)).toNat = how then fstL S (lid S) (u + 4) else -1) = s_first S how u ∧ (0 ≤ s_first S how u → s_first S how u = fstL S (lid S) (u + 4)) := by
  have hA := hI.1.2.1
  have tA := hI.1.2.2.2.2.2.1
  have tB := hI.1.2.2.2.2.2.2.1
  have tD := hI.1.2.2.2.2.2.2.2.2.1
  have u0 : 0 ≤ u := by
    rcases hh with h | h
    · exact (hA.hd h.2).1
    · exact (hA.hd h.2).1
  have mem : ∀ t, t < 16 → (lid S t = u + 4 ↔ (3 ≤ S 10 t ∧ S 19 t = u)) := by
    intro t ht
    unfold lid
    by_cases c : S 10 t < 2
    · rw [if_pos c]; omega
    · have b := tB t ht (by omega)
      rw [if_neg c]
      split <;> omega
  have si := s_first_in S how u
  have key : (∃ t, t < 16 ∧ S 10 t = how ∧ S 19 t = u) → ∀ t, t < 16 → (lid S t = u + 4 ↔ (S 10 t = how ∧ S 19 t = u)) := by
    rintro ⟨x, x1, x2, x3⟩ t ht
    rw [mem t ht]
    constructor
    · rintro ⟨g1, g2⟩
      refine ⟨?_, g2⟩
      have a := (tA t ht).1
      have b := tB t ht (by omega)
      rcases hh with h | h
      · have n5 : S 10 t ≠ 5 := by
          intro c
          have := hd_kind (k := 4) (k' := 3) hI (by omega) (by omega) (b.2.2.2.2.1 c) (by rw [g2]; exact h.2)
          omega
        rcases h.1 with e | e
        · by_cases c : S 10 t = 4
          · exact absurd (x3.trans g2.symm) (tD x t x1 ht (by omega) c)
          · omega
        · by_cases c : S 10 t = 3
          · exact absurd (g2.trans x3.symm) (tD t x ht x1 c (by omega))
          · omega
      · have n3 : ¬ (S 10 t = 3 ∨ S 10 t = 4) := by
          intro c
          have := hd_kind (k := 3) (k' := 4) hI (by omega) (by omega) (b.2.2.2.1 c) (by rw [g2]; exact h.2)
          omega
        omega
    · rintro ⟨g1, g2⟩
      exact ⟨by omega, g2⟩
  have fe : s_first S how u = mnL (S 18) (fun t => S 10 t = how ∧ S 19 t = u) 16 := firstL_mn S how u 16
  by_cases c : ∃ t, t < 16 ∧ S 10 t = how ∧ S 19 t = u
  · have e : fstL S (lid S) (u + 4) = s_first S how u := by
      rw [fe]
      exact mnL_cg (fun t ht => key c t ht) (fun _ _ _ => rfl)
    rw [e]
    obtain ⟨x, x1, x2⟩ := c
    rcases mnL_spec (S 18) (fun t => S 10 t = how ∧ S 19 t = u) 16 with s | s
    · exact absurd x2 (s.2 x x1)
    · rw [← fe] at s
      rw [if_neg (by omega), if_pos s.2.1.1]
      exact ⟨rfl, fun _ => rfl⟩
  · have e : s_first S how u = -1 := by
      rw [fe]
      exact mnL_no (fun t ht x => c ⟨t, ht, x⟩)
    rw [e]
    refine ⟨?_, fun x => by omega⟩
    split
    · rfl
    next d =>
      rw [if_neg]
      intro x
      rcases mnI (S 18) (fun t => lid S t = u + 4) 16 with s | s
      · exact d (by unfold fstL; omega)
      · have e2 : mnL (S 18) (fun t => lid S t = u + 4) 16 = fstL S (lid S) (u + 4) := rfl
        rw [e2] at s
        exact c ⟨_, by omega, x, ((mem _ (by omega)).1 s.2.2.1).2⟩
theorem Fv_24 {A : xA} {S : xS} {ln : Nat → Int} {q : Nat} {v : Int} {k i : Int} {f : Nat} (h : ¬ (k = 4 ∧ f = 3 ∧ (i / 2).toNat = q)) : xFv A (sset S 24 q v) ln k i f = xFv A S ln k i f := by
  have e : ∀ j, j ≠ 24 → sset S 24 q v j = S j := fun j hj => sset_o hj
  unfold xFv
  by_cases k0 : k = 0
  · rw [if_pos k0, if_pos k0]
    unfold Funt s_children
    rw [e 0 (by omega), e 1 (by omega), e 4 (by omega), e 5 (by omega), e 6 (by omega)]
  rw [if_neg k0, if_neg k0]
  by_cases k2 : k = 2
  · rw [if_pos k2, if_pos k2]
    unfold Fthr nxtL
    rw [e 10 (by omega), e 11 (by omega), e 12 (by omega), e 13 (by omega), e 14 (by omega), e 15 (by omega), e 16 (by omega), e 17 (by omega), e 18 (by omega), e 20 (by omega), e 21 (by omega), e 22 (by omega), e 23 (by omega)]
  rw [if_neg k2, if_neg k2]
  by_cases k8 : k < 8
  · rw [if_pos k8, if_pos k8]
    unfold Fthi
    rw [e 25 (by omega), e 26 (by omega)]
    by_cases f3 : f = 3
    · by_cases k4 : k = 4
      · rw [show sset S 24 q v 24 (i / 2).toNat = S 24 (i / 2).toNat by rw [sset_at, if_neg (fun x => h ⟨k4, f3, x.2⟩)]]
      · simp only [k4, if_false]
    · simp only [f3, if_false]
  rw [if_neg k8, if_neg k8]
  by_cases k8' : k = 8
  · rw [if_pos k8', if_pos k8']
    unfold Fcap thA
    rw [e 0 (by omega), e 1 (by omega), e 2 (by omega), e 3 (by omega), e 4 (by omega), e 7 (by omega), e 8 (by omega), e 9 (by omega)]
  rw [if_neg k8', if_neg k8']
  by_cases k9 : k = 9
  · rw [if_pos k9, if_pos k9]
    unfold Flin fstL lstL
    rw [e 18 (by omega)]
  rw [if_neg k9, if_neg k9]
  by_cases k10 : k = 10
  · rw [if_pos k10, if_pos k10]
    unfold s_leafOf
    rw [lfL_cg (e 0 (by omega)) (e 1 (by omega)) (e 25 (by omega)) (e 26 (by omega))]
  rw [if_neg k10, if_neg k10]
  by_cases k11 : k = 11
  · rw [if_pos k11, if_pos k11]
    unfold s_frameOf
    rw [frL_cg (e 0 (by omega)) (e 7 (by omega)) (e 8 (by omega))]
  rw [if_neg k11, if_neg k11]
  unfold Fker
  rw [e 0 (by omega), e 10 (by omega), e 27 (by omega)]
theorem Hp.bellw {w : xH} {A : xA} {S : xS} {ln : Nat → Int} (h : Rel w A S ln) (hA : CapA S) {u v : Int} (hu : hd S 4 u) : Rel (x_put w (A 4 u) 3 (.int (xi v))) A (sset S 24 (u / 2).toNat v) ln := by
  have e : ∀ j, j ≠ 24 → sset S 24 (u / 2).toNat v j = S j := fun j hj => sset_o hj
  have eu := us_cg (S := S) (S' := sset S 24 (u / 2).toNat v) (e 0 (by omega)) (e 1 (by omega))
  have hus : us S 4 u := us_thi (by omega) (by omega) hu
  refine Hp.to (h.put hus 3 (.int (xi v))) (fun k i q => ⟨by rw [← eu]; exact q, rfl⟩) (fun k i f x q g => ?_)
  rw [eu] at q
  by_cases c : k = 4 ∧ f = 3 ∧ (i / 2).toNat = (u / 2).toNat
  · obtain ⟨c1, c2, c3⟩ := c
    rw [c1] at q
    have hi : hd S 4 i := by
      rcases q with q | q | q | q | q | q | q
      · omega
      · exact q.2.2
      all_goals omega
    have a1 : i % 2 = 0 := (hd_al hA (by omega) hi).1
    have a2 : u % 2 = 0 := (hd_al hA (by omega) hu).1
    have b1 := hA.hd hi
    have b2 := hA.hd hu
    have ei : i = u := by omega
    rw [c1, c2, ei, fup_e]
    rw [c1, c2, ei] at g
    have g : some (Value.int (xi (sset S 24 (u / 2).toNat v 24 (u / 2).toNat))) = some x := g
    rw [sset_at, if_pos ⟨rfl, rfl⟩] at g
    exact g
  · rw [fup_n (fun x => c ⟨x.1, x.2.2, by rw [x.2.1]⟩), ← Fv_24 c]
    exact g
