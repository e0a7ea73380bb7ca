theorem s_up_ge {fp size : Int} (h1 : 2 ≤ size) : fp ≤ s_up fp size ∧ s_up fp size % size = 0 := by
  unfold s_up
  refine ⟨?_, Int.mul_emod_left _ _⟩
  have h := Int.mul_ediv_add_emod (fp + size - 1) size
  have h2 := Int.emod_lt_of_pos (fp + size - 1) (show 0 < size by omega)
  rw [Int.mul_comm] at h
  omega
theorem s_size_al {k b u : Int} (h : u % s_size k b = 0) (hk : k = 2 ∨ k = 4 ∨ k = 6) : (k = 2 → u % 8 = 0) ∧ (k = 4 → u % 2 = 0) ∧ (k = 6 → u % 4 = 0) := by
  rcases hk with rfl | rfl | rfl
  · refine ⟨fun _ => h, fun c => by omega, fun c => by omega⟩
  · refine ⟨fun c => by omega, fun _ => h, fun c => by omega⟩
  · refine ⟨fun c => by omega, fun c => by omega, fun _ => h⟩
theorem begin_o {S : xS} {k u : Int} {j : Nat} (h : ¬ (10 ≤ j ∧ j < 18) ∧ j ≠ 24 ∧ j ≠ 25) : s_begin S k u j = S j := by
  unfold s_begin
  split
  · rw [sset_o (by omega), sset_o (by omega), sset_o (by omega), sset_o (by omega), sset_o (by omega), sset_o (by omega), sset_o (by omega), sset_o (by omega)]
  split
  · rw [sset_o (by omega)]
  split
  · rw [sset_o (by omega)]
  · rfl
theorem begin_10 {S : xS} {k u : Int} {j i : Nat} (h : 10 ≤ j ∧ j < 18) (hn : ¬ (k = 2 ∧ i = (u / 8).toNat)) : s_begin S k u j i = S j i := by
  unfold s_begin
  split
  next c =>
    have : i ≠ (u / 8).toNat := fun e => hn ⟨c, e⟩
    simp only [sset_at]
    simp [this]
  split
  · rw [sset_o (by omega)]
  split
  · rw [sset_o (by omega)]
  · rfl
theorem begin_2 {S : xS} {u : Int} : s_begin S 2 u 10 (u / 8).toNat = 1 ∧ s_begin S 2 u 11 (u / 8).toNat = -1 ∧ s_begin S 2 u 12 (u / 8).toNat = -1 ∧ s_begin S 2 u 13 (u / 8).toNat = 0 := by
  unfold s_begin
  simp [sset_at]
theorem begin_24 {S : xS} {k u : Int} {i : Nat} : s_begin S k u 24 i = S 24 i ∨ s_begin S k u 24 i = 0 := by
  unfold s_begin
  split
  · left
    simp [sset_at]
  split
  · rw [sset_at]
    split
    · right; rfl
    · left; rfl
  split
  · left; rw [sset_o (by omega)]
  · left; rfl
theorem begin_25 {S : xS} {k u : Int} {i : Nat} : s_begin S k u 25 i = if k = 6 ∧ i = (u / 4).toNat then -1 else S 25 i := by
  unfold s_begin
  split
  next c => rw [if_neg (by omega)]; simp [sset_at]
  split
  next c => rw [if_neg (by omega)]; simp [sset_at]
  split
  next c => simp [sset_at, c]
  next c => rw [if_neg (fun e => c e.1)]
theorem Inv.free {S : xS} (h : Inv S) {f : Nat} (hf : f < 128) (hfl : S 0 f = 0) : S 1 f ≤ s_freePoint S f ∧ (∀ q, Anc S f q → S 1 q + szS S q ≤ s_freePoint S f) ∧ s_freePoint S f ≤ 128 := by
  have hA := h.1.2.1
  have hM := h.1.2.2.1
  have g := hA f hf
  have g2 := g.2 (by omega)
  unfold s_freePoint
  split
  next c =>
    refine ⟨by rw [Int.toNat_natCast]; omega, fun q hq => ?_, by rw [Int.toNat_natCast]; omega⟩
    exfalso
    obtain ⟨x, x1, x2, x3⟩ := hq.child
    have := cntL_of (fun k => 0 ≤ S 0 k ∧ S 4 k = (f : Int)) 128 x x1 ⟨x2, x3⟩
    unfold s_children at c
    omega
  next c =>
    rw [Int.toNat_natCast]
    have c2 : 0 < s_children S f := by
      have := cntL_in (fun k => 0 ≤ S 0 k ∧ S 4 k = (f : Int)) 128
      unfold s_children at c ⊢
      omega
    obtain ⟨x, x1, x2, x3⟩ := cntL_ex _ _ c2
    have k := hM.2.1 f x (Anc.one x1 x2 x3) hfl
    have sx := s_size_in (k := S 0 x) (b := S 5 x) (fun c => ((hA x x1).2 x2).2.2.2 c)
    unfold szS at k
    exact ⟨by omega, fun q hq => (hM.2.1 f q hq hfl).2, g2.2.2.1.2.2.2.2.2⟩
theorem Inv.retypeC {S : xS} (h : Inv S) {u k b dest : Int} (hb : x_r b) : Inv (s_retype S u k b dest).2 := by
  have hn := s_now_in S
  have hA := h.1.2.1
  unfold s_retype
  split
  · exact h
  next c1 =>
    split
    · exact h
    next c2 =>
      split
      · exact h
      next c3 =>
        split
        · exact h
        next c4 =>
          split
          · exact h
          next c5 =>
            split
            · exact h
            next c6 =>
              have hh := s_having_in h.gs.1 (by omega) u 0
              obtain ⟨v1, v2, v3⟩ := vacant_is h c1 c6
              have hl := (hh.2.2 (by omega)).2
              have hl : S 0 (s_having S u 0).toNat = 0 := by omega
              have hfr := h.free (f := (s_having S u 0).toNat) (by omega) hl
              rw [show (((s_having S u 0).toNat : Nat) : Int) = s_having S u 0 by omega] at hfr
              have hz := s_size_in (k := k) (b := b) (fun c => by omega)
              split
              · exact h
              next c7 =>
                dsimp only
                have g := hA (s_having S u 0).toNat (by omega)
                have g2 := g.2 (by omega)
                have ha := s_up_ge (fp := s_freePoint S (s_having S u 0)) hz.1
                have hal := fun hk => s_size_al (k := k) (b := b) ha.2 hk
                have hsz : szS S (s_having S u 0).toNat = s_size 0 (S 5 (s_having S u 0).toNat) := by unfold szS; rw [hl]
                rw [← hsz] at c7
                generalize s_up (s_freePoint S (s_having S u 0)) (s_size k b) = uu at *
                generalize s_freePoint S (s_having S u 0) = fp at *
                generalize s_having S u 0 = f at *
                generalize s_vacant S dest = d at *
                have hfd : f.toNat ≠ d.toNat := by intro c; rw [c] at hl; omega
                have fd := fill_d (S := sset S 6 f.toNat (uu + s_size k b)) (s := d) (k := k) (u := uu) (size := b) (from_ := f)
                have f2 : s_fill (sset S 6 f.toNat (uu + s_size k b)) d k uu b f 2 d.toNat = 7 ∧ s_fill (sset S 6 f.toNat (uu + s_size k b)) d k uu b f 3 d.toNat = 0 := by
                  unfold s_fill
                  simp [sset_at]
                have hRf : RgS (s_fill (sset S 6 f.toNat (uu + s_size k b)) d k uu b f) := (h.1.1.set ⟨by omega, by omega⟩).fill ⟨by omega, by omega⟩ ⟨by omega, by omega⟩ hb ⟨by omega, by omega⟩
                have fi : ∀ j i, i ≠ d.toNat → ¬ (j = 6 ∧ i = f.toNat) → s_fill (sset S 6 f.toNat (uu + s_size k b)) d k uu b f j i = S j i := by
                  intro j i hi hj
                  rw [fill_i hi, sset_at, if_neg hj]
                have f6 : s_fill (sset S 6 f.toNat (uu + s_size k b)) d k uu b f 6 f.toNat = uu + s_size k b := by
                  rw [fill_i hfd, sset_at, if_pos ⟨rfl, rfl⟩]
                have fo : ∀ j, 9 ≤ j → s_fill (sset S 6 f.toNat (uu + s_size k b)) d k uu b f j = S j := by
                  intro j hj
                  rw [fill_o hj, sset_o (by omega)]
                generalize s_fill (sset S 6 f.toNat (uu + s_size k b)) d k uu b f = T at *
                have bo : ∀ j, j < 10 → s_begin T k uu j = T j := fun j hj => begin_o (by omega)
                have sz : szS (s_begin T k uu) d.toNat = s_size k b := by
                  unfold szS
                  rw [bo 0 (by omega), bo 5 (by omega), fd.1, fd.2.2.2.1]
                refine h.new (d := d.toNat) (f := f.toNat) (t0 := (uu / 8).toNat) (k := k) (u := uu) (hRf.begin k uu) (by omega) v2 (by omega) hl v3 (fun j hj => ?_) (fun j i j1 j2 j3 => ?_) (by omega) ?_ ?_ ?_ ?_ ?_ ?_ ?_ ?_ (by omega) ?_ ?_ ?_ (fun j i j1 j2 j3 => ?_) ?_ (fun q hq => ?_) (fun i hi => ?_) ?_
                · rw [begin_o (by omega), fo j (by omega)]
                · rw [bo j (by omega), fi j i j2 j3]
                · rw [bo 0 (by omega)]; exact fd.1
                · rw [bo 1 (by omega)]; exact fd.2.1
                · rw [bo 4 (by omega)]
                  have := fd.2.2.1
                  omega
                · rw [bo 5 (by omega), fd.2.2.2.1]
                  intro c
                  omega
                · rw [bo 2 (by omega), bo 3 (by omega), bo 6 (by omega), f2.1, f2.2, fd.2.2.2.2.1]
                  omega
                · rw [bo 7 (by omega)]; exact fd.2.2.2.2.2
                · rw [sz]; exact ha.2
                · rw [bo 6 (by omega), sz, f6]
                · rw [sz]; omega
                · intro q hq
                  have := hfr.2.1 q hq
                  omega
                · rw [sz]; omega
                · rw [begin_10 ⟨j1, j2⟩ j3, fo j (by omega)]
                · intro c
                  have k8 := (hal (by omega)).1 c
                  have b2 := begin_2 (S := T) (u := uu)
                  rw [← c] at b2
                  exact ⟨by omega, b2⟩
                · have k1 := h.1.2.2.2.2.2.2.2.2.2.2.2.1 q hq
                  rcases begin_24 (S := T) (k := k) (u := uu) (i := q) with e | e
                  · rw [e, fo 24 (by omega)]; exact k1
                  · rw [e]; omega
                · rw [begin_25, fo 25 (by omega)]
                  split
                  next c =>
                    exfalso
                    have k4 := (hal (by omega)).2.2 c.1
                    exact hi ⟨c.1, by omega⟩
                  · rfl
                · intro c i hi
                  rw [begin_25, if_pos ⟨c, by omega⟩]
