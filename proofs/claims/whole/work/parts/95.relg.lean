theorem Hp.ren {w : xH} {A A' : xA} {U U' : Int → Int → Prop} {F F' : Int → Int → Nat → Option Value} (h : Hp w A U F) (io : Int → Int → Int) (hu : ∀ k i, U' k i → U k (io k i) ∧ A' k i = A k (io k i) ∧ tgK k i = tgK k (io k i)) (hi : ∀ k i i', U' k i → U' k i' → io k i = io k i' → i = i') (hf : ∀ k i f v, U' k i → F' k i f = some v → F k (io k i) f = some v) : Hp w A' U' F' := by
  obtain ⟨h1, h2, h3, h4⟩ := h
  refine ⟨fun k i u => ?_, fun k i k' i' u u' e => ?_, fun k i f v u e => ?_, h4⟩
  · obtain ⟨a1, a2, a3⟩ := hu k i u
    rw [a2, a3]; exact h1 _ _ a1
  · obtain ⟨a1, a2, -⟩ := hu k i u
    obtain ⟨b1, b2, -⟩ := hu k' i' u'
    have g := h2 _ _ _ _ a1 b1 (by rw [← a2, ← b2]; exact e)
    have ek := g.1
    subst ek
    exact ⟨rfl, hi k i i' u u' g.2⟩
  · obtain ⟨a1, a2, -⟩ := hu k i u
    rw [a2]; exact h3 _ _ f v a1 (hf k i f v u e)
def mvA (A : xA) (s d : Int) : xA := aup (aup A 8 d (A 8 s)) 0 d (A 0 s)
def mvI (s d k i : Int) : Int := if (k = 8 ∨ k = 0) ∧ i = d then s else i
theorem mvA_o {A : xA} {s d : Int} : ∀ k, k ≠ 8 → k ≠ 0 → mvA A s d k = A k := by
  intro k a b
  unfold mvA
  rw [aup_k b, aup_k a]
theorem mvA_8 {A : xA} {s d : Int} (i : Int) : mvA A s d 8 i = A 8 (if i = d then s else i) := by
  unfold mvA
  rw [aup_n (by omega)]
  by_cases c : i = d
  · rw [c, aup_e, if_pos rfl]
  · rw [aup_n (fun x => c x.2), if_neg c]
theorem mvA_0 {A : xA} {s d : Int} (i : Int) : mvA A s d 0 i = A 0 (if i = d then s else i) := by
  unfold mvA
  by_cases c : i = d
  · rw [c, aup_e, if_pos rfl]
  · rw [aup_n (fun x => c x.2), aup_n (by omega), if_neg c]
theorem Funt_all {S : xS} {i : Int} {p : Nat → Value → Prop} (h0 : p 0 (.int (xi 0))) (h1 : p 1 (.int (xi (S 1 i.toNat)))) (h2 : p 2 (.int (xi (s_size 0 (S 5 i.toNat))))) (h3 : ¬ s_children S i = 0 → p 3 (.int (xi (S 6 i.toNat)))) : ∀ f v, Funt S i f = some v → p f v := by
  intro f v e
  unfold Funt at e
  by_cases c0 : f = 0
  · rw [if_pos c0] at e; rw [c0, ← Option.some.inj e]; exact h0
  rw [if_neg c0] at e
  by_cases c1 : f = 1
  · rw [if_pos c1] at e; rw [c1, ← Option.some.inj e]; exact h1
  rw [if_neg c1] at e
  by_cases c2 : f = 2
  · rw [if_pos c2] at e; rw [c2, ← Option.some.inj e]; exact h2
  rw [if_neg c2] at e
  by_cases c3 : f = 3
  · rw [if_pos c3] at e
    by_cases d : s_children S i = 0
    · rw [if_pos d] at e; cases e
    · rw [if_neg d] at e; rw [c3, ← Option.some.inj e]; exact h3 d
  · rw [if_neg c3] at e; cases e
theorem children_ex {S : xS} {i : Int} : ¬ s_children S i = 0 ↔ ∃ q : Nat, q < 128 ∧ 0 ≤ S 0 q ∧ S 4 q = i := by
  have b := cntL_in (fun k => 0 ≤ S 0 k ∧ S 4 k = i) 128
  unfold s_children
  constructor
  · intro h
    obtain ⟨q, q1, q2⟩ := cntL_ex (fun k => 0 ≤ S 0 k ∧ S 4 k = i) 128 (by omega)
    exact ⟨q, q1, q2⟩
  · rintro ⟨q, q1, q2⟩
    have := cntL_of (fun k => 0 ≤ S 0 k ∧ S 4 k = i) 128 q q1 q2
    omega
theorem Funt_v {A : xA} {S : xS} {ln : Nat → Int} {i : Int} {f : Nat} : xFv A S ln 0 i f = Funt S i f := if_pos rfl
set_option maxHeartbeats 4000000 in
theorem Hp.movec {w : xH} {A : xA} {S T : xS} {ln : Nat → Int} (h : Rel w A S ln) (hI : Inv S) (hIT : Inv T) {s d : Nat} (hs8 : s < 128) (hd8 : d < 128) (hl : 0 ≤ S 0 s) (hdead : S 0 d < 0) (e : ∀ j, 9 ≤ j → T j = S j) (h0 : ∀ q, q < 128 → T 0 q = if q = s then -1 else if q = d then S 0 s else S 0 q)
    (o : ∀ j q, 1 ≤ j → j < 9 → j ≠ 4 → q < 128 → T j q = S j (mvB s d q)) (h4 : ∀ q, q < 128 → T 4 q = if S 4 (if q = d then s else q) = (s : Int) then (d : Int) else S 4 (if q = d then s else q)) :
    Rel (x_put (x_put (x_put w (A 12 1) s .null) (A 12 1) d (.ref (A 8 (s : Int)))) (A 8 (s : Int)) 4 (.int (xi (d : Int)))) (mvA A (s : Int) (d : Int)) T ln := by
  have hA := hI.1.2.1
  have hT := hI.1.2.2.1.1
  have hsd : s ≠ d := by intro c; rw [c] at hl; omega
  have u12 : us S 12 1 := us_ker (by omega)
  have u8 : us S 8 (s : Int) := us_cap (by omega) (by omega) (by rw [Int.toNat_natCast]; exact hl)
  have H := ((h.put u12 s .null).put u12 d (.ref (A 8 (s : Int)))).put u8 4 (.int (xi (d : Int)))
  have lv : ∀ q, q < 128 → 0 ≤ T 0 q → q ≠ s ∧ mvB s d q < 128 ∧ T 0 q = S 0 (mvB s d q) := by
    intro q hq g
    have e := h0 q hq
    by_cases c : q = s
    · rw [if_pos c] at e; omega
    · rw [if_neg c] at e
      refine ⟨c, ?_, ?_⟩
      · unfold mvB; split <;> omega
      · rw [e]; unfold mvB; split <;> rfl
  have hh : ∀ k u, 1 ≤ k → (hd T k u ↔ hd S k u) := by
    intro k u hk
    refine ⟨?_, ?_⟩
    · rintro ⟨p, p1, p2, p3⟩
      obtain ⟨g1, g2, g3⟩ := lv p p1 (by omega)
      exact ⟨mvB s d p, g2, by rw [← g3]; exact p2, by rw [← o 1 p (by omega) (by omega) (by omega) p1]; exact p3⟩
    · rintro ⟨p, p1, p2, p3⟩
      by_cases c : p = s
      · refine ⟨d, hd8, by rw [h0 d hd8, if_neg (by omega), if_pos rfl, ← c]; exact p2, ?_⟩
        rw [o 1 d (by omega) (by omega) (by omega) hd8]
        unfold mvB
        rw [if_pos rfl, ← c]; exact p3
      · have cd : p ≠ d := by intro c; rw [c] at p2; omega
        refine ⟨p, p1, by rw [h0 p p1, if_neg c, if_neg cd]; exact p2, ?_⟩
        rw [o 1 p (by omega) (by omega) (by omega) p1]
        unfold mvB
        rw [if_neg cd]; exact p3
  -- the places: i is held where mi was
  have io8 : ∀ i : Int, mvI (s : Int) (d : Int) 8 i = if i = (d : Int) then (s : Int) else i := by
    intro i
    unfold mvI
    by_cases c : i = (d : Int)
    · rw [if_pos ⟨Or.inl rfl, c⟩, if_pos c]
    · rw [if_neg (fun x => c x.2), if_neg c]
  have io0 : ∀ i : Int, mvI (s : Int) (d : Int) 0 i = if i = (d : Int) then (s : Int) else i := by
    intro i
    unfold mvI
    by_cases c : i = (d : Int)
    · rw [if_pos ⟨Or.inr rfl, c⟩, if_pos c]
    · rw [if_neg (fun x => c x.2), if_neg c]
  have ion : ∀ k i : Int, k ≠ 8 → k ≠ 0 → mvI (s : Int) (d : Int) k i = i := by
    intro k i a b
    unfold mvI
    rw [if_neg (fun x => by omega)]
  have mb : ∀ i : Int, 0 ≤ i → i < 128 → (if i = (d : Int) then (s : Int) else i).toNat = mvB s d i.toNat := by
    intro i i0 i1
    unfold mvB
    by_cases c : i = (d : Int)
    · rw [if_pos c, if_pos (by omega), Int.toNat_natCast]
    · rw [if_neg c, if_neg (by omega)]
  have lvi : ∀ i : Int, 0 ≤ i → i < 128 → 0 ≤ T 0 i.toNat → i ≠ (s : Int) ∧ 0 ≤ (if i = (d : Int) then (s : Int) else i) ∧ (if i = (d : Int) then (s : Int) else i) < 128 ∧ T 0 i.toNat = S 0 (if i = (d : Int) then (s : Int) else i).toNat := by
    intro i i0 i1 g
    obtain ⟨g1, g2, g3⟩ := lv i.toNat (by omega) g
    rw [mb i i0 i1]
    refine ⟨by omega, ?_, ?_, g3⟩
    · split <;> omega
    · split <;> omega
  have usT : ∀ k i, us T k i → us S k (mvI (s : Int) (d : Int) k i) := by
    intro k i u
    unfold us at u
    rcases u with u | u | u | u | u | u | u
    · obtain ⟨g1, g2, g3, g4⟩ := lvi i u.2.1 u.2.2.1 (by omega)
      rw [u.1, io0]
      exact us_unt g2 g3 (by rw [← g4]; exact u.2.2.2)
    · rw [ion k i (by omega) (by omega)]
      exact us_thi u.1 u.2.1 ((hh k i u.1).1 u.2.2)
    · obtain ⟨g1, g2, g3, g4⟩ := lvi i u.2.1 u.2.2.1 u.2.2.2
      rw [u.1, io8]
      exact us_cap g2 g3 (by rw [← g4]; exact u.2.2.2)
    · rw [hh 3 _ (by omega), hh 4 _ (by omega)] at u
      rw [ion k i (by omega) (by omega), u.1]
      exact us_lin u.2
    · rw [hh 5 _ (by omega)] at u
      rw [ion k i (by omega) (by omega), u.1]
      exact us_lvs u.2
    · rw [hh 6 _ (by omega)] at u
      rw [ion k i (by omega) (by omega), u.1]
      exact us_frs u.2
    · rw [ion k i (by omega) (by omega), u.1]
      exact us_ker u.2
  have livT : ∀ k i, us T k i → (k = 8 ∨ k = 0) → 0 ≤ i ∧ i < 128 ∧ 0 ≤ T 0 i.toNat := by
    intro k i u c
    unfold us at u
    rcases u with u | u | u | u | u | u | u <;> omega
  refine H.ren (mvI (s : Int) (d : Int)) (fun k i u => ⟨usT k i u, ?_, ?_⟩) (fun k i i' u u' g => ?_) (fun k i f v u q => ?_)
  · by_cases c8 : k = 8
    · rw [c8, io8]; exact mvA_8 i
    by_cases c0 : k = 0
    · rw [c0, io0]; exact mvA_0 i
    · rw [ion k i c8 c0, mvA_o k c8 c0]
  · by_cases c8 : k = 8
    · rw [c8]; rfl
    by_cases c0 : k = 0
    · rw [c0]; rfl
    · rw [ion k i c8 c0]
  · by_cases c8 : k = 8
    · have a := lvi i (livT k i u (Or.inl c8)).1 (livT k i u (Or.inl c8)).2.1 (livT k i u (Or.inl c8)).2.2
      have b := lvi i' (livT k i' u' (Or.inl c8)).1 (livT k i' u' (Or.inl c8)).2.1 (livT k i' u' (Or.inl c8)).2.2
      rw [c8, io8, io8] at g
      have a1 := a.1
      have b1 := b.1
      split at g <;> split at g <;> omega
    by_cases c0 : k = 0
    · have a := lvi i (livT k i u (Or.inr c0)).1 (livT k i u (Or.inr c0)).2.1 (livT k i u (Or.inr c0)).2.2
      have b := lvi i' (livT k i' u' (Or.inr c0)).1 (livT k i' u' (Or.inr c0)).2.1 (livT k i' u' (Or.inr c0)).2.2
      rw [c0, io0, io0] at g
      have a1 := a.1
      have b1 := b.1
      split at g <;> split at g <;> omega
    · rw [ion k i c8 c0, ion k i' c8 c0] at g
      exact g
  have k12 := us_le u
  have deadne : ∀ x : Int, 0 ≤ x → 0 ≤ S 0 x.toNat → x ≠ (d : Int) := by
    intro x x0 hx c
    rw [c, Int.toNat_natCast] at hx
    omega
  by_cases c8 : k = 8
  · obtain ⟨i0, i1, i2⟩ := livT k i u (Or.inl c8)
    rw [c8] at u q ⊢
    obtain ⟨g1, g2, g3, g4⟩ := lvi i i0 i1 i2
    have q : Fcap (mvA A (s : Int) (d : Int)) T i f = some v := q
    have mbi := mb i i0 i1
    have eo : ∀ j, 1 ≤ j → j < 9 → j ≠ 4 → T j i.toNat = S j (if i = (d : Int) then (s : Int) else i).toNat := by
      intro j a b c
      rw [mbi]; exact o j _ a b c (by omega)
    have e4 : T 4 i.toNat = if S 4 (if i = (d : Int) then (s : Int) else i).toNat = (s : Int) then (d : Int) else S 4 (if i = (d : Int) then (s : Int) else i).toNat := by
      have := h4 i.toNat (by omega)
      have z : (if i.toNat = d then s else i.toNat) = (if i = (d : Int) then (s : Int) else i).toNat := by
        by_cases c : i = (d : Int)
        · rw [if_pos c, if_pos (by omega), Int.toNat_natCast]
        · rw [if_neg c, if_neg (by omega)]
      rw [z] at this
      exact this
    have k7 := (hA (if i = (d : Int) then (s : Int) else i).toNat (by omega)).1
    rw [io8]
    generalize em : (if i = (d : Int) then (s : Int) else i) = m at *
    revert q
    refine Fcap_all (p := fun f v => fup (fup (fup (xFv A S ln) 12 1 s .null) 12 1 d (.ref (A 8 (s : Int)))) 8 (s : Int) 4 (.int (xi (d : Int))) 8 m f = some v) ?_ ?_ ?_ ?_ ?_ ?_ (fun x => ?_) ?_ f v
    · rw [fup_n (by omega), fup_n (by omega), fup_n (by omega)]
      have : thA (mvA A (s : Int) (d : Int)) T i = thA A S m := by
        unfold thA
        rw [g4, eo 1 (by omega) (by omega) (by omega)]
        by_cases z : S 0 m.toNat = 0
        · rw [if_pos z, if_pos z, mvA_0, em]
        · rw [if_neg z, if_neg z, mvA_o _ (by omega) (by omega)]
      rw [this]; rfl
    · rw [fup_n (by omega), fup_n (by omega), fup_n (by omega), eo 2 (by omega) (by omega) (by omega)]; rfl
    · rw [fup_n (by omega), fup_n (by omega), fup_n (by omega), eo 3 (by omega) (by omega) (by omega)]; rfl
    · rw [fup_n (by omega), fup_n (by omega), fup_n (by omega), e4]
      show some (pv (S 4 m.toNat) (A 8 (S 4 m.toNat))) = _
      by_cases z : S 4 m.toNat = (s : Int)
      · rw [if_pos z, z, mvA_8, if_pos rfl, pv_r (by omega), pv_r (by omega)]
      · rw [if_neg z, mvA_8]
        by_cases y : S 4 m.toNat < 0
        · rw [pv_n y, pv_n y]
        · have pl := par_lv hT (by omega) y
          rw [if_neg (deadne _ pl.1 pl.2.2)]
    · by_cases z : m = (s : Int)
      · have : i = (d : Int) := by
          by_cases y : i = (d : Int)
          · exact y
          · rw [if_neg y] at em; omega
        rw [z, fup_e, this]
      · have : i = m := by
          by_cases y : i = (d : Int)
          · rw [if_pos y] at em; omega
          · rw [if_neg y] at em; exact em
        rw [fup_n (fun x => z x.2.1), fup_n (by omega), fup_n (by omega), this]; rfl
    · rw [fup_n (by omega), fup_n (by omega), fup_n (by omega), eo 7 (by omega) (by omega) (by omega), mvA_o 6 (by omega) (by omega)]; rfl
    · rw [eo 7 (by omega) (by omega) (by omega)] at x
      rw [fup_n (by omega), fup_n (by omega), fup_n (by omega), eo 8 (by omega) (by omega) (by omega)]
      show Fcap A S m 6 = _
      unfold Fcap
      simp [x]
    · rw [fup_n (by omega), fup_n (by omega), fup_n (by omega), e 9 (by omega), hI.2 _ (by omega)]
      show some (Value.int (xi (S 9 m.toNat))) = _
      rw [hI.2 _ (by omega)]
  rw [fup_n (fun x => c8 x.1)]
  by_cases c0 : k = 0
  · obtain ⟨i0, i1, i2⟩ := livT k i u (Or.inr c0)
    rw [c0] at u q ⊢
    obtain ⟨g1, g2, g3, g4⟩ := lvi i i0 i1 i2
    have mbi := mb i i0 i1
    have eo : ∀ j, 1 ≤ j → j < 9 → j ≠ 4 → T j i.toNat = S j (if i = (d : Int) then (s : Int) else i).toNat := by
      intro j a b c
      rw [mbi]; exact o j _ a b c (by omega)
    rw [io0, fup_n (by omega), fup_n (by omega), Funt_v]
    rw [Funt_v] at q
    generalize em : (if i = (d : Int) then (s : Int) else i) = m at *
    revert q
    refine Funt_all (p := fun f v => Funt S m f = some v) ?_ ?_ ?_ (fun x => ?_) f v
    · rfl
    · rw [eo 1 (by omega) (by omega) (by omega)]; rfl
    · rw [eo 5 (by omega) (by omega) (by omega)]
      unfold Funt
      simp
    · rw [eo 6 (by omega) (by omega) (by omega)]
      have : ¬ s_children S m = 0 := by
        rw [children_ex] at x ⊢
        obtain ⟨z, z1, z2, z3⟩ := x
        obtain ⟨y1, y2, y3⟩ := lv z z1 z2
        refine ⟨mvB s d z, y2, by omega, ?_⟩
        rw [h4 z z1] at z3
        have e2 : (if z = d then s else z) = mvB s d z := rfl
        rw [e2] at z3
        by_cases y : S 4 (mvB s d z) = (s : Int)
        · rw [if_pos y] at z3
          rw [if_pos z3.symm] at em
          omega
        · rw [if_neg y] at z3
          have pl := par_lv hT y2 (by omega)
          have := deadne _ pl.1 pl.2.2
          rw [if_neg (by omega)] at em
          omega
      unfold Funt
      simp [this]
  rw [ion k i c8 c0]
  by_cases c12 : k = 12
  · rw [c12] at u q ⊢
    have q : Fker (mvA A (s : Int) (d : Int)) T i f = some v := q
    by_cases ci : i = 1
    · rw [ci] at q ⊢
      have q : (if f < 128 then some (pv (T 0 f) (mvA A (s : Int) (d : Int) 8 (f : Int))) else none) = some v := q
      by_cases cd : f = d
      · rw [cd, fup_e]
        rw [cd, if_pos hd8, h0 d hd8, if_neg (by omega), if_pos rfl, mvA_8, if_pos rfl, pv_r (by omega)] at q
        exact q
      rw [fup_n (by omega)]
      by_cases cs : f = s
      · rw [cs, fup_e]
        rw [cs, if_pos hs8, h0 s hs8, if_pos rfl, pv_n (by omega)] at q
        exact q
      · rw [fup_n (by omega), ← q]
        show (if f < 128 then some (pv (S 0 f) (A 8 (f : Int))) else none) = _
        by_cases f1 : f < 128
        · rw [if_pos f1, if_pos f1, h0 f f1, if_neg cs, if_neg cd, mvA_8, if_neg (by omega)]
        · rw [if_neg f1, if_neg f1]
    · rw [fup_n (by omega), fup_n (by omega), ← q]
      exact (Fker_oth mvA_o (fun j hj => e j (by omega)) ci).symm
  rw [fup_n (fun x => c12 x.1), fup_n (fun x => c12 x.1)]
  by_cases c11 : k = 11
  · rw [c11] at u q ⊢
    have h6 : hd T 6 i := by
      unfold us at u
      rcases u with z | z | z | z | z | z | z
      all_goals first | exact z.2 | omega
    have i0 := hIT.1.2.1.hd h6
    have q : (if f < 4 then some (pv (s_frameOf T i f) (mvA A (s : Int) (d : Int) 8 (s_frameOf T i f))) else none) = some v := q
    show (if f < 4 then some (pv (s_frameOf S i f) (A 8 (s_frameOf S i f))) else none) = some v
    rw [← q]
    by_cases z : 0 ≤ s_frameOf T i f
    · obtain ⟨y1, y2, y3, y4⟩ := frameOf_is z
      obtain ⟨x1, x2, x3⟩ := lv _ (by omega) (by omega : 0 ≤ T 0 (s_frameOf T i f).toNat)
      have fe := frameOf_eq hI.1.2.2.2.2.2.2.2.2.2.2.1 (l := i) (e := f) x2 (by rw [← x3]; exact y2) (by rw [← o 7 _ (by omega) (by omega) (by omega) (by omega)]; exact y3) (by rw [← o 8 _ (by omega) (by omega) (by omega) (by omega)]; exact y4) (by omega)
      rw [fe, mvA_8, pv_r (by omega), pv_r (by omega)]
      have : (if s_frameOf T i f = (d : Int) then (s : Int) else s_frameOf T i f) = ((mvB s d (s_frameOf T i f).toNat : Nat) : Int) := by
        unfold mvB
        by_cases c : s_frameOf T i f = (d : Int)
        · rw [if_pos c, if_pos (by omega)]
        · rw [if_neg c, if_neg (by omega)]; omega
      rw [this]
    · have fn : s_frameOf S i f = -1 := by
        refine frameOf_no (fun p p1 p2 p3 p4 => ?_)
        have hx : ∀ x : Nat, x < 128 → x ≠ s → mvB s d x = p → False := by
          intro x x1 x2 x3
          have t0 : T 0 x = S 0 p := by
            rw [h0 x x1, if_neg x2]
            unfold mvB at x3
            by_cases c : x = d
            · rw [if_pos c] at x3 ⊢; rw [x3]
            · rw [if_neg c] at x3 ⊢; rw [x3]
          have := frameOf_eq hIT.1.2.2.2.2.2.2.2.2.2.2.1 (l := i) (e := f) x1 (by rw [t0]; exact p2) (by rw [o 7 x (by omega) (by omega) (by omega) x1, x3]; exact p3) (by rw [o 8 x (by omega) (by omega) (by omega) x1, x3]; exact p4) (by omega)
          omega
        by_cases c : p = s
        · exact hx d hd8 (by omega) (by unfold mvB; rw [if_pos rfl, c])
        · exact hx p p1 c (by unfold mvB; rw [if_neg (fun x => by rw [x] at p2; omega)])
      rw [fn, pv_n (by omega), pv_n (by omega)]
  by_cases c10 : k = 10
  · rw [c10] at u q ⊢
    have q : (if f < 4 then some (pv (s_leafOf T i f) (mvA A (s : Int) (d : Int) 6 (s_leafOf T i f))) else none) = some v := q
    have fe : s_leafOf T i f = s_leafOf S i f := by
      unfold s_leafOf
      refine lfL_cg2 (fun z hz => ⟨?_, hh 6 _ (by omega)⟩) i f 32 0 (by omega)
      by_cases y : hd T 6 (4 * (z : Int))
      · exact Or.inl ⟨y, by rw [e 25 (by omega)], by rw [e 26 (by omega)]⟩
      · exact Or.inr y
    rw [fe, mvA_o 6 (by omega) (by omega)] at q
    exact q
  · rw [← q]
    exact (Fv_oth mvA_o (fun j hj => e j (by omega)) (by omega)).symm
