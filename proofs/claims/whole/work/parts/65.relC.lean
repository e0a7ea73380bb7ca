/-! ===== lines ===== -/
theorem mnL_in (q : Nat → Int) (p : Nat → Prop) [DecidablePred p] : ∀ n : Nat, -1 ≤ mnL q p n ∧ mnL q p n < n := by
  intro n
  induction n with
  | zero => exact ⟨by unfold mnL; omega, by unfold mnL; omega⟩
  | succ n ih => unfold mnL; split <;> omega
theorem mnL_spec (q : Nat → Int) (p : Nat → Prop) [DecidablePred p] : ∀ n : Nat, (mnL q p n < 0 ∧ ∀ t, t < n → ¬ p t) ∨ (0 ≤ mnL q p n ∧ p (mnL q p n).toNat ∧ ∀ t, t < n → p t → q (mnL q p n).toNat ≤ q t) := by
  intro n
  induction n with
  | zero => exact Or.inl ⟨by unfold mnL; omega, fun t ht => by omega⟩
  | succ n ih =>
    by_cases c : p n ∧ (mnL q p n < 0 ∨ q n < q (mnL q p n).toNat)
    · have e : mnL q p (n + 1) = (n : Int) := by unfold mnL; rw [if_pos c]
      rw [e, Int.toNat_natCast]
      refine Or.inr ⟨by omega, c.1, fun t ht hp => ?_⟩
      by_cases k : t = n
      · rw [k]; exact Int.le_refl _
      · rcases ih with i | i
        · exact absurd hp (i.2 t (by omega))
        · have := i.2.2 t (by omega) hp
          omega
    · have e : mnL q p (n + 1) = mnL q p n := by
        conv => lhs; unfold mnL
        rw [if_neg c]
      rw [e]
      rcases ih with i | i
      · refine Or.inl ⟨i.1, fun t ht => ?_⟩
        by_cases k : t = n
        · rw [k]; exact fun hp => c ⟨hp, Or.inl i.1⟩
        · exact i.2 t (by omega)
      · refine Or.inr ⟨i.1, i.2.1, fun t ht hp => ?_⟩
        by_cases k : t = n
        · rw [k] at hp ⊢
          have : ¬ q n < q (mnL q p n).toNat := fun x => c ⟨hp, Or.inr x⟩
          omega
        · exact i.2.2 t (by omega) hp
theorem mnL_eq {q : Nat → Int} {p : Nat → Prop} [DecidablePred p] {n t : Nat} (ht : t < n) (hp : p t) (hm : ∀ t', t' < n → p t' → t' ≠ t → q t < q t') : mnL q p n = (t : Int) := by
  have i := mnL_in q p n
  rcases mnL_spec q p n with s | s
  · exact absurd hp (s.2 t ht)
  · by_cases c : (mnL q p n).toNat = t
    · omega
    · have := hm _ (by omega) s.2.1 c
      have := s.2.2 t ht hp
      omega
theorem mnL_no {q : Nat → Int} {p : Nat → Prop} [DecidablePred p] {n : Nat} (h : ∀ t, t < n → ¬ p t) : mnL q p n = -1 := by
  have i := mnL_in q p n
  rcases mnL_spec q p n with s | s
  · omega
  · exact absurd s.2.1 (h _ (by omega))
theorem mnL_cg {q q' : Nat → Int} {p p' : Nat → Prop} [DecidablePred p] [DecidablePred p'] : ∀ {n : Nat}, (∀ t, t < n → (p t ↔ p' t)) → (∀ t, t < n → p t → q t = q' t) → mnL q p n = mnL q' p' n := by
  intro n
  induction n with
  | zero => intro _ _; rfl
  | succ n ih =>
    intro h1 h2
    have e := ih (fun t ht => h1 t (by omega)) (fun t ht => h2 t (by omega))
    have k1 := h1 n (by omega)
    unfold mnL
    rw [e]
    have s := mnL_spec q p n
    rw [e] at s
    have i := mnL_in q' p' n
    by_cases c : p n
    · have c' := k1.1 c
      rw [h2 n (by omega) c]
      rcases s with s | s
      · rw [if_pos ⟨c, Or.inl s.1⟩, if_pos ⟨c', Or.inl s.1⟩]
      · rw [h2 _ (by omega) s.2.1]
        by_cases d : q' n < q' (mnL q' p' n).toNat
        · rw [if_pos ⟨c, Or.inr d⟩, if_pos ⟨c', Or.inr d⟩]
        · rw [if_neg (fun x => x.2.elim (by omega) d), if_neg (fun x => x.2.elim (by omega) d)]
    · rw [if_neg (fun x => c x.1), if_neg (fun x => c (k1.2 x.1))]
theorem firstL_mn (S : xS) (how u : Int) : ∀ n, firstL S how u n = mnL (S 18) (fun t => S 10 t = how ∧ S 19 t = u) n := by
  intro n
  induction n with
  | zero => rfl
  | succ n ih =>
    unfold firstL mnL
    rw [ih]
    simp only [and_assoc]
theorem nowL_spec (S : xS) : ∀ n : Nat, (nowL S n < 0 ∧ ∀ t, t < n → S 10 t ≠ 2) ∨ (0 ≤ nowL S n ∧ nowL S n < n ∧ S 10 (nowL S n).toNat = 2 ∧ ∀ t, t < n → S 10 t = 2 → (S 13 t < S 13 (nowL S n).toNat ∨ (S 13 t = S 13 (nowL S n).toNat ∧ S 18 (nowL S n).toNat ≤ S 18 t))) := by
  intro n
  induction n with
  | zero => exact Or.inl ⟨by unfold nowL; omega, fun t ht => by omega⟩
  | succ n ih =>
    unfold nowL
    split
    next c =>
      rw [Int.toNat_natCast]
      refine Or.inr ⟨by omega, by omega, c.1, fun t ht hp => ?_⟩
      by_cases k : t = n
      · rw [k]; exact Or.inr ⟨rfl, Int.le_refl _⟩
      · rcases ih with i | i
        · exact absurd hp (i.2 t (by omega))
        · have := i.2.2.2 t (by omega) hp
          omega
    next c =>
      rcases ih with i | i
      · refine Or.inl ⟨i.1, fun t ht hp => ?_⟩
        by_cases k : t = n
        · rw [k] at hp
          exact c ⟨hp, Or.inl i.1⟩
        · exact i.2 t (by omega) hp
      · refine Or.inr ⟨i.1, by omega, i.2.2.1, fun t ht hp => ?_⟩
        by_cases k : t = n
        · rw [k] at hp ⊢
          have c2 := fun x => c ⟨hp, x⟩
          omega
        · exact i.2.2.2 t (by omega) hp
theorem lid_rd (S : xS) {t : Nat} {q : Int} (hq : 0 ≤ q ∧ q < 4) (h19 : 3 ≤ S 10 t → 0 ≤ S 19 t) : lid S t = q ↔ (S 10 t = 2 ∧ S 13 t = q) := by
  unfold lid
  split
  · omega
  split
  · omega
  · omega
/-- the running thread stands first in the first line that is not empty -/
theorem now_lin {S : xS} (hI : Inv S) : (∀ q : Int, 0 ≤ q → q < 4 → 0 ≤ fstL S (lid S) q → (∀ q', q < q' → q' < 4 → fstL S (lid S) q' < 0) → s_now S = fstL S (lid S) q) ∧ ((∀ q : Int, 0 ≤ q → q < 4 → fstL S (lid S) q < 0) → s_now S < 0) := by
  have hA := hI.1.2.1
  have tA := hI.1.2.2.2.2.2.1
  have tB := hI.1.2.2.2.2.2.2.1
  have tC := hI.1.2.2.2.2.2.2.2.1
  have h19 : ∀ t, t < 16 → 3 ≤ S 10 t → 0 ≤ S 19 t := by
    intro t ht g
    have a := tA t ht
    have b := tB t ht (by omega)
    rcases (by omega : (S 10 t = 3 ∨ S 10 t = 4) ∨ S 10 t = 5) with c | c
    · exact (hA.hd (b.2.2.2.1 c)).1
    · exact (hA.hd (b.2.2.2.2.1 c)).1
  have sp := nowL_spec S 16
  refine ⟨fun q q0 q1 hf hn => ?_, fun hn => ?_⟩
  · have i := mnL_in (S 18) (fun t => lid S t = q) 16
    rcases mnL_spec (S 18) (fun t => lid S t = q) 16 with s | s
    · unfold fstL at hf; omega
    · have s2 := (lid_rd S ⟨q0, q1⟩ (h19 _ (by omega))).1 s.2.1
      unfold s_now
      rcases sp with sp | sp
      · exact absurd s2.1 (sp.2 _ (by omega))
      · have b := tB (nowL S 16).toNat (by omega) (by omega)
        have m1 := sp.2.2.2 _ (by omega) s2.1
        have e : S 13 (nowL S 16).toNat = q := by
          by_cases c : q < S 13 (nowL S 16).toNat
          · exfalso
            have n1 := hn _ c (by omega)
            rcases mnL_spec (S 18) (fun t => lid S t = S 13 (nowL S 16).toNat) 16 with z | z
            · exact z.2 _ (by omega) ((lid_rd S ⟨by omega, by omega⟩ (h19 _ (by omega))).2 ⟨sp.2.2.1, rfl⟩)
            · unfold fstL at n1; omega
          · omega
        have m2 := s.2.2 (nowL S 16).toNat (by omega) ((lid_rd S ⟨q0, q1⟩ (h19 _ (by omega))).2 ⟨sp.2.2.1, e⟩)
        unfold fstL
        by_cases c : (nowL S 16).toNat = (mnL (S 18) (fun t => lid S t = q) 16).toNat
        · omega
        · have := tC.2.2 _ _ (by omega) (by omega) c (by omega) (by omega)
          omega
  · unfold s_now
    rcases sp with sp | sp
    · exact sp.1
    · exfalso
      have b := tB (nowL S 16).toNat (by omega) (by omega)
      have n1 := hn (S 13 (nowL S 16).toNat) (by omega) (by omega)
      rcases mnL_spec (S 18) (fun t => lid S t = S 13 (nowL S 16).toNat) 16 with z | z
      · exact z.2 _ (by omega) ((lid_rd S ⟨by omega, by omega⟩ (h19 _ (by omega))).2 ⟨sp.2.2.1, rfl⟩)
      · unfold fstL at n1; omega
