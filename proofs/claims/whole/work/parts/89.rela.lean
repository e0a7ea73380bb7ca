theorem Fcap_all {A : xA} {S : xS} {i : Int} {p : Nat → Value → Prop} (h0 : p 0 (.ref (thA A S i))) (h1 : p 1 (.int (xi (S 2 i.toNat)))) (h2 : p 2 (.int (xi (S 3 i.toNat)))) (h3 : p 3 (pv (S 4 i.toNat) (A 8 (S 4 i.toNat)))) (h4 : p 4 (.int (xi i))) (h5 : p 5 (pv (S 7 i.toNat) (A 6 (S 7 i.toNat)))) (h6 : ¬ S 7 i.toNat < 0 → p 6 (.int (xi (S 8 i.toNat)))) (h7 : p 7 (.int (xi (S 9 i.toNat)))) : ∀ f v, Fcap A S i f = some v → p f v := by
  intro f v e
  unfold Fcap at e
  by_cases c0 : f = 0
  · rw [if_pos c0] at e; rw [c0, ← Option.some.inj e]; exact h0
  rw [if_neg c0] at e
  by_cases c1 : f = 1
  · rw [if_pos c1] at e; rw [c1, ← Option.some.inj e]; exact h1
  rw [if_neg c1] at e
  by_cases c2 : f = 2
  · rw [if_pos c2] at e; rw [c2, ← Option.some.inj e]; exact h2
  rw [if_neg c2] at e
  by_cases c3 : f = 3
  · rw [if_pos c3] at e; rw [c3, ← Option.some.inj e]; exact h3
  rw [if_neg c3] at e
  by_cases c4 : f = 4
  · rw [if_pos c4] at e; rw [c4, ← Option.some.inj e]; exact h4
  rw [if_neg c4] at e
  by_cases c5 : f = 5
  · rw [if_pos c5] at e; rw [c5, ← Option.some.inj e]; exact h5
  rw [if_neg c5] at e
  by_cases c6 : f = 6
  · rw [if_pos c6] at e
    by_cases d : S 7 i.toNat < 0
    · rw [if_pos d] at e; cases e
    · rw [if_neg d] at e; rw [c6, ← Option.some.inj e]; exact h6 d
  rw [if_neg c6] at e
  by_cases c7 : f = 7
  · rw [if_pos c7] at e; rw [c7, ← Option.some.inj e]; exact h7
  rw [if_neg c7] at e
  cases e
theorem lfL_cg2 {S S' : xS} (hh : ∀ q : Nat, q < 32 → ((hd S' 6 (4 * (q : Int)) ∧ S' 25 q = S 25 q ∧ S' 26 q = S 26 q) ∨ (¬ hd S' 6 (4 * (q : Int)))) ∧ (hd S' 6 (4 * (q : Int)) ↔ hd S 6 (4 * (q : Int)))) (u e : Int) : ∀ n q, q + n ≤ 32 → lfL S' u e n q = lfL S u e n q := by
  intro n
  induction n with
  | zero => intro q _; rfl
  | succ n ih =>
    intro q hq
    unfold lfL
    rw [ih (q + 1) (by omega)]
    have k := hh q (by omega)
    have a := s_there_hd (S := S') (k := 6) (u := 4 * (q : Int)) (by omega)
    have b := s_there_hd (S := S) (k := 6) (u := 4 * (q : Int)) (by omega)
    by_cases c : s_there S 6 (4 * (q : Int)) ∧ S 25 q = u ∧ S 26 q = e
    · have g := b.1 c.1
      have g' := k.2.2 g.2.2
      have z := k.1.resolve_right (fun x => x g')
      rw [if_pos c, if_pos ⟨a.2 ⟨g.1, g.2.1, g'⟩, by rw [z.2.1]; exact c.2.1, by rw [z.2.2]; exact c.2.2⟩]
    · rw [if_neg c, if_neg]
      intro x
      have g' := a.1 x.1
      have z := k.1.resolve_right (fun y => y g'.2.2)
      exact c ⟨b.2 ⟨g'.1, g'.2.1, k.2.1 g'.2.2⟩, by rw [← z.2.1]; exact x.2.1, by rw [← z.2.2]; exact x.2.2⟩
theorem frL_cg2 {S S' : xS} {l e : Int} (hh : ∀ q : Nat, q < 128 → ((S' 0 q = 7 ∧ S' 7 q = l ∧ S' 8 q = e) ↔ (S 0 q = 7 ∧ S 7 q = l ∧ S 8 q = e))) : ∀ n q, q + n ≤ 128 → frL S' l e n q = frL S l e n q := by
  intro n
  induction n with
  | zero => intro q _; rfl
  | succ n ih =>
    intro q hq
    unfold frL
    rw [ih (q + 1) (by omega)]
    have k := hh q (by omega)
    by_cases c : S 0 q = 7 ∧ S 7 q = l ∧ S 8 q = e
    · rw [if_pos c, if_pos (k.2 c)]
    · rw [if_neg c, if_neg (fun x => c (k.1 x))]
/-- things and lines, when only capabilities have changed -/
theorem Fv_oth {A A' : xA} {S S' : xS} {ln : Nat → Int} (hA : ∀ k, k ≠ 8 → k ≠ 0 → A' k = A k) (e : ∀ j, 10 ≤ j → S' j = S j) {k i : Int} {f : Nat} (hk : (1 ≤ k ∧ k < 8) ∨ k = 9) : xFv A' S' ln k i f = xFv A S ln k i f := by
  have hd : ∀ j, dep k j → S' j = S j := by
    intro j hj
    unfold dep at hj
    refine e j ?_
    rw [if_neg (by omega)] at hj
    by_cases k2 : k = 2
    · rw [if_pos k2] at hj; omega
    rw [if_neg k2] at hj
    by_cases k8 : k < 8
    · rw [if_pos k8] at hj; omega
    rw [if_neg k8, if_neg (by omega), if_pos (by omega)] at hj
    omega
  rw [Fv_dep hd]
  unfold xFv
  have n0 : ¬ k = 0 := by omega
  have n8 : ¬ k = 8 := by omega
  simp only [n0, n8, if_false]
  by_cases k2 : k = 2
  · rw [if_pos k2, if_pos k2]
    unfold Fthr
    rw [hA 1 (by omega) (by omega), hA 5 (by omega) (by omega), hA 9 (by omega) (by omega), hA 2 (by omega) (by omega)]
  rw [if_neg k2, if_neg k2]
  by_cases k8 : k < 8
  · rw [if_pos k8, if_pos k8]
    unfold Fthi
    rw [hA 9 (by omega) (by omega), hA 10 (by omega) (by omega), hA 5 (by omega) (by omega), hA 11 (by omega) (by omega)]
  rw [if_neg k8, if_neg k8, if_pos (by omega), if_pos (by omega)]
  unfold Flin
  rw [hA 2 (by omega) (by omega)]
/-- the kernel's arrays but the slots -/
theorem Fker_oth {A A' : xA} {S S' : xS} (hA : ∀ k, k ≠ 8 → k ≠ 0 → A' k = A k) (e : ∀ j, 10 ≤ j → S' j = S j) {i : Int} {f : Nat} (hi : i ≠ 1) : Fker A' S' i f = Fker A S i f := by
  unfold Fker
  simp only [if_neg hi]
  rw [hA 12 (by omega) (by omega), hA 2 (by omega) (by omega), hA 9 (by omega) (by omega), hA 4 (by omega) (by omega), e 10 (by omega), e 27 (by omega)]
theorem Fcap_cg {A A' : xA} {S S' : xS} {i : Int} (e : ∀ j, j < 10 → j ≠ 5 → j ≠ 6 → S' j i.toNat = S j i.toNat) (ht : thA A' S' i = thA A S i) (hp : ¬ S 4 i.toNat < 0 → A' 8 (S 4 i.toNat) = A 8 (S 4 i.toNat)) (h6 : A' 6 = A 6) (f : Nat) : Fcap A' S' i f = Fcap A S i f := by
  unfold Fcap
  have q : pv (S 4 i.toNat) (A' 8 (S 4 i.toNat)) = pv (S 4 i.toNat) (A 8 (S 4 i.toNat)) := by
    by_cases c : S 4 i.toNat < 0
    · rw [pv_n c, pv_n c]
    · rw [hp c]
  rw [e 2 (by omega) (by omega) (by omega), e 3 (by omega) (by omega) (by omega), e 4 (by omega) (by omega) (by omega), e 7 (by omega) (by omega) (by omega), e 8 (by omega) (by omega) (by omega), e 9 (by omega) (by omega) (by omega), ht, h6, q]
