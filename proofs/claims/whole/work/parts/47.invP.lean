theorem firstL_is {S : xS} {how u : Int} : ∀ n : Nat, 0 ≤ firstL S how u n → (firstL S how u n).toNat < n ∧ S 10 (firstL S how u n).toNat = how ∧ S 19 (firstL S how u n).toNat = u := by
  intro n
  induction n with
  | zero => intro h; unfold firstL at h; omega
  | succ n ih =>
    intro h
    unfold firstL at h ⊢
    split
    next c => exact ⟨by omega, by rw [Int.toNat_natCast]; exact c.1, by rw [Int.toNat_natCast]; exact c.2.1⟩
    next c =>
      rw [if_neg c] at h
      have := ih h
      exact ⟨by omega, this.2⟩
theorem nowL_is {S : xS} : ∀ n : Nat, 0 ≤ nowL S n → (nowL S n).toNat < n ∧ S 10 (nowL S n).toNat = 2 := by
  intro n
  induction n with
  | zero => intro h; unfold nowL at h; omega
  | succ n ih =>
    intro h
    unfold nowL at h ⊢
    split
    next c => exact ⟨by omega, by rw [Int.toNat_natCast]; exact c.1⟩
    next c =>
      rw [if_neg c] at h
      have := ih h
      exact ⟨by omega, this.2⟩
theorem Inv.hears {S : xS} (h : Inv S) {t n : Int} (hn : x_r n) : Inv (s_hears S t n) := by
  unfold s_hears
  exact ((h.scal (by omega) hn).scal (by omega) x_r_0).scal (by omega) x_r_0
