/-! ===== THE INVARIANT OF THE NUMBERS: what is there, threads, maps, bells ===== -/
def hd (S : xS) (k u : Int) : Prop := ∃ p : Nat, p < 128 ∧ S 0 p = k ∧ S 1 p = u
theorem cntL_of (p : Nat → Prop) [DecidablePred p] : ∀ (n k : Nat), k < n → p k → 0 < cntL p n := by
  intro n
  induction n with
  | zero => intro k hk; omega
  | succ n ih =>
    intro k hk hp
    have h0 := cntL_in p n
    unfold cntL
    by_cases c : k = n
    · rw [if_pos (c ▸ hp)]; omega
    · have := ih k (by omega) hp
      split <;> omega
theorem s_hold_hd {S : xS} {k u : Int} : 0 < s_hold S k u ↔ hd S k u := by
  unfold s_hold hd
  constructor
  · intro h
    obtain ⟨p, h1, h2⟩ := cntL_ex _ _ h
    exact ⟨p, h1, h2⟩
  · rintro ⟨p, h1, h2⟩
    exact cntL_of _ _ p h1 h2
theorem s_there_hd {S : xS} {k u : Int} (hk : k ≠ 0) : s_there S k u ↔ 0 ≤ u ∧ u < 128 ∧ hd S k u := by
  unfold s_there s_holders
  rw [if_neg hk, s_hold_hd]
/-- the slots' numbers -/
def CapA (S : xS) : Prop := ∀ p, p < 128 → (-1 ≤ S 0 p ∧ S 0 p ≤ 7 ∧ 0 ≤ S 1 p ∧ S 1 p < 128) ∧ (0 ≤ S 0 p → S 1 p % szS S p = 0 ∧ S 1 p + szS S p ≤ 128 ∧ (0 ≤ S 2 p ∧ S 2 p ≤ 7 ∧ 0 ≤ S 3 p ∧ S 3 p ≤ 255 ∧ 0 ≤ S 6 p ∧ S 6 p ≤ 128) ∧ (S 0 p = 0 → 1 ≤ S 5 p ∧ S 5 p ≤ 6))
/-- a slot that holds something and is not marked lies in a table that is there -/
def CapT (S : xS) : Prop := ∀ p : Nat, p < 128 → 0 ≤ S 0 p → S 9 p = 0 → hd S 1 (16 * ((p : Int) / 16))
def DooI (S : xS) : Prop := ∀ p, p < 128 → S 9 p = 0 ∨ (S 9 p = 1 ∧ 0 ≤ S 0 p)
/-- threads -/
def ThA (S : xS) : Prop := ∀ t : Nat, t < 16 → (0 ≤ S 10 t ∧ S 10 t ≤ 5) ∧ (S 10 t ≠ 0 ↔ hd S 2 (8 * (t : Int))) ∧ (S 11 t = -1 ∨ (0 ≤ S 11 t ∧ S 11 t ≤ 112))
def ThB (S : xS) : Prop := ∀ t : Nat, t < 16 → S 10 t ≠ 0 → (0 ≤ S 13 t ∧ S 13 t ≤ 3) ∧ (S 11 t = -1 ∨ hd S 1 (S 11 t)) ∧ (S 12 t = -1 ∨ hd S 5 (S 12 t)) ∧ (S 10 t = 3 ∨ S 10 t = 4 → hd S 3 (S 19 t)) ∧ (S 10 t = 5 → hd S 4 (S 19 t)) ∧ (S 10 t = 2 → 1 ≤ S 14 t ∧ S 14 t ≤ 3)
/-- no two came at one time, none later than now -/
def ThC (S : xS) : Prop := 0 ≤ S 28 0 ∧ (∀ t, t < 16 → 2 ≤ S 10 t → S 18 t ≤ S 28 0) ∧ (∀ t t', t < 16 → t' < 16 → t ≠ t' → 2 ≤ S 10 t → 2 ≤ S 10 t' → S 18 t ≠ S 18 t')
/-- senders and receivers do not wait at one gate -/
def ThD (S : xS) : Prop := ∀ t t', t < 16 → t' < 16 → S 10 t = 3 → S 10 t' = 4 → S 19 t ≠ S 19 t'
/-- leaves in spaces -/
def MpA (S : xS) : Prop := (∀ l : Nat, l < 32 → hd S 6 (4 * (l : Int)) → S 25 l = -1 ∨ (hd S 5 (S 25 l) ∧ 0 ≤ S 26 l ∧ S 26 l ≤ 3)) ∧
  (∀ l l' : Nat, l < 32 → l' < 32 → l ≠ l' → hd S 6 (4 * (l : Int)) → hd S 6 (4 * (l' : Int)) → S 25 l ≠ -1 → S 25 l = S 25 l' → S 26 l ≠ S 26 l')
/-- frames in leaves -/
def MpB (S : xS) : Prop := (∀ p : Nat, p < 128 → 0 ≤ S 0 p → S 7 p = -1 ∨ (S 0 p = 7 ∧ hd S 6 (S 7 p) ∧ 0 ≤ S 8 p ∧ S 8 p ≤ 3)) ∧
  (∀ p p' : Nat, p < 128 → p' < 128 → p ≠ p' → 0 ≤ S 0 p → 0 ≤ S 0 p' → S 7 p ≠ -1 → S 7 p = S 7 p' → S 8 p ≠ S 8 p')
/-- bells -/
def BeI (S : xS) : Prop := (∀ q, q < 64 → 0 ≤ S 24 q ∧ S 24 q < 512) ∧ (∀ q, q < 4 → S 27 q = -1 ∨ hd S 4 (S 27 q))
/-- all of it, also in the middle of a sweep -/
def InvW (S : xS) : Prop := RgS S ∧ CapA S ∧ CapM S ∧ CapT S ∧ DooI S ∧ ThA S ∧ ThB S ∧ ThC S ∧ ThD S ∧ MpA S ∧ MpB S ∧ BeI S
def Inv (S : xS) : Prop := InvW S ∧ ∀ p, p < 128 → S 9 p = 0
theorem CapA.tab {S : xS} (h : CapA S) {p : Nat} (hp : p < 128) (hk : S 0 p = 1) : S 1 p ≤ 112 ∧ S 1 p % 16 = 0 := by
  have g := (h p hp).2 (by omega)
  have e : szS S p = 16 := by unfold szS s_size; rw [hk]; rfl
  rw [e] at g
  exact ⟨by omega, g.1⟩
theorem CapA.hd {S : xS} (h : CapA S) {k u : Int} (g : hd S k u) : 0 ≤ u ∧ u < 128 := by
  obtain ⟨p, h1, h2, h3⟩ := g
  have := (h p h1).1
  omega
theorem InvW.iw {S : xS} (h : InvW S) : IW S := ⟨h.1, fun s hs => ⟨((h.2.1 s hs).1).2.2.1, ((h.2.1 s hs).1).2.2.2⟩, h.2.2.1.1⟩
theorem Inv.gs {S : xS} (h : Inv S) : GS S := by
  obtain ⟨hw, hd0⟩ := h
  have hiw := hw.iw
  obtain ⟨hR, hA, hM, hT, hD, tA, tB, tC, tD, mA, mB, hB⟩ := hw
  refine ⟨⟨hR, fun t ht => (tA t ht).2.2, fun s hs _ => hiw.2.1 s hs, fun s hs hk => (hA.tab hs hk).1⟩, hiw, fun s hs => ⟨((hA s hs).1).1, ((hA s hs).1).2.1⟩, fun s hs hl => ((hA s hs).2 hl).2.2.1, fun s hs hk => ((hA s hs).2 (by omega)).2.2.2 hk, hB.1, fun q hq => ?_, hd0⟩
  rcases hB.2 q hq with e | e
  · exact Or.inl e
  · exact Or.inr (hA.hd e)
theorem Inv.hm {S : xS} (h : Inv S) : ∀ s, s < 128 → S 0 s = 0 → S 1 s + s_size 0 (S 5 s) ≤ 128 := by
  intro s hs hk
  have g := ((h.1.2.1 s hs).2 (by omega)).2.1
  unfold szS at g
  rw [hk] at g
  exact g
