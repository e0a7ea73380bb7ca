/-! ===== THE INVARIANT OF THE NUMBERS: capabilities, their tree, memory ===== -/
/-- p is above q in the tree of capabilities -/
def ancN (S : xS) (p : Nat) : Nat → Nat → Prop
  | 0, q => q < 128 ∧ 0 ≤ S 0 q ∧ S 4 q = (p : Int)
  | n + 1, q => q < 128 ∧ 0 ≤ S 0 q ∧ ∃ m : Nat, S 4 q = (m : Int) ∧ ancN S p n m
def Anc (S : xS) (p q : Nat) : Prop := ∃ n, ancN S p n q
theorem Anc.one {S : xS} {p q : Nat} (h1 : q < 128) (h2 : 0 ≤ S 0 q) (h3 : S 4 q = (p : Int)) : Anc S p q := ⟨0, h1, h2, h3⟩
theorem Anc.more {S : xS} {p q r : Nat} (h : Anc S p q) (h1 : r < 128) (h2 : 0 ≤ S 0 r) (h3 : S 4 r = (q : Int)) : Anc S p r := by
  obtain ⟨n, h⟩ := h
  exact ⟨n + 1, h1, h2, q, h3, h⟩
theorem Anc.ind {S : xS} {p : Nat} {C : (q : Nat) → Anc S p q → Prop} (one : ∀ {q : Nat} (h1 : q < 128) (h2 : 0 ≤ S 0 q) (h3 : S 4 q = (p : Int)), C q (Anc.one h1 h2 h3)) (more : ∀ {q r : Nat} (h : Anc S p q) (h1 : r < 128) (h2 : 0 ≤ S 0 r) (h3 : S 4 r = (q : Int)), C q h → C r (Anc.more h h1 h2 h3)) {q : Nat} (h : Anc S p q) : C q h := by
  obtain ⟨n, h⟩ := h
  have key : ∀ (n : Nat) (q : Nat) (h : ancN S p n q), C q ⟨n, h⟩ := by
    intro n
    induction n with
    | zero => intro q h; exact one h.1 h.2.1 h.2.2
    | succ n ih =>
      intro q h
      obtain ⟨m, g1, g2⟩ := h.2.2
      exact more ⟨n, g2⟩ h.1 h.2.1 g1 (ih m g2)
  exact key n q h
theorem Anc.lv {S : xS} {p q : Nat} (h : Anc S p q) : q < 128 ∧ 0 ≤ S 0 q := by
  obtain ⟨n, h⟩ := h
  cases n with
  | zero => exact ⟨h.1, h.2.1⟩
  | succ n => exact ⟨h.1, h.2.1⟩
theorem Anc.top {S : xS} (hT : TrS S) {p q : Nat} (h : Anc S p q) : p < 128 ∧ 0 ≤ S 0 p := by
  obtain ⟨rho, hT⟩ := hT
  induction h using Anc.ind with
  | @one q h1 h2 h3 =>
    rcases hT q h1 with g | ⟨g1, g2, g3, -⟩
    · omega
    · rw [h3] at g2 g3
      exact ⟨by omega, by simpa using g3⟩
  | more _ _ _ _ ih => exact ih
theorem Anc.rho {S : xS} {rho : Nat → Nat} (hT : ∀ q, q < 128 → S 4 q = -1 ∨ (0 ≤ S 4 q ∧ S 4 q < 128 ∧ 0 ≤ S 0 (S 4 q).toNat ∧ rho (S 4 q).toNat < rho q)) {p q : Nat} (h : Anc S p q) : rho p < rho q := by
  have key : ∀ (p q : Nat), q < 128 → S 4 q = (p : Int) → rho p < rho q := by
    intro p q h1 h3
    rcases hT q h1 with g | ⟨-, -, -, g4⟩
    · omega
    · rw [h3] at g4
      simpa using g4
  induction h using Anc.ind with
  | one h1 _ h3 => exact key _ _ h1 h3
  | more _ h1 _ h3 ih =>
    have := key _ _ h1 h3
    omega
theorem Anc.irr {S : xS} (hT : TrS S) {p : Nat} (h : Anc S p p) : False := by
  obtain ⟨rho, hT⟩ := hT
  have := Anc.rho hT h
  omega
theorem Anc.trans {S : xS} {p q r : Nat} (h : Anc S p q) (g : Anc S q r) : Anc S p r := by
  induction g using Anc.ind with
  | one h1 h2 h3 => exact .more h h1 h2 h3
  | more _ h1 h2 h3 ih => exact .more ih h1 h2 h3
/-- a child at the top of every chain -/
theorem Anc.child {S : xS} {p q : Nat} (h : Anc S p q) : ∃ c, c < 128 ∧ 0 ≤ S 0 c ∧ S 4 c = (p : Int) := by
  induction h using Anc.ind with
  | one h1 h2 h3 => exact ⟨_, h1, h2, h3⟩
  | more _ _ _ _ ih => exact ih
/-- the last step of a chain -/
theorem Anc.last {S : xS} {p q : Nat} (h : Anc S p q) : S 4 q = (p : Int) ∨ ∃ m, Anc S p m ∧ S 4 q = (m : Int) := by
  obtain ⟨n, h⟩ := h
  cases n with
  | zero => exact Or.inl h.2.2
  | succ n =>
    obtain ⟨m, g1, g2⟩ := h.2.2
    exact Or.inr ⟨m, ⟨n, g2⟩, g1⟩
/-! removing s -/
theorem Anc.rm1 {S S' : xS} {s : Nat} (hs : s < 128) (hl : 0 ≤ S 0 s) (h0 : ∀ q, q < 128 → S' 0 q = if q = s then -1 else S 0 q) (h4 : ∀ q, q < 128 → S' 4 q = if S 4 q = (s : Int) then S 4 s else S 4 q) {p q : Nat} (h : Anc S' p q) : Anc S p q := by
  have lv : ∀ q, q < 128 → 0 ≤ S' 0 q → q ≠ s ∧ 0 ≤ S 0 q := by
    intro q hq g
    rw [h0 q hq] at g
    split at g
    · omega
    · next c => exact ⟨c, g⟩
  induction h using Anc.ind with
  | @one q g1 g2 g3 =>
    have e := lv q g1 g2
    rw [h4 q g1] at g3
    split at g3
    next c => exact .more (.one hs hl g3) g1 e.2 c
    next c => exact .one g1 e.2 g3
  | @more q r _ g1 g2 g3 ih =>
    have e := lv r g1 g2
    rw [h4 r g1] at g3
    split at g3
    next c => exact .more (.more ih hs hl g3) g1 e.2 c
    next c => exact .more ih g1 e.2 g3
theorem Anc.rm2 {S S' : xS} {s : Nat} (hs : s < 128) (h0 : ∀ q, q < 128 → S' 0 q = if q = s then -1 else S 0 q) (h4 : ∀ q, q < 128 → S' 4 q = if S 4 q = (s : Int) then S 4 s else S 4 q) (hT : TrS S) {p q : Nat} (hp : p ≠ s) (h : Anc S p q) : (q ≠ s → Anc S' p q) ∧ (q = s → S 4 s = (p : Int) ∨ ∃ m, Anc S' p m ∧ S 4 s = (m : Int)) := by
  induction h using Anc.ind with
  | @one q g1 g2 g3 =>
    refine ⟨fun hq => ?_, fun hq => Or.inl (hq ▸ g3)⟩
    refine .one g1 (by rw [h0 q g1, if_neg hq]; exact g2) ?_
    rw [h4 q g1, if_neg (by omega)]
    exact g3
  | @more q r g0 g1 g2 g3 ih =>
    by_cases hq : q = s
    · have e : S 4 r = (s : Int) := by rw [g3, hq]
      have hr : r ≠ s := by
        intro hr
        rw [hr] at e
        exact hT.ne (s := (s : Int)) (by omega) (by omega) (by simpa using e)
      refine ⟨fun _ => ?_, fun c => absurd c hr⟩
      have e0 : 0 ≤ S' 0 r := by rw [h0 r g1, if_neg hr]; exact g2
      have e4 : S' 4 r = S 4 s := by rw [h4 r g1, if_pos e]
      rcases ih.2 hq with i | ⟨m, i1, i2⟩
      · exact .one g1 e0 (by rw [e4, i])
      · exact .more i1 g1 e0 (by rw [e4, i2])
    · have i := ih.1 hq
      refine ⟨fun hr => ?_, fun hr => Or.inr ⟨q, i, hr ▸ g3⟩⟩
      refine .more i g1 (by rw [h0 r g1, if_neg hr]; exact g2) ?_
      rw [h4 r g1, if_neg (by omega)]
      exact g3
/-! a new one at d, under f -/
theorem Anc.nw1 {S S' : xS} {d : Nat} (h0 : ∀ q, q < 128 → q ≠ d → S' 0 q = S 0 q) (h4 : ∀ q, q < 128 → q ≠ d → S' 4 q = S 4 q) {p q : Nat} (hd : ∀ q, q < 128 → 0 ≤ S 0 q → S 4 q ≠ (d : Int)) (h : Anc S p q) (hq : q ≠ d) : Anc S' p q := by
  induction h using Anc.ind with
  | @one q g1 g2 g3 => exact .one g1 (by rw [h0 q g1 hq]; exact g2) (by rw [h4 q g1 hq]; exact g3)
  | @more q r g0 g1 g2 g3 ih =>
    have : q ≠ d := by
      intro c
      rw [c] at g3
      exact hd r g1 g2 g3
    exact .more (ih this) g1 (by rw [h0 r g1 hq]; exact g2) (by rw [h4 r g1 hq]; exact g3)
theorem Anc.nw2 {S S' : xS} {d : Nat} {f : Int} (h0 : ∀ q, q < 128 → q ≠ d → S' 0 q = S 0 q) (h4 : ∀ q, q < 128 → q ≠ d → S' 4 q = S 4 q) (hf : S' 4 d = f) (hfd : f ≠ (d : Int)) {p q : Nat} (hd : ∀ q, q < 128 → 0 ≤ S 0 q → S 4 q ≠ (d : Int)) (h : Anc S' p q) : (q ≠ d → Anc S p q) ∧ (q = d → f = (p : Int) ∨ ∃ m : Nat, f = (m : Int) ∧ Anc S p m) := by
  induction h using Anc.ind with
  | @one q g1 g2 g3 =>
    refine ⟨fun hq => .one g1 (by rw [← h0 q g1 hq]; exact g2) (by rw [← h4 q g1 hq]; exact g3), fun hq => Or.inl ?_⟩
    rw [← hf, ← hq]; exact g3
  | @more q r g0 g1 g2 g3 ih =>
    refine ⟨fun hr => ?_, fun hr => ?_⟩
    · have e0 : 0 ≤ S 0 r := by rw [← h0 r g1 hr]; exact g2
      have e4 : S 4 r = (q : Int) := by rw [← h4 r g1 hr]; exact g3
      have hq : q ≠ d := by
        intro c
        rw [c] at e4
        exact hd r g1 e0 e4
      exact .more (ih.1 hq) g1 e0 e4
    · have e : f = (q : Int) := by rw [← hf, ← hr]; exact g3
      have hq : q ≠ d := by
        intro c
        rw [c] at e
        exact hfd e
      exact Or.inr ⟨q, e, ih.1 hq⟩
/-! moving s to d -/
def mvN (s d : Nat) (q : Nat) : Nat := if q = s then d else q
theorem Anc.mv1 {S S' : xS} {s d : Nat} (hd : d < 128) (hsd : s ≠ d) (hdead : S 0 d < 0) (h0 : ∀ q, q < 128 → S' 0 q = if q = s then -1 else if q = d then S 0 s else S 0 q) (h4 : ∀ q, q < 128 → q ≠ s → S' 4 q = if S 4 (if q = d then s else q) = (s : Int) then (d : Int) else S 4 (if q = d then s else q)) (hT : TrS S) {p q : Nat} (h : Anc S p q) : Anc S' (mvN s d p) (mvN s d q) := by
  have e0 : ∀ q, q < 128 → 0 ≤ S 0 q → mvN s d q < 128 ∧ 0 ≤ S' 0 (mvN s d q) := by
    intro q hq g
    unfold mvN
    split
    next c =>
      refine ⟨hd, ?_⟩
      rw [h0 d hd, if_neg (by omega), if_pos rfl, ← c]
      exact g
    next c =>
      refine ⟨hq, ?_⟩
      rw [h0 q hq, if_neg c, if_neg (by intro e; rw [e] at g; omega)]
      exact g
  have e4 : ∀ q (m : Nat), q < 128 → 0 ≤ S 0 q → S 4 q = (m : Int) → S' 4 (mvN s d q) = (mvN s d m : Nat) := by
    intro q m hq g e
    have hn : mvN s d q ≠ s := by unfold mvN; split <;> omega
    have hb : (if mvN s d q = d then s else mvN s d q) = q := by
      unfold mvN
      split
      · rw [if_pos rfl]; omega
      · rw [if_neg]
        intro c; rw [c] at g; omega
    rw [h4 _ (e0 q hq g).1 hn, hb, e]
    unfold mvN
    by_cases c : m = s
    · rw [if_pos (by omega), if_pos c]
    · rw [if_neg (by omega), if_neg c]
  induction h using Anc.ind with
  | @one q g1 g2 g3 => exact .one (e0 q g1 g2).1 (e0 q g1 g2).2 (e4 q p g1 g2 g3)
  | @more q r _ g1 g2 g3 ih => exact .more ih (e0 r g1 g2).1 (e0 r g1 g2).2 (e4 r q g1 g2 g3)
def mvB (s d : Nat) (q : Nat) : Nat := if q = d then s else q
theorem TrS.nd {S : xS} (hT : TrS S) {d : Nat} (hdead : S 0 d < 0) {q : Nat} (hq : q < 128) : S 4 q ≠ (d : Int) := by
  obtain ⟨rho, hT⟩ := hT
  intro e
  rcases hT q hq with g | ⟨-, -, g3, -⟩
  · omega
  · rw [e] at g3
    simp only [Int.toNat_natCast] at g3
    omega
theorem Anc.mv2 {S S' : xS} {s d : Nat} (hs : s < 128) (hdead : S 0 d < 0) (h0 : ∀ q, q < 128 → S' 0 q = if q = s then -1 else if q = d then S 0 s else S 0 q) (h4 : ∀ q, q < 128 → q ≠ s → S' 4 q = if S 4 (if q = d then s else q) = (s : Int) then (d : Int) else S 4 (if q = d then s else q)) (hT : TrS S) {p q : Nat} (h : Anc S' p q) : Anc S (mvB s d p) (mvB s d q) := by
  have e0 : ∀ q, q < 128 → 0 ≤ S' 0 q → q ≠ s ∧ mvB s d q < 128 ∧ 0 ≤ S 0 (mvB s d q) := by
    intro q hq g
    rw [h0 q hq] at g
    unfold mvB
    split at g
    · omega
    next c1 =>
      refine ⟨c1, ?_⟩
      split at g
      next c => rw [if_pos c]; exact ⟨hs, g⟩
      next c => rw [if_neg c]; exact ⟨hq, g⟩
  have e4 : ∀ q (m : Nat), q < 128 → 0 ≤ S' 0 q → S' 4 q = (m : Int) → S 4 (mvB s d q) = (mvB s d m : Nat) := by
    intro q m hq g e
    obtain ⟨g1, g2, g3⟩ := e0 q hq g
    rw [h4 q hq g1] at e
    have hn := hT.nd hdead g2
    have e' : (if S 4 (mvB s d q) = (s : Int) then (d : Int) else S 4 (mvB s d q)) = (m : Int) := e
    by_cases c : S 4 (mvB s d q) = (s : Int)
    · rw [if_pos c] at e'
      rw [c, show m = d by omega]
      unfold mvB
      rw [if_pos rfl]
    · rw [if_neg c] at e'
      rw [e']
      unfold mvB
      rw [if_neg]
      intro c2
      rw [c2] at e'
      exact hn e'
  induction h using Anc.ind with
  | @one q g1 g2 g3 => exact .one (e0 q g1 g2).2.1 (e0 q g1 g2).2.2 (e4 q p g1 g2 g3)
  | @more q r _ g1 g2 g3 ih => exact .more ih (e0 r g1 g2).2.1 (e0 r g1 g2).2.2 (e4 r q g1 g2 g3)
/-- the size of what the slot holds -/
def szS (S : xS) (p : Nat) : Int := s_size (S 0 p) (S 5 p)
def ovl (S : xS) (p q : Nat) : Prop := S 1 p < S 1 q + szS S q ∧ S 1 q < S 1 p + szS S p
/-- memory: no two live things share a unit but an untyped one and what is below it -/
def CapM (S : xS) : Prop := TrS S ∧ (∀ p q, Anc S p q → S 0 p = 0 → S 1 p ≤ S 1 q ∧ S 1 q + szS S q ≤ S 6 p) ∧
  (∀ p q, p < 128 → q < 128 → p ≠ q → 0 ≤ S 0 p → 0 ≤ S 0 q → ovl S p q → (S 0 p = S 0 q ∧ S 0 p ≠ 0 ∧ S 1 p = S 1 q) ∨ (S 0 p = 0 ∧ Anc S p q) ∨ (S 0 q = 0 ∧ Anc S q p))
theorem CapM.rm {S S' : xS} {s : Nat} (h : CapM S) (hs : s < 128) (hl : 0 ≤ S 0 s) (h0 : ∀ q, q < 128 → S' 0 q = if q = s then -1 else S 0 q) (h1 : ∀ q, q < 128 → S' 1 q = S 1 q) (h5 : ∀ q, q < 128 → S' 5 q = S 5 q) (h6 : ∀ q, q < 128 → S' 6 q = S 6 q) (h4 : ∀ q, q < 128 → S' 4 q = if S 4 q = (s : Int) then S 4 s else S 4 q) (hT' : TrS S') : CapM S' := by
  obtain ⟨hT, hc, hm⟩ := h
  have lv : ∀ q, q < 128 → 0 ≤ S' 0 q → q ≠ s ∧ S' 0 q = S 0 q ∧ szS S' q = szS S q := by
    intro q hq g
    have e := h0 q hq
    by_cases c : q = s
    · rw [if_pos c] at e
      omega
    · rw [if_neg c] at e
      exact ⟨c, e, by unfold szS; rw [e, h5 q hq]⟩
  refine ⟨hT', fun p q g gp => ?_, fun p q hp hq hpq gp gq go => ?_⟩
  · have a1 := g.top hT'
    have a2 := g.lv
    have b1 := lv p a1.1 a1.2
    have b2 := lv q a2.1 a2.2
    have k := hc p q (Anc.rm1 hs hl h0 h4 g) (by omega)
    rw [h1 p a1.1, h1 q a2.1, h6 p a1.1, b2.2.2]
    exact k
  · have b1 := lv p hp gp
    have b2 := lv q hq gq
    have k := hm p q hp hq hpq (by omega) (by omega) (by unfold ovl at go ⊢; rw [h1 p hp, h1 q hq, b1.2.2, b2.2.2] at go; exact go)
    rw [b1.2.1, b2.2.1, h1 p hp, h1 q hq]
    rcases k with k | ⟨k1, k2⟩ | ⟨k1, k2⟩
    · exact Or.inl k
    · exact Or.inr (Or.inl ⟨k1, (Anc.rm2 hs h0 h4 hT b1.1 k2).1 b2.1⟩)
    · exact Or.inr (Or.inr ⟨k1, (Anc.rm2 hs h0 h4 hT b2.1 k2).1 b1.1⟩)
theorem TrS.nw {S S' : xS} {d f : Nat} (hT : TrS S) (hdead : S 0 d < 0) (hf : f < 128) (hfl : 0 ≤ S 0 f) (h0 : ∀ q, q < 128 → q ≠ d → S' 0 q = S 0 q) (h4 : ∀ q, q < 128 → q ≠ d → S' 4 q = S 4 q) (hd4 : S' 4 d = (f : Int)) : TrS S' := by
  have hfd : f ≠ d := by intro e; rw [e] at hfl; omega
  have nd : ∀ q, q < 128 → S 4 q ≠ (d : Int) := fun q hq => hT.nd hdead hq
  obtain ⟨rho, hT⟩ := hT
  refine ⟨fun q => if q = d then rho f + 1 else rho q, fun q hq => ?_⟩
  by_cases c : q = d
  · rw [c, hd4]
    refine Or.inr ⟨by omega, by omega, ?_, ?_⟩
    · rw [Int.toNat_natCast, h0 f hf hfd]; exact hfl
    · show (if (f : Int).toNat = d then rho f + 1 else rho (f : Int).toNat) < (if d = d then rho f + 1 else rho d)
      rw [Int.toNat_natCast, if_neg hfd, if_pos rfl]
      omega
  · rw [h4 q hq c]
    rcases hT q hq with g | ⟨g1, g2, g3, g4⟩
    · exact Or.inl g
    · have e := nd q hq
      refine Or.inr ⟨g1, g2, ?_, ?_⟩
      · rw [h0 _ (by omega) (by omega)]; exact g3
      · dsimp only
        rw [if_neg (by omega), if_neg c]
        exact g4
/-- a copy at d of the capability at f -/
theorem CapM.cp {S S' : xS} {d f : Nat} (h : CapM S) (hd : d < 128) (hdead : S 0 d < 0) (hf : f < 128) (hfl : 0 < S 0 f) (h0 : ∀ q, q < 128 → q ≠ d → S' 0 q = S 0 q) (h1 : ∀ q, q < 128 → q ≠ d → S' 1 q = S 1 q) (h4 : ∀ q, q < 128 → q ≠ d → S' 4 q = S 4 q) (h5 : ∀ q, q < 128 → q ≠ d → S' 5 q = S 5 q) (h6 : ∀ q, q < 128 → q ≠ d → S' 6 q = S 6 q) (hd0 : S' 0 d = S 0 f) (hd1 : S' 1 d = S 1 f) (hd4 : S' 4 d = (f : Int)) : CapM S' := by
  obtain ⟨hT, hc, hm⟩ := h
  have hT' : TrS S' := hT.nw hdead hf (by omega) h0 h4 hd4
  have hfd : f ≠ d := by intro e; rw [e] at hfl; omega
  have nd : ∀ q, q < 128 → 0 ≤ S 0 q → S 4 q ≠ (d : Int) := fun q hq _ => hT.nd hdead hq
  have sz : ∀ q, q < 128 → q ≠ d → szS S' q = szS S q := by
    intro q hq c
    unfold szS
    rw [h0 q hq c, h5 q hq c]
  have szd : szS S' d = szS S f := by
    unfold szS s_size
    have e : ¬ S 0 f = 0 := by omega
    rw [hd0]
    simp only [if_neg e]
  have an := fun {p q : Nat} (g : Anc S' p q) => Anc.nw2 h0 h4 hd4 (by omega) nd g
  have nt : ∀ p q, Anc S' p q → p ≠ d := by
    intro p q g e
    obtain ⟨c, c1, c2, c3⟩ := g.child
    by_cases cd : c = d
    · rw [cd, hd4] at c3; omega
    · rw [h4 c c1 cd, e] at c3
      exact hT.nd hdead c1 c3
  refine ⟨hT', fun p q g gp => ?_, fun p q hp hq hpq gp gq go => ?_⟩
  · have a1 := g.top hT'
    have a2 := g.lv
    have pd := nt p q g
    rw [h0 p a1.1 pd] at gp
    rw [h1 p a1.1 pd, h6 p a1.1 pd]
    by_cases c : q = d
    · rw [c, hd1, szd]
      rcases (an g).2 c with e | ⟨m, e1, e2⟩
      · have : f = p := by omega
        rw [this] at hfl; omega
      · have : f = m := by omega
        rw [← this] at e2
        exact hc p f e2 gp
    · rw [h1 q a2.1 c, sz q a2.1 c]
      exact hc p q ((an g).1 c) gp
  · have key : ∀ q, q < 128 → q ≠ d → 0 ≤ S' 0 q → ovl S' d q → (S' 0 d = S' 0 q ∧ S' 0 d ≠ 0 ∧ S' 1 d = S' 1 q) ∨ (S' 0 q = 0 ∧ Anc S' q d) := by
      intro q hq c gq go
      unfold ovl at go
      rw [hd1, szd, h1 q hq c, sz q hq c] at go
      rw [h0 q hq c] at gq ⊢
      rw [hd0, hd1, h1 q hq c]
      by_cases cf : q = f
      · rw [cf]
        exact Or.inl ⟨rfl, by omega, rfl⟩
      · rcases hm f q hf hq (by omega) (by omega) gq go with k | ⟨k1, k2⟩ | ⟨k1, k2⟩
        · exact Or.inl k
        · omega
        · exact Or.inr ⟨k1, .more (Anc.nw1 h0 h4 nd k2 hfd) hd (by omega) hd4⟩
    by_cases c1 : p = d
    · rw [c1] at go ⊢
      rcases key q hq (by omega) gq go with k | k
      · exact Or.inl k
      · exact Or.inr (Or.inr k)
    · by_cases c2 : q = d
      · rw [c2] at go ⊢
        rcases key p hp c1 gp ⟨go.2, go.1⟩ with k | k
        · exact Or.inl ⟨k.1.symm, by omega, k.2.2.symm⟩
        · exact Or.inr (Or.inl k)
      · unfold ovl at go
        rw [h1 p hp c1, h1 q hq c2, sz p hp c1, sz q hq c2] at go
        rw [h0 p hp c1] at gp ⊢
        rw [h0 q hq c2] at gq ⊢
        rw [h1 p hp c1, h1 q hq c2]
        rcases hm p q hp hq hpq gp gq go with k | ⟨k1, k2⟩ | ⟨k1, k2⟩
        · exact Or.inl k
        · exact Or.inr (Or.inl ⟨k1, Anc.nw1 h0 h4 nd k2 c2⟩)
        · exact Or.inr (Or.inr ⟨k1, Anc.nw1 h0 h4 nd k2 c1⟩)
/-- a new thing at d, out of the untyped memory at f -/
theorem CapM.rt {S S' : xS} {d f : Nat} (h : CapM S) (hd : d < 128) (hdead : S 0 d < 0) (hf : f < 128) (hfl : S 0 f = 0) (h0 : ∀ q, q < 128 → q ≠ d → S' 0 q = S 0 q) (h1 : ∀ q, q < 128 → q ≠ d → S' 1 q = S 1 q) (h4 : ∀ q, q < 128 → q ≠ d → S' 4 q = S 4 q) (h5 : ∀ q, q < 128 → q ≠ d → S' 5 q = S 5 q) (h6 : ∀ q, q < 128 → q ≠ d → q ≠ f → S' 6 q = S 6 q) (hd0 : 0 ≤ S' 0 d) (hd4 : S' 4 d = (f : Int)) (hf6 : S' 6 f = S' 1 d + szS S' d)
    (u1 : S 1 f ≤ S' 1 d) (u2 : S' 1 d + szS S' d ≤ S 1 f + szS S f) (u3 : ∀ q, Anc S f q → S 1 q + szS S q ≤ S' 1 d) (u4 : 0 < szS S' d) (u5 : ∀ q, q < 128 → 0 ≤ S 0 q → 0 < szS S q) : CapM S' := by
  obtain ⟨hT, hc, hm⟩ := h
  have hT' : TrS S' := hT.nw hdead hf (by omega) h0 h4 hd4
  have hfd : f ≠ d := by intro e; rw [e] at hfl; omega
  have nd : ∀ q, q < 128 → 0 ≤ S 0 q → S 4 q ≠ (d : Int) := fun q hq _ => hT.nd hdead hq
  have sz : ∀ q, q < 128 → q ≠ d → szS S' q = szS S q := by
    intro q hq c
    unfold szS
    rw [h0 q hq c, h5 q hq c]
  have an := fun {p q : Nat} (g : Anc S' p q) => Anc.nw2 h0 h4 hd4 (by omega) nd g
  have nt : ∀ p q, Anc S' p q → p ≠ d := by
    intro p q g e
    obtain ⟨c, c1, c2, c3⟩ := g.child
    by_cases cd : c = d
    · rw [cd, hd4] at c3; omega
    · rw [h4 c c1 cd, e] at c3
      exact hT.nd hdead c1 c3
  have ff : Anc S' f d := .one hd hd0 hd4
  refine ⟨hT', fun p q g gp => ?_, fun p q hp hq hpq gp gq go => ?_⟩
  · have a1 := g.top hT'
    have a2 := g.lv
    have pd := nt p q g
    rw [h0 p a1.1 pd] at gp
    rw [h1 p a1.1 pd]
    by_cases c : q = d
    · rw [c]
      rcases (an g).2 c with e | ⟨m, e1, e2⟩
      · have : p = f := by omega
        rw [this, hf6]
        exact ⟨u1, Int.le_refl _⟩
      · have : f = m := by omega
        rw [← this] at e2
        have pf : p ≠ f := by intro e; rw [e] at e2; exact e2.irr hT
        have := hc p f e2 gp
        rw [h6 p a1.1 pd pf]
        omega
    · rw [h1 q a2.1 c, sz q a2.1 c]
      have k := hc p q ((an g).1 c) gp
      by_cases pf : p = f
      · rw [pf] at g k ⊢
        have := u3 q ((an g).1 c)
        rw [hf6]
        omega
      · rw [h6 p a1.1 pd pf]
        exact k
  · have key : ∀ q, q < 128 → q ≠ d → 0 ≤ S' 0 q → ovl S' d q → S' 0 q = 0 ∧ Anc S' q d := by
      intro q hq c gq go
      unfold ovl at go
      rw [h1 q hq c, sz q hq c] at go
      rw [h0 q hq c] at gq ⊢
      by_cases cf : q = f
      · rw [cf]
        exact ⟨hfl, ff⟩
      · have hq1 := u5 q hq gq
        rcases hm f q hf hq (by omega) (by omega) gq ⟨by omega, by omega⟩ with k | ⟨k1, k2⟩ | ⟨k1, k2⟩
        · omega
        · have := u3 q k2
          omega
        · exact ⟨k1, .more (Anc.nw1 h0 h4 nd k2 hfd) hd hd0 hd4⟩
    by_cases c1 : p = d
    · rw [c1] at go ⊢
      exact Or.inr (Or.inr (key q hq (by omega) gq go))
    · by_cases c2 : q = d
      · rw [c2] at go ⊢
        exact Or.inr (Or.inl (key p hp c1 gp ⟨go.2, go.1⟩))
      · unfold ovl at go
        rw [h1 p hp c1, h1 q hq c2, sz p hp c1, sz q hq c2] at go
        rw [h0 p hp c1] at gp ⊢
        rw [h0 q hq c2] at gq ⊢
        rw [h1 p hp c1, h1 q hq c2]
        rcases hm p q hp hq hpq gp gq go with k | ⟨k1, k2⟩ | ⟨k1, k2⟩
        · exact Or.inl k
        · exact Or.inr (Or.inl ⟨k1, Anc.nw1 h0 h4 nd k2 c2⟩)
        · exact Or.inr (Or.inr ⟨k1, Anc.nw1 h0 h4 nd k2 c1⟩)
theorem TrS.mv {S S' : xS} {s d : Nat} (hT : TrS S) (hs : s < 128) (hd : d < 128) (hl : 0 ≤ S 0 s) (hdead : S 0 d < 0) (h0 : ∀ q, q < 128 → S' 0 q = if q = s then -1 else if q = d then S 0 s else S 0 q) (h4 : ∀ q, q < 128 → S' 4 q = if S 4 (if q = d then s else q) = (s : Int) then (d : Int) else S 4 (if q = d then s else q)) : TrS S' := by
  have nd : ∀ q, q < 128 → S 4 q ≠ (d : Int) := fun q hq => hT.nd hdead hq
  have hsd : s ≠ d := by intro e; rw [e] at hl; omega
  obtain ⟨rho, hT⟩ := hT
  refine ⟨fun q => if q = d then rho s else rho q, fun q hq => ?_⟩
  have hB : mvB s d q < 128 ∧ (if q = d then rho s else rho q) = rho (mvB s d q) := by
    unfold mvB
    split
    · exact ⟨hs, rfl⟩
    · exact ⟨hq, rfl⟩
  have e4 : S' 4 q = if S 4 (mvB s d q) = (s : Int) then (d : Int) else S 4 (mvB s d q) := h4 q hq
  have n4 := nd _ hB.1
  show S' 4 q = -1 ∨ (0 ≤ S' 4 q ∧ S' 4 q < 128 ∧ 0 ≤ S' 0 (S' 4 q).toNat ∧ (if (S' 4 q).toNat = d then rho s else rho (S' 4 q).toNat) < (if q = d then rho s else rho q))
  rw [hB.2, e4]
  rcases hT _ hB.1 with g | ⟨g1, g2, g3, g4⟩
  · refine Or.inl ?_
    rw [if_neg (by omega)]
    exact g
  · refine Or.inr ?_
    by_cases c : S 4 (mvB s d q) = (s : Int)
    · rw [if_pos c]
      rw [c] at g4
      rw [Int.toNat_natCast] at g4 ⊢
      refine ⟨by omega, by omega, ?_, ?_⟩
      · rw [h0 d hd, if_neg (by omega), if_pos rfl]
        exact hl
      · rw [if_pos rfl]
        exact g4
    · rw [if_neg c]
      refine ⟨g1, g2, ?_, ?_⟩
      · rw [h0 _ (by omega), if_neg (by omega), if_neg (by omega)]
        exact g3
      · rw [if_neg (by omega)]
        exact g4
theorem CapM.mv {S S' : xS} {s d : Nat} (h : CapM S) (hs : s < 128) (hd : d < 128) (hl : 0 ≤ S 0 s) (hdead : S 0 d < 0) (h0 : ∀ q, q < 128 → S' 0 q = if q = s then -1 else if q = d then S 0 s else S 0 q) (h1 : ∀ q, q < 128 → q ≠ s → S' 1 q = S 1 (mvB s d q)) (h5 : ∀ q, q < 128 → q ≠ s → S' 5 q = S 5 (mvB s d q)) (h6 : ∀ q, q < 128 → q ≠ s → S' 6 q = S 6 (mvB s d q)) (h4 : ∀ q, q < 128 → S' 4 q = if S 4 (if q = d then s else q) = (s : Int) then (d : Int) else S 4 (if q = d then s else q)) : CapM S' := by
  obtain ⟨hT, hc, hm⟩ := h
  have hsd : s ≠ d := by intro e; rw [e] at hl; omega
  have hT' : TrS S' := hT.mv hs hd hl hdead h0 h4
  have lv : ∀ q, q < 128 → 0 ≤ S' 0 q → q ≠ s ∧ mvB s d q < 128 ∧ S' 0 q = S 0 (mvB s d q) ∧ szS S' q = szS S (mvB s d q) ∧ mvN s d (mvB s d q) = q := by
    intro q hq g
    have e := h0 q hq
    by_cases c : q = s
    · rw [if_pos c] at e
      omega
    · rw [if_neg c] at e
      have e0 : S' 0 q = S 0 (mvB s d q) := by
        rw [e]
        unfold mvB
        split <;> rfl
      refine ⟨c, ?_, e0, ?_, ?_⟩
      · unfold mvB; split <;> omega
      · unfold szS; rw [e0, h5 q hq c]
      · unfold mvN mvB
        by_cases c2 : q = d
        · rw [if_pos c2, if_pos rfl, c2]
        · rw [if_neg c2, if_neg c]
  refine ⟨hT', fun p q g gp => ?_, fun p q hp hq hpq gp gq go => ?_⟩
  · have a1 := g.top hT'
    have a2 := g.lv
    have b1 := lv p a1.1 a1.2
    have b2 := lv q a2.1 a2.2
    have k := hc _ _ (Anc.mv2 hs hdead h0 (fun q hq _ => h4 q hq) hT g) (by rw [← b1.2.2.1]; exact gp)
    rw [h1 p a1.1 b1.1, h1 q a2.1 b2.1, h6 p a1.1 b1.1, b2.2.2.2.1]
    exact k
  · have b1 := lv p hp gp
    have b2 := lv q hq gq
    have hne : mvB s d p ≠ mvB s d q := by
      intro e
      apply hpq
      rw [← b1.2.2.2.2, ← b2.2.2.2.2, e]
    have k := hm _ _ b1.2.1 b2.2.1 hne (by rw [← b1.2.2.1]; exact gp) (by rw [← b2.2.2.1]; exact gq) (by unfold ovl at go ⊢; rw [h1 p hp b1.1, h1 q hq b2.1, b1.2.2.2.1, b2.2.2.2.1] at go; exact go)
    rw [b1.2.2.1, b2.2.2.1, h1 p hp b1.1, h1 q hq b2.1]
    have an : ∀ {x y : Nat}, Anc S x y → Anc S' (mvN s d x) (mvN s d y) := fun g => Anc.mv1 hd hsd hdead h0 (fun q hq _ => h4 q hq) hT g
    rcases k with k | ⟨k1, k2⟩ | ⟨k1, k2⟩
    · exact Or.inl k
    · refine Or.inr (Or.inl ⟨k1, ?_⟩)
      have := an k2
      rw [b1.2.2.2.2, b2.2.2.2.2] at this
      exact this
    · refine Or.inr (Or.inr ⟨k1, ?_⟩)
      have := an k2
      rw [b1.2.2.2.2, b2.2.2.2.2] at this
      exact this
