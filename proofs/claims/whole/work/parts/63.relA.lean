/-! ===== THE CLASS: which objects there are, what their fields hold ===== -/
/-- addresses by sort and number: 0 untyped memory by place, 1..7 things by unit, 8 capabilities by place, 9 lines, 10 leaves of a space, 11 frames of a leaf, 12 the kernel and its arrays -/
abbrev xA : Type := Int → Int → Nat
def tgK (k i : Int) : Nat × Nat := if k = 0 then (4, 4) else if k = 1 then (5, 2) else if k = 2 then (2, 16) else if k = 3 then (6, 3) else if k = 4 then (7, 4) else if k = 5 then (8, 3) else if k = 6 then (9, 5) else if k = 7 then (10, 2)
  else if k = 8 then (1, 8) else if k = 9 then (3, 2) else if k = 10 then (39, 4) else if k = 11 then (31, 4) else if i = 0 then (0, 4) else if i = 1 then (31, 128) else if i = 2 then (32, 16) else if i = 3 then (33, 4) else (37, 4)
/-- what is in use -/
def us (S : xS) (k i : Int) : Prop := (k = 0 ∧ 0 ≤ i ∧ i < 128 ∧ S 0 i.toNat = 0) ∨ (1 ≤ k ∧ k ≤ 7 ∧ hd S k i) ∨ (k = 8 ∧ 0 ≤ i ∧ i < 128 ∧ 0 ≤ S 0 i.toNat) ∨ (k = 9 ∧ ((0 ≤ i ∧ i < 4) ∨ hd S 3 (i - 4) ∨ hd S 4 (i - 4))) ∨ (k = 10 ∧ hd S 5 i) ∨ (k = 11 ∧ hd S 6 i) ∨ (k = 12 ∧ 0 ≤ i ∧ i ≤ 4)
/-- the least by q of those that have p -/
def mnL (q : Nat → Int) (p : Nat → Prop) [DecidablePred p] : Nat → Int
  | 0 => -1
  | t + 1 => if p t ∧ (mnL q p t < 0 ∨ q t < q (mnL q p t).toNat) then (t : Int) else mnL q p t
def fstL (S : xS) (ln : Nat → Int) (l : Int) : Int := mnL (S 18) (fun t => ln t = l) 16
def lstL (S : xS) (ln : Nat → Int) (l : Int) : Int := mnL (fun t => - S 18 t) (fun t => ln t = l) 16
def nxtL (S : xS) (ln : Nat → Int) (t : Nat) : Int := mnL (S 18) (fun k => ln k = ln t ∧ 0 ≤ ln t ∧ S 18 t < S 18 k) 16
/-- a pointer -/
def pv (a : Int) (b : Nat) : Value := if a < 0 then .null else .ref b
/-- the thing of the capability at a place -/
def thA (A : xA) (S : xS) (p : Int) : Nat := if S 0 p.toNat = 0 then A 0 p else A (S 0 p.toNat) (S 1 p.toNat)
def Fcap (A : xA) (S : xS) (p : Int) (f : Nat) : Option Value := if f = 0 then some (.ref (thA A S p)) else if f = 1 then some (.int (xi (S 2 p.toNat))) else if f = 2 then some (.int (xi (S 3 p.toNat))) else if f = 3 then some (pv (S 4 p.toNat) (A 8 (S 4 p.toNat))) else if f = 4 then some (.int (xi p))
  else if f = 5 then some (pv (S 7 p.toNat) (A 6 (S 7 p.toNat))) else if f = 6 then (if S 7 p.toNat < 0 then none else some (.int (xi (S 8 p.toNat)))) else if f = 7 then some (.int (xi (S 9 p.toNat))) else none
def Fthr (A : xA) (S : xS) (ln : Nat → Int) (u : Int) (t : Nat) (f : Nat) : Option Value := if f = 0 then some (.int (xi 2)) else if f = 1 then some (.int (xi u)) else if f = 2 then some (pv (S 11 t) (A 1 (S 11 t))) else if f = 3 then some (pv (S 12 t) (A 5 (S 12 t))) else if f = 4 then some (.int (xi (S 13 t)))
  else if f = 5 then some (.int (xi (S 10 t))) else if f = 6 then some (.int (xi (S 14 t))) else if f = 7 then some (.int (xi (S 15 t))) else if f = 8 then some (.int (xi (S 16 t))) else if f = 9 then some (.int (xi (S 17 t)))
  else if f = 10 then some (pv (ln t) (A 9 (ln t))) else if f = 11 then some (pv (nxtL S ln t) (A 2 (8 * nxtL S ln t)))
  else if f = 12 then (if S 10 t = 3 then some (.int (xi (S 21 t))) else none) else if f = 13 then (if S 10 t = 3 then some (.int (xi (S 22 t))) else none) else if f = 14 then (if S 10 t = 3 then some (.int (xi (S 23 t))) else none) else if f = 15 then (if S 10 t = 3 ∨ S 10 t = 4 then some (.int (xi (S 20 t))) else none) else none
def Fthi (A : xA) (S : xS) (k u : Int) (f : Nat) : Option Value := if f = 0 then some (.int (xi k)) else if f = 1 then some (.int (xi u)) else if f = 2 then (if k = 3 ∨ k = 4 then some (.ref (A 9 (u + 4))) else if k = 5 then some (.ref (A 10 u)) else if k = 6 then some (pv (S 25 (u / 4).toNat) (A 5 (S 25 (u / 4).toNat))) else none)
  else if f = 3 then (if k = 4 then some (.int (xi (S 24 (u / 2).toNat))) else if k = 6 then (if S 25 (u / 4).toNat < 0 then none else some (.int (xi (S 26 (u / 4).toNat)))) else none) else if f = 4 then (if k = 6 then some (.ref (A 11 u)) else none) else none
def Funt (S : xS) (p : Int) (f : Nat) : Option Value := if f = 0 then some (.int (xi 0)) else if f = 1 then some (.int (xi (S 1 p.toNat))) else if f = 2 then some (.int (xi (s_size 0 (S 5 p.toNat)))) else if f = 3 then (if s_children S p = 0 then none else some (.int (xi (S 6 p.toNat)))) else none
def Flin (A : xA) (S : xS) (ln : Nat → Int) (l : Int) (f : Nat) : Option Value := if f = 0 then some (pv (fstL S ln l) (A 2 (8 * fstL S ln l))) else if f = 1 then some (pv (lstL S ln l) (A 2 (8 * lstL S ln l))) else none
def Fker (A : xA) (S : xS) (i : Int) (f : Nat) : Option Value := if i = 0 then (if f < 4 then some (.ref (A 12 ((f : Int) + 1))) else none) else if i = 1 then (if f < 128 then some (pv (S 0 f) (A 8 f)) else none) else if i = 2 then (if f < 16 then some (if S 10 f = 0 then .null else .ref (A 2 (8 * (f : Int)))) else none)
  else if i = 3 then (if f < 4 then some (.ref (A 9 f)) else none) else (if f < 4 then some (pv (S 27 f) (A 4 (S 27 f))) else none)
def xFv (A : xA) (S : xS) (ln : Nat → Int) (k i : Int) (f : Nat) : Option Value := if k = 0 then Funt S i f else if k = 2 then Fthr A S ln i (i / 8).toNat f else if k < 8 then Fthi A S k i f else if k = 8 then Fcap A S i f else if k = 9 then Flin A S ln i f
  else if k = 10 then (if f < 4 then some (pv (s_leafOf S i f) (A 6 (s_leafOf S i f))) else none) else if k = 11 then (if f < 4 then some (pv (s_frameOf S i f) (A 8 (s_frameOf S i f))) else none) else Fker A S i f
/-- a heap that holds it -/
def Hp (w : xH) (A : xA) (U : Int → Int → Prop) (F : Int → Int → Nat → Option Value) : Prop := (∀ k i, U k i → x_tg w (A k i) = some (tgK k i)) ∧ (∀ k i k' i', U k i → U k' i' → A k i = A k' i' → k = k' ∧ i = i') ∧ (∀ k i f v, U k i → F k i f = some v → x_fd w (A k i) f = v) ∧ (∀ a, x_sz w ≤ a → x_tg w a = none)
abbrev Rel (w : xH) (A : xA) (S : xS) (ln : Nat → Int) : Prop := Hp w A (us S) (xFv A S ln)
/-- the line in which a thread stands -/
def lid (S : xS) (t : Nat) : Int := if S 10 t < 2 then -1 else if S 10 t = 2 then S 13 t else S 19 t + 4
def fup (F : Int → Int → Nat → Option Value) (k i : Int) (f : Nat) (v : Value) : Int → Int → Nat → Option Value := fun k' i' f' => if k' = k ∧ i' = i ∧ f' = f then some v else F k' i' f'
theorem Hp.put {w : xH} {A : xA} {U : Int → Int → Prop} {F : Int → Int → Nat → Option Value} (h : Hp w A U F) {k i : Int} (hu : U k i) (f : Nat) (v : Value) : Hp (x_put w (A k i) f v) A U (fup F k i f v) := by
  obtain ⟨h1, h2, h3, h4⟩ := h
  refine ⟨fun k' i' u => by rw [x_tg_put]; exact h1 k' i' u, h2, fun k' i' f' v' u e => ?_, fun a ha => by rw [x_tg_put]; exact h4 a ha⟩
  rw [x_fd_put]
  unfold fup at e
  by_cases c : k' = k ∧ i' = i ∧ f' = f
  · rw [if_pos c] at e
    rw [c.1, c.2.1, c.2.2, if_pos ⟨rfl, rfl⟩]
    exact Option.some.inj e
  · rw [if_neg c] at e
    rw [if_neg (fun x => c ?_)]
    · exact h3 k' i' f' v' u e
    · have := h2 k' i' k i u hu x.1
      exact ⟨this.1, this.2, x.2⟩
theorem Hp.to {w : xH} {A A' : xA} {U U' : Int → Int → Prop} {F F' : Int → Int → Nat → Option Value} (h : Hp w A U F) (hu : ∀ k i, U' k i → U k i ∧ A' k i = A k i) (hf : ∀ k i f v, U' k i → F' k i f = some v → F k i f = some v) : Hp w A' U' F' := by
  obtain ⟨h1, h2, h3, h4⟩ := h
  refine ⟨fun k i u => by rw [(hu k i u).2]; exact h1 k i (hu k i u).1, fun k i k' i' u u' e => h2 k i k' i' (hu k i u).1 (hu k' i' u').1 (by rw [← (hu k i u).2, ← (hu k' i' u').2]; exact e), fun k i f v u e => by rw [(hu k i u).2]; exact h3 k i f v (hu k i u).1 (hf k i f v u e), h4⟩
/-- frames: what is no object of the class stays, and little is made -/
def Fr (w w' : xH) (n : Nat) : Prop := (∀ a t m, x_tg w a = some (t, m) → x_tg w' a = some (t, m)) ∧ (∀ a t m, x_tg w a = some (t, m) → (t = 11 ∨ t = 20 ∨ t = 21) → x_fd w' a = x_fd w a) ∧ x_sz w ≤ x_sz w' ∧ x_sz w' ≤ x_sz w + n ∧ x_sl w' ≤ x_sl w + 16 * n ∧ (∀ a, a < x_sz w → x_tg w' a = x_tg w a)
theorem Fr.refl (w : xH) : Fr w w 0 := ⟨fun _ _ _ h => h, fun _ _ _ _ _ => rfl, Nat.le_refl _, Nat.le_refl _, Nat.le_refl _, fun _ _ => rfl⟩
theorem Fr.trans {w w1 w2 : xH} {n m k : Nat} (h : Fr w w1 n) (g : Fr w1 w2 m) (hk : n + m ≤ k) : Fr w w2 k := by
  obtain ⟨a1, a2, a3, a4, a5, a6⟩ := h
  obtain ⟨b1, b2, b3, b4, b5, b6⟩ := g
  exact ⟨fun a t m e => b1 a t m (a1 a t m e), fun a t m e c => (b2 a t m (a1 a t m e) c).trans (a2 a t m e c), by omega, by omega, by omega, fun a ha => (b6 a (by omega)).trans (a6 a ha)⟩
theorem Fr.put {w w' : xH} {n : Nat} (h : Fr w w' n) {a t m : Nat} (ht : x_tg w' a = some (t, m)) (hc : t < 11 ∨ 30 ≤ t) (f : Nat) (v : Value) : Fr w (x_put w' a f v) n := by
  obtain ⟨a1, a2, a3, a4, a5, a6⟩ := h
  refine ⟨fun b t' m' e => by rw [x_tg_put]; exact a1 b t' m' e, fun b t' m' e c => ?_, a3, a4, a5, fun b hb => by rw [x_tg_put]; exact a6 b hb⟩
  funext j
  rw [x_fd_put, if_neg, a2 b t' m' e c]
  rintro ⟨rfl, -⟩
  have := a1 b t' m' e
  rw [ht] at this
  cases this
  omega
theorem x_has_put {w : xH} {a k b : Nat} {v : Value} {cs : List Nat} : x_has (x_put w a k v) b cs ↔ x_has w b cs := Iff.rfl
theorem tgK_c (k i : Int) : (tgK k i).1 < 11 ∨ 30 ≤ (tgK k i).1 := by
  unfold tgK
  by_cases c0 : k = 0
  · rw [if_pos c0]; decide
  rw [if_neg c0]
  by_cases c1 : k = 1
  · rw [if_pos c1]; decide
  rw [if_neg c1]
  by_cases c2 : k = 2
  · rw [if_pos c2]; decide
  rw [if_neg c2]
  by_cases c3 : k = 3
  · rw [if_pos c3]; decide
  rw [if_neg c3]
  by_cases c4 : k = 4
  · rw [if_pos c4]; decide
  rw [if_neg c4]
  by_cases c5 : k = 5
  · rw [if_pos c5]; decide
  rw [if_neg c5]
  by_cases c6 : k = 6
  · rw [if_pos c6]; decide
  rw [if_neg c6]
  by_cases c7 : k = 7
  · rw [if_pos c7]; decide
  rw [if_neg c7]
  by_cases c8 : k = 8
  · rw [if_pos c8]; decide
  rw [if_neg c8]
  by_cases c9 : k = 9
  · rw [if_pos c9]; decide
  rw [if_neg c9]
  by_cases c10 : k = 10
  · rw [if_pos c10]; decide
  rw [if_neg c10]
  by_cases c11 : k = 11
  · rw [if_pos c11]; decide
  rw [if_neg c11]
  by_cases d0 : i = 0
  · rw [if_pos d0]; decide
  rw [if_neg d0]
  by_cases d1 : i = 1
  · rw [if_pos d1]; decide
  rw [if_neg d1]
  by_cases d2 : i = 2
  · rw [if_pos d2]; decide
  rw [if_neg d2]
  by_cases d3 : i = 3
  · rw [if_pos d3]; decide
  rw [if_neg d3]
  decide
theorem Hp.frp {w0 w : xH} {n : Nat} {A : xA} {U : Int → Int → Prop} {F : Int → Int → Nat → Option Value} (h : Hp w A U F) (g : Fr w0 w n) {k i : Int} (hu : U k i) (f : Nat) (v : Value) : Fr w0 (x_put w (A k i) f v) n :=
  g.put (h.1 k i hu) (tgK_c k i) f v
