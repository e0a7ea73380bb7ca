section RD
variable {w : xH} {A : xA} {S : xS} {ln : Nat → Int}
theorem Hp.tg {U : Int → Int → Prop} {F : Int → Int → Nat → Option Value} (h : Hp w A U F) {k i : Int} (hu : U k i) : x_tg w (A k i) = some (tgK k i) := h.1 k i hu
theorem Hp.hs {U : Int → Int → Prop} {F : Int → Int → Nat → Option Value} (h : Hp w A U F) {k i : Int} (hu : U k i) {cs : List Nat} (hc : (tgK k i).1 ∈ cs) : x_has w (A k i) cs := ⟨_, _, h.1 k i hu, hc⟩
theorem us_ker {i : Int} (h : 0 ≤ i ∧ i ≤ 4) : us S 12 i := by
  unfold us
  omega
theorem us_cap {p : Int} (h0 : 0 ≤ p) (h1 : p < 128) (h2 : 0 ≤ S 0 p.toNat) : us S 8 p := Or.inr (Or.inr (Or.inl ⟨rfl, h0, h1, h2⟩))
theorem us_thi {k u : Int} (h0 : 1 ≤ k) (h1 : k ≤ 7) (h2 : hd S k u) : us S k u := Or.inr (Or.inl ⟨h0, h1, h2⟩)
theorem us_unt {p : Int} (h0 : 0 ≤ p) (h1 : p < 128) (h2 : S 0 p.toNat = 0) : us S 0 p := Or.inl ⟨rfl, h0, h1, h2⟩
theorem us_lin {l : Int} (h : (0 ≤ l ∧ l < 4) ∨ hd S 3 (l - 4) ∨ hd S 4 (l - 4)) : us S 9 l := Or.inr (Or.inr (Or.inr (Or.inl ⟨rfl, h⟩)))
theorem us_lvs {u : Int} (h : hd S 5 u) : us S 10 u := Or.inr (Or.inr (Or.inr (Or.inr (Or.inl ⟨rfl, h⟩))))
theorem us_frs {u : Int} (h : hd S 6 u) : us S 11 u := Or.inr (Or.inr (Or.inr (Or.inr (Or.inr (Or.inl ⟨rfl, h⟩)))))
theorem Hp.fd {U : Int → Int → Prop} {F : Int → Int → Nat → Option Value} (h : Hp w A U F) {k i : Int} {f : Nat} {v : Value} (hu : U k i) (e : F k i f = some v) : x_fd w (A k i) f = v := h.2.2.1 k i f v hu e
theorem Hp.ker (h : Rel w A S ln) : (x_tg w (A 12 0) = some (0, 4) ∧ x_tg w (A 12 1) = some (31, 128) ∧ x_tg w (A 12 2) = some (32, 16) ∧ x_tg w (A 12 3) = some (33, 4) ∧ x_tg w (A 12 4) = some (37, 4)) ∧ x_fd w (A 12 0) 0 = .ref (A 12 1) ∧ x_fd w (A 12 0) 1 = .ref (A 12 2) ∧ x_fd w (A 12 0) 2 = .ref (A 12 3) ∧ x_fd w (A 12 0) 3 = .ref (A 12 4) :=
  ⟨⟨h.tg (us_ker (by omega)), h.tg (us_ker (by omega)), h.tg (us_ker (by omega)), h.tg (us_ker (by omega)), h.tg (us_ker (by omega))⟩, h.fd (us_ker (by omega)) rfl, h.fd (us_ker (by omega)) rfl, h.fd (us_ker (by omega)) rfl, h.fd (us_ker (by omega)) rfl⟩
theorem Hp.sl (h : Rel w A S ln) {p : Nat} (hp : p < 128) : x_fd w (A 12 1) p = pv (S 0 p) (A 8 p) := by
  refine h.fd (us_ker (by omega)) ?_
  show Fker A S 1 p = _
  unfold Fker
  rw [if_neg (by omega), if_pos rfl, if_pos hp]
theorem Hp.ths (h : Rel w A S ln) {t : Nat} (ht : t < 16) : x_fd w (A 12 2) t = if S 10 t = 0 then .null else .ref (A 2 (8 * (t : Int))) := by
  refine h.fd (us_ker (by omega)) ?_
  show Fker A S 2 t = _
  unfold Fker
  rw [if_neg (by omega), if_neg (by omega), if_pos rfl, if_pos ht]
theorem Hp.rls (h : Rel w A S ln) {q : Nat} (hq : q < 4) : x_fd w (A 12 3) q = .ref (A 9 q) := by
  refine h.fd (us_ker (by omega)) ?_
  show Fker A S 3 q = _
  unfold Fker
  rw [if_neg (by omega), if_neg (by omega), if_neg (by omega), if_pos rfl, if_pos hq]
theorem Hp.bbs (h : Rel w A S ln) {q : Nat} (hq : q < 4) : x_fd w (A 12 4) q = pv (S 27 q) (A 4 (S 27 q)) := by
  refine h.fd (us_ker (by omega)) ?_
  show Fker A S 4 q = _
  unfold Fker
  rw [if_neg (by omega), if_neg (by omega), if_neg (by omega), if_neg (by omega), if_pos hq]
theorem Hp.cap (h : Rel w A S ln) {p : Int} (h0 : 0 ≤ p) (h1 : p < 128) (h2 : 0 ≤ S 0 p.toNat) : x_tg w (A 8 p) = some (1, 8) ∧ x_fd w (A 8 p) 0 = .ref (thA A S p) ∧ x_fd w (A 8 p) 1 = .int (xi (S 2 p.toNat)) ∧ x_fd w (A 8 p) 2 = .int (xi (S 3 p.toNat)) ∧ x_fd w (A 8 p) 3 = pv (S 4 p.toNat) (A 8 (S 4 p.toNat)) ∧ x_fd w (A 8 p) 4 = .int (xi p) ∧ x_fd w (A 8 p) 5 = pv (S 7 p.toNat) (A 6 (S 7 p.toNat)) ∧ (¬ S 7 p.toNat < 0 → x_fd w (A 8 p) 6 = .int (xi (S 8 p.toNat))) ∧ x_fd w (A 8 p) 7 = .int (xi (S 9 p.toNat)) := by
  have hu := us_cap (S := S) h0 h1 h2
  refine ⟨h.tg hu, h.fd hu rfl, h.fd hu rfl, h.fd hu rfl, h.fd hu rfl, h.fd hu rfl, h.fd hu rfl, fun c => h.fd hu ?_, h.fd hu rfl⟩
  show Fcap A S p 6 = _
  unfold Fcap
  simp [c]
theorem Hp.thr {U : Int → Int → Prop} (h : Hp w A U (xFv A S ln)) {t : Int} (hu : U 2 (8 * t)) : x_tg w (A 2 (8 * t)) = some (2, 16) ∧ x_fd w (A 2 (8 * t)) 0 = .int (xi 2) ∧ x_fd w (A 2 (8 * t)) 1 = .int (xi (8 * t)) ∧ x_fd w (A 2 (8 * t)) 2 = pv (S 11 t.toNat) (A 1 (S 11 t.toNat)) ∧ x_fd w (A 2 (8 * t)) 3 = pv (S 12 t.toNat) (A 5 (S 12 t.toNat)) ∧ x_fd w (A 2 (8 * t)) 4 = .int (xi (S 13 t.toNat)) ∧ x_fd w (A 2 (8 * t)) 5 = .int (xi (S 10 t.toNat)) ∧ x_fd w (A 2 (8 * t)) 6 = .int (xi (S 14 t.toNat)) ∧ x_fd w (A 2 (8 * t)) 7 = .int (xi (S 15 t.toNat)) ∧ x_fd w (A 2 (8 * t)) 8 = .int (xi (S 16 t.toNat)) ∧ x_fd w (A 2 (8 * t)) 9 = .int (xi (S 17 t.toNat)) ∧
    x_fd w (A 2 (8 * t)) 10 = pv (ln t.toNat) (A 9 (ln t.toNat)) ∧ x_fd w (A 2 (8 * t)) 11 = pv (nxtL S ln t.toNat) (A 2 (8 * nxtL S ln t.toNat)) := by
  have e : ((8 * t) / 8).toNat = t.toNat := by omega
  have q : ∀ f, xFv A S ln 2 (8 * t) f = Fthr A S ln (8 * t) t.toNat f := by
    intro f
    show Fthr A S ln (8 * t) ((8 * t) / 8).toNat f = _
    rw [e]
  refine ⟨h.tg hu, h.fd hu ?_, h.fd hu ?_, h.fd hu ?_, h.fd hu ?_, h.fd hu ?_, h.fd hu ?_, h.fd hu ?_, h.fd hu ?_, h.fd hu ?_, h.fd hu ?_, h.fd hu ?_, h.fd hu ?_⟩ <;> rw [q] <;> rfl
theorem Hp.thr2 {U : Int → Int → Prop} (h : Hp w A U (xFv A S ln)) {t : Int} (hu : U 2 (8 * t)) : (S 10 t.toNat = 3 → x_fd w (A 2 (8 * t)) 12 = .int (xi (S 21 t.toNat)) ∧ x_fd w (A 2 (8 * t)) 13 = .int (xi (S 22 t.toNat)) ∧ x_fd w (A 2 (8 * t)) 14 = .int (xi (S 23 t.toNat))) ∧ (S 10 t.toNat = 3 ∨ S 10 t.toNat = 4 → x_fd w (A 2 (8 * t)) 15 = .int (xi (S 20 t.toNat))) := by
  have e : ((8 * t) / 8).toNat = t.toNat := by omega
  have q : ∀ f, xFv A S ln 2 (8 * t) f = Fthr A S ln (8 * t) t.toNat f := by
    intro f
    show Fthr A S ln (8 * t) ((8 * t) / 8).toNat f = _
    rw [e]
  refine ⟨fun c => ⟨h.fd hu ?_, h.fd hu ?_, h.fd hu ?_⟩, fun c => h.fd hu ?_⟩ <;> rw [q] <;> unfold Fthr <;> simp [c]
theorem Hp.lin {U : Int → Int → Prop} (h : Hp w A U (xFv A S ln)) {l : Int} (hu : U 9 l) : x_tg w (A 9 l) = some (3, 2) ∧ x_fd w (A 9 l) 0 = pv (fstL S ln l) (A 2 (8 * fstL S ln l)) ∧ x_fd w (A 9 l) 1 = pv (lstL S ln l) (A 2 (8 * lstL S ln l)) :=
  ⟨h.tg hu, h.fd hu rfl, h.fd hu rfl⟩
theorem Hp.gat {U : Int → Int → Prop} (h : Hp w A U (xFv A S ln)) {u : Int} (hu : U 3 u) : x_tg w (A 3 u) = some (6, 3) ∧ x_fd w (A 3 u) 0 = .int (xi 3) ∧ x_fd w (A 3 u) 1 = .int (xi u) ∧ x_fd w (A 3 u) 2 = .ref (A 9 (u + 4)) :=
  ⟨h.tg hu, h.fd hu rfl, h.fd hu rfl, h.fd hu rfl⟩
theorem Hp.bel {U : Int → Int → Prop} (h : Hp w A U (xFv A S ln)) {u : Int} (hu : U 4 u) : x_tg w (A 4 u) = some (7, 4) ∧ x_fd w (A 4 u) 0 = .int (xi 4) ∧ x_fd w (A 4 u) 1 = .int (xi u) ∧ x_fd w (A 4 u) 2 = .ref (A 9 (u + 4)) ∧ x_fd w (A 4 u) 3 = .int (xi (S 24 (u / 2).toNat)) :=
  ⟨h.tg hu, h.fd hu rfl, h.fd hu rfl, h.fd hu rfl, h.fd hu rfl⟩
theorem Hp.spa {U : Int → Int → Prop} (h : Hp w A U (xFv A S ln)) {u : Int} (hu : U 5 u) : x_tg w (A 5 u) = some (8, 3) ∧ x_fd w (A 5 u) 0 = .int (xi 5) ∧ x_fd w (A 5 u) 1 = .int (xi u) ∧ x_fd w (A 5 u) 2 = .ref (A 10 u) :=
  ⟨h.tg hu, h.fd hu rfl, h.fd hu rfl, h.fd hu rfl⟩
theorem Hp.lea {U : Int → Int → Prop} (h : Hp w A U (xFv A S ln)) {u : Int} (hu : U 6 u) : x_tg w (A 6 u) = some (9, 5) ∧ x_fd w (A 6 u) 0 = .int (xi 6) ∧ x_fd w (A 6 u) 1 = .int (xi u) ∧ x_fd w (A 6 u) 2 = pv (S 25 (u / 4).toNat) (A 5 (S 25 (u / 4).toNat)) ∧ (¬ S 25 (u / 4).toNat < 0 → x_fd w (A 6 u) 3 = .int (xi (S 26 (u / 4).toNat))) ∧ x_fd w (A 6 u) 4 = .ref (A 11 u) := by
  refine ⟨h.tg hu, h.fd hu rfl, h.fd hu rfl, h.fd hu rfl, fun c => h.fd hu ?_, h.fd hu rfl⟩
  show Fthi A S 6 u 3 = _
  unfold Fthi
  simp [c]
theorem Hp.thi (h : Rel w A S ln) {k u : Int} (hk0 : 1 ≤ k) (hk : k ≤ 7) (hu : us S k u) : x_tg w (A k u) = some (tgK k u) ∧ x_fd w (A k u) 0 = .int (xi k) ∧ x_fd w (A k u) 1 = .int (xi u) := by
  rcases (by omega : k = 1 ∨ k = 2 ∨ k = 3 ∨ k = 4 ∨ k = 5 ∨ k = 6 ∨ k = 7) with rfl | rfl | rfl | rfl | rfl | rfl | rfl <;> exact ⟨h.tg hu, h.fd hu rfl, h.fd hu rfl⟩
theorem Hp.unt (h : Rel w A S ln) {p : Int} (h0 : 0 ≤ p) (h1 : p < 128) (h2 : S 0 p.toNat = 0) : x_tg w (A 0 p) = some (4, 4) ∧ x_fd w (A 0 p) 0 = .int (xi 0) ∧ x_fd w (A 0 p) 1 = .int (xi (S 1 p.toNat)) ∧ x_fd w (A 0 p) 2 = .int (xi (s_size 0 (S 5 p.toNat))) ∧ (¬ s_children S p = 0 → x_fd w (A 0 p) 3 = .int (xi (S 6 p.toNat))) := by
  have hu := us_unt (S := S) h0 h1 h2
  have q : ∀ f, xFv A S ln 0 p f = Funt S p f := fun f => if_pos rfl
  refine ⟨h.tg hu, h.fd hu ?_, h.fd hu ?_, h.fd hu ?_, fun c => h.fd hu ?_⟩
  · rw [q]; unfold Funt; rw [if_pos rfl]
  · rw [q]; unfold Funt; rw [if_neg (by omega), if_pos rfl]
  · rw [q]; unfold Funt; rw [if_neg (by omega), if_neg (by omega), if_pos rfl]
  · rw [q]; unfold Funt; rw [if_neg (by omega), if_neg (by omega), if_neg (by omega), if_pos rfl, if_neg c]
theorem Hp.lvs (h : Rel w A S ln) {u : Int} (hu : hd S 5 u) : x_tg w (A 10 u) = some (39, 4) ∧ ∀ f : Nat, f < 4 → x_fd w (A 10 u) f = pv (s_leafOf S u f) (A 6 (s_leafOf S u f)) := by
  refine ⟨h.tg (us_lvs hu), fun f hf => h.fd (us_lvs hu) ?_⟩
  show (if f < 4 then some (pv (s_leafOf S u f) (A 6 (s_leafOf S u f))) else none) = _
  rw [if_pos hf]
theorem Hp.frs (h : Rel w A S ln) {u : Int} (hu : hd S 6 u) : x_tg w (A 11 u) = some (31, 4) ∧ ∀ f : Nat, f < 4 → x_fd w (A 11 u) f = pv (s_frameOf S u f) (A 8 (s_frameOf S u f)) := by
  refine ⟨h.tg (us_frs hu), fun f hf => h.fd (us_frs hu) ?_⟩
  show (if f < 4 then some (pv (s_frameOf S u f) (A 8 (s_frameOf S u f))) else none) = _
  rw [if_pos hf]
/-- the thing of a live capability, by kind -/
theorem Hp.thg (h : Rel w A S ln) (hA : CapA S) {p : Int} (h0 : 0 ≤ p) (h1 : p < 128) (h2 : 0 ≤ S 0 p.toNat) : ∃ n, x_tg w (thA A S p) = some ((tgK (S 0 p.toNat) 0).1, n) ∧ (tgK (S 0 p.toNat) 0).1 ∈ x_things ∧ x_fd w (thA A S p) 0 = .int (xi (S 0 p.toNat)) ∧ x_fd w (thA A S p) 1 = .int (xi (S 1 p.toNat)) := by
  have g := (hA p.toNat (by omega)).1
  unfold thA
  by_cases c : S 0 p.toNat = 0
  · have k := h.unt h0 h1 c
    rw [if_pos c, c]
    exact ⟨4, k.1, by decide, k.2.1, k.2.2.1⟩
  · have hh : hd S (S 0 p.toNat) (S 1 p.toNat) := ⟨p.toNat, by omega, rfl, rfl⟩
    have k := h.thi (k := S 0 p.toNat) (by omega) g.2.1 (us_thi (by omega) g.2.1 hh)
    rw [if_neg c]
    generalize S 0 p.toNat = x at *
    rcases (by omega : x = 1 ∨ x = 2 ∨ x = 3 ∨ x = 4 ∨ x = 5 ∨ x = 6 ∨ x = 7) with rfl | rfl | rfl | rfl | rfl | rfl | rfl <;> exact ⟨_, k.1, by decide, k.2⟩
theorem pv_n {a : Int} {b : Nat} (h : a < 0) : pv a b = .null := if_pos h
theorem pv_r {a : Int} {b : Nat} (h : ¬ a < 0) : pv a b = .ref b := if_neg h
theorem x_nn {e : Int} (h0 : 0 ≤ e) (h1 : e < 2147483648) : ¬ xi e < 0 := by
  rw [show (0 : Int32) = xi 0 from rfl, xi_lt (by omega) (by omega) (by omega) (by omega)]
  omega
theorem x_clt {e : Int} {n : Nat} (h0 : 0 ≤ e) (h1 : e < n) (h2 : n < 2147483648) : (xi e).toNatClampNeg < n := by
  rw [xi_clamp h0 (by omega)]
  omega
theorem x_cle {e : Int} (h0 : 0 ≤ e) (h1 : e < 2147483648) : (xi e).toNatClampNeg = e.toNat := xi_clamp h0 (by omega)
theorem x_rv_r (a : Nat) : x_rv (.ref a) = some (some a) := rfl
theorem x_rv_n : x_rv .null = some none := rfl
end RD
