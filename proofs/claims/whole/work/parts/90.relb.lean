def capW (w : xH) (sl : Nat) (d : Nat) (th : Nat) (r b p : Int) (pa : Nat) : xH := x_put (x_put (x_put (x_put (x_put (x_put (x_new w 1 8 (x_df 1)) (x_sz w) 0 (.ref th)) (x_sz w) 1 (.int (xi r))) (x_sz w) 2 (.int (xi b))) (x_sz w) 3 (pv p pa)) sl d (.ref (x_sz w))) (x_sz w) 4 (.int (xi (d : Int)))
/-- the new capability, by fields -/
def capF (th : Nat) (d : Nat) (r b p : Int) (pa : Nat) (f : Nat) : Option Value := if f = 0 then some (.ref th) else if f = 1 then some (.int (xi r)) else if f = 2 then some (.int (xi b)) else if f = 3 then some (pv p pa) else if f = 4 then some (.int (xi (d : Int))) else some (x_df 1 f)
theorem Hp.newc {w : xH} {A : xA} {U : Int → Int → Prop} {F : Int → Int → Nat → Option Value} (h : Hp w A U F) {d : Nat} (hu : ¬ U 8 (d : Int)) (h12 : U 12 1) (th : Nat) (r b p : Int) (pa : Nat) : Hp (capW w (A 12 1) d th r b p pa) (aup A 8 (d : Int) (x_sz w)) (fun k i => U k i ∨ (k = 8 ∧ i = (d : Int))) (fun k i f => if k = 8 ∧ i = (d : Int) then capF th d r b p pa f else if k = 12 ∧ i = 1 ∧ f = d then some (.ref (x_sz w)) else F k i f) := by
  have H1 := h.new (k := 8) (i := (d : Int)) hu (t := 1) (n := 8) rfl (x_df 1)
  have ud : (fun k' i' => U k' i' ∨ (k' = 8 ∧ i' = (d : Int))) 8 (d : Int) := Or.inr ⟨rfl, rfl⟩
  have u12 : (fun k' i' => U k' i' ∨ (k' = 8 ∧ i' = (d : Int))) 12 1 := Or.inl h12
  have H2 := (((((H1.put ud 0 (.ref th)).put ud 1 (.int (xi r))).put ud 2 (.int (xi b))).put ud 3 (pv p pa)).put u12 d (.ref (x_sz w))).put ud 4 (.int (xi (d : Int)))
  have e12 : aup A 8 (d : Int) (x_sz w) 12 1 = A 12 1 := aup_n (by omega)
  rw [e12, aup_e] at H2
  refine H2.to (fun k i u => ⟨u, rfl⟩) (fun k i f v u e => ?_)
  by_cases c : k = 8 ∧ i = (d : Int)
  · have e : capF th d r b p pa f = some v := by rw [← e]; exact (if_pos c).symm
    rw [c.1, c.2]
    unfold capF at e
    by_cases c4 : f = 4
    · rw [c4, fup_e]
      rw [c4] at e
      exact e
    rw [fup_n (fun x => c4 x.2.2), fup_n (by omega)]
    by_cases c3 : f = 3
    · rw [c3, fup_e]
      rw [c3] at e
      exact e
    rw [fup_n (fun x => c3 x.2.2)]
    by_cases c2 : f = 2
    · rw [c2, fup_e]
      rw [c2] at e
      exact e
    rw [fup_n (fun x => c2 x.2.2)]
    by_cases c1 : f = 1
    · rw [c1, fup_e]
      rw [c1] at e
      exact e
    rw [fup_n (fun x => c1 x.2.2)]
    by_cases c0 : f = 0
    · rw [c0, fup_e]
      rw [c0] at e
      exact e
    rw [fup_n (fun x => c0 x.2.2), fnw_e, ← e, if_neg c0, if_neg c1, if_neg c2, if_neg c3, if_neg c4]
  · have e : (if k = 12 ∧ i = 1 ∧ f = d then some (Value.ref (x_sz w)) else F k i f) = some v := by rw [← e]; exact (if_neg c).symm
    rw [fup_n (fun x => c ⟨x.1, x.2.1⟩)]
    by_cases c2 : k = 12 ∧ i = 1 ∧ f = d
    · rw [if_pos c2] at e
      rw [c2.1, c2.2.1, c2.2.2, fup_e]
      exact e
    · rw [if_neg c2] at e
      rw [fup_n c2, fup_n (fun x => c ⟨x.1, x.2.1⟩), fup_n (fun x => c ⟨x.1, x.2.1⟩), fup_n (fun x => c ⟨x.1, x.2.1⟩), fup_n (fun x => c ⟨x.1, x.2.1⟩), fnw_n c]
      exact e
theorem Hp.newfr {w w0 : xH} {n : Nat} {A : xA} {U : Int → Int → Prop} {F : Int → Int → Nat → Option Value} (h : Hp w A U F) (g : Fr w0 w n) (h12 : U 12 1) (d th : Nat) (r b p : Int) (pa : Nat) : Fr w0 (capW w (A 12 1) d th r b p pa) (n + 1) := by
  have f0 := g.new (t := 1) (n := 8) h.2.2.2 (by omega) (x_df 1)
  have tg : ∀ {w' : xH}, x_tg w' = x_tg (x_new w 1 8 (x_df 1)) → x_tg w' (x_sz w) = some (1, 8) := by
    intro w' e
    rw [e, x_tg_new, if_pos rfl]
  have t12 : x_tg (x_new w 1 8 (x_df 1)) (A 12 1) = some (31, 128) := by
    rw [x_tg_new, if_neg (by have := h.lt h12; omega)]
    exact h.1 12 1 h12
  have f1 := f0.put (tg rfl) (Or.inl (by omega)) 0 (.ref th)
  have f2 := f1.put (tg rfl) (Or.inl (by omega)) 1 (.int (xi r))
  have f3 := f2.put (tg rfl) (Or.inl (by omega)) 2 (.int (xi b))
  have f4 := f3.put (tg rfl) (Or.inl (by omega)) 3 (pv p pa)
  have f5 := f4.put (a := A 12 1) t12 (Or.inr (by omega)) d (.ref (x_sz w))
  exact f5.put (tg rfl) (Or.inl (by omega)) 4 (.int (xi (d : Int)))
/-- what an address update leaves -/
theorem aup_8 {A : xA} {d : Int} {a : Nat} : ∀ k, k ≠ 8 → k ≠ 0 → aup A 8 d a k = A k := fun k h _ => aup_k h
set_option maxHeartbeats 4000000 in
theorem Hp.copyc {w : xH} {A : xA} {S T : xS} {ln : Nat → Int} (h : Rel w A S ln) (hI : Inv S) {d f : Nat} (hd8 : d < 128) (hdead : S 0 d < 0) (hf : f < 128) (hfl : 0 < S 0 f) (e : ∀ j, 9 ≤ j → T j = S j) (o : ∀ j i, j < 9 → i ≠ d → T j i = S j i) (d0 : T 0 d = S 0 f) (d1 : T 1 d = S 1 f) (d4 : T 4 d = (f : Int)) (d7 : T 7 d = -1) :
    Rel (capW w (A 12 1) d (thA A S (f : Int)) (T 2 d) (T 3 d) (f : Int) (A 8 (f : Int))) (aup A 8 (d : Int) (x_sz w)) T ln := by
  have hA := hI.1.2.1
  have hT := hI.1.2.2.1.1
  have nu : ¬ us S 8 (d : Int) := by
    intro u
    unfold us at u
    rw [Int.toNat_natCast] at u
    omega
  have H := h.newc nu (us_ker (by omega)) (thA A S (f : Int)) (T 2 d) (T 3 d) (f : Int) (A 8 (f : Int))
  have hh : ∀ k u, 1 ≤ k → (hd T k u ↔ hd S k u) := by
    intro k u hk
    refine ⟨?_, ?_⟩
    · rintro ⟨p, p1, p2, p3⟩
      by_cases c : p = d
      · rw [c] at p2 p3
        exact ⟨f, hf, by rw [← d0]; exact p2, by rw [← d1]; exact p3⟩
      · exact ⟨p, p1, by rw [← o 0 p (by omega) c]; exact p2, by rw [← o 1 p (by omega) c]; exact p3⟩
    · rintro ⟨p, p1, p2, p3⟩
      have c : p ≠ d := by intro c; rw [c] at p2; omega
      exact ⟨p, p1, by rw [o 0 p (by omega) c]; exact p2, by rw [o 1 p (by omega) c]; exact p3⟩
  have usT : ∀ k i, us T k i → us S k i ∨ (k = 8 ∧ i = (d : Int)) := by
    intro k i u
    unfold us at u ⊢
    rcases u with u | u | u | u | u | u | u
    · have c : i.toNat ≠ d := fun x => by rw [x, d0] at u; omega
      rw [o 0 _ (by omega) c] at u
      exact Or.inl (Or.inl u)
    · exact Or.inl (Or.inr (Or.inl ⟨u.1, u.2.1, (hh k i u.1).1 u.2.2⟩))
    · by_cases c : i.toNat = d
      · exact Or.inr ⟨u.1, by omega⟩
      · rw [o 0 _ (by omega) c] at u
        exact Or.inl (Or.inr (Or.inr (Or.inl u)))
    · rw [hh 3 _ (by omega), hh 4 _ (by omega)] at u
      exact Or.inl (Or.inr (Or.inr (Or.inr (Or.inl u))))
    · rw [hh 5 _ (by omega)] at u
      exact Or.inl (Or.inr (Or.inr (Or.inr (Or.inr (Or.inl u)))))
    · rw [hh 6 _ (by omega)] at u
      exact Or.inl (Or.inr (Or.inr (Or.inr (Or.inr (Or.inr (Or.inl u))))))
    · exact Or.inl (Or.inr (Or.inr (Or.inr (Or.inr (Or.inr (Or.inr u))))))
  refine H.to (fun k i u => ⟨usT k i u, rfl⟩) (fun k i g v u q => ?_)
  have k12 := us_le u
  have a8 : ∀ x : Int, x ≠ (d : Int) → aup A 8 (d : Int) (x_sz w) 8 x = A 8 x := fun x hx => aup_n (fun z => hx z.2)
  have live : ∀ x : Int, 0 ≤ x → 0 ≤ S 0 x.toNat → x ≠ (d : Int) := by
    intro x x0 hx c
    rw [c, Int.toNat_natCast] at hx
    omega
  by_cases c8 : k = 8
  · rw [c8] at u q ⊢
    have q : Fcap (aup A 8 (d : Int) (x_sz w)) T i g = some v := q
    by_cases ci : i = (d : Int)
    · rw [if_pos ⟨rfl, ci⟩]
      revert q
      rw [ci]
      refine Fcap_all (p := fun g v => capF (thA A S (f : Int)) d (T 2 d) (T 3 d) (f : Int) (A 8 (f : Int)) g = some v) ?_ ?_ ?_ ?_ ?_ ?_ (fun x => ?_) ?_ g v
      · have : thA (aup A 8 (d : Int) (x_sz w)) T (d : Int) = thA A S (f : Int) := by
          unfold thA
          rw [Int.toNat_natCast, Int.toNat_natCast, d0, d1, if_neg (by omega), if_neg (by omega)]
          exact aup_n (fun x => by have := (hA f hf).1; omega)
        rw [this]; rfl
      · rw [Int.toNat_natCast]; rfl
      · rw [Int.toNat_natCast]; rfl
      · rw [Int.toNat_natCast, d4]
        have : aup A 8 (d : Int) (x_sz w) 8 (f : Int) = A 8 (f : Int) := a8 _ (live _ (by omega) (by rw [Int.toNat_natCast]; omega))
        rw [this]; rfl
      · rfl
      · rw [Int.toNat_natCast, d7]; rfl
      · rw [Int.toNat_natCast, d7] at x; omega
      · rw [Int.toNat_natCast, e 9 (by omega), hI.2 d hd8]; rfl
    · rw [if_neg (fun x => ci x.2), if_neg (by omega)]
      have u' := (usT 8 i u).resolve_right (fun x => ci x.2)
      have lv : 0 ≤ i ∧ i < 128 ∧ 0 ≤ S 0 i.toNat := by unfold us at u'; omega
      have cd : i.toNat ≠ d := by omega
      show Fcap A S i g = some v
      rw [← q]
      refine (Fcap_cg (fun j j1 j2 j3 => ?_) ?_ (fun x => ?_) (aup_k (by omega)) g).symm
      · by_cases j9 : j = 9
        · rw [j9, e 9 (by omega)]
        · exact o j _ (by omega) cd
      · unfold thA
        rw [o 0 _ (by omega) cd, o 1 _ (by omega) cd]
        by_cases z : S 0 i.toNat = 0
        · rw [if_pos z, if_pos z]; exact aup_n (by omega)
        · rw [if_neg z, if_neg z]
          exact aup_n (fun x => by have := (hA i.toNat (by omega)).1; omega)
      · have pl := par_lv hT (by omega) x
        exact a8 _ (live _ pl.1 pl.2.2)
  rw [if_neg (fun x => c8 x.1)]
  by_cases c12 : k = 12
  · rw [c12] at u q ⊢
    have q : Fker (aup A 8 (d : Int) (x_sz w)) T i g = some v := q
    by_cases ci : i = 1
    · rw [ci] at q ⊢
      have q : (if g < 128 then some (pv (T 0 g) (aup A 8 (d : Int) (x_sz w) 8 (g : Int))) else none) = some v := q
      by_cases cg : g = d
      · rw [if_pos ⟨rfl, rfl, cg⟩]
        rw [cg, if_pos hd8, aup_e, d0, pv_r (by omega)] at q
        exact q
      · rw [if_neg (fun x => cg x.2.2)]
        rw [a8 _ (by omega)] at q
        rw [← q]
        show (if g < 128 then some (pv (S 0 g) (A 8 (g : Int))) else none) = _
        rw [o 0 g (by omega) cg]
    · rw [if_neg (fun x => ci x.2.1), ← q]
      exact (Fker_oth aup_8 (fun j hj => e j (by omega)) ci).symm
  rw [if_neg (fun x => c12 x.1)]
  by_cases c0 : k = 0
  · rw [c0] at u q ⊢
    have u' := (usT 0 i u).resolve_right (fun x => by omega)
    have lv : 0 ≤ i ∧ i < 128 ∧ S 0 i.toNat = 0 := by unfold us at u'; omega
    have cd : i.toNat ≠ d := by
      intro x
      rw [x] at lv
      omega
    have q : Funt T i g = some v := by rw [← q]; exact (if_pos rfl).symm
    have r : xFv A S ln 0 i g = Funt S i g := if_pos rfl
    rw [r, ← q]
    have ch : s_children T i = s_children S i := by
      unfold s_children
      refine cntL_cg _ _ 128 (fun z hz => ?_)
      by_cases cz : z = d
      · rw [cz, d0, d4]
        constructor
        · intro x
          have : f = i.toNat := by omega
          rw [this] at hfl
          omega
        · intro x; omega
      · rw [o 0 z (by omega) cz, o 4 z (by omega) cz]
    unfold Funt
    rw [ch, o 1 _ (by omega) cd, o 5 _ (by omega) cd, o 6 _ (by omega) cd]
  by_cases c11 : k = 11
  · rw [c11] at u q ⊢
    have u' := (usT 11 i u).resolve_right (fun x => by omega)
    have h6 : hd S 6 i := by
      unfold us at u'
      rcases u' with z | z | z | z | z | z | z
      all_goals first | exact z.2 | omega
    have i0 := hA.hd h6
    have q : (if g < 4 then some (pv (s_frameOf T i g) (aup A 8 (d : Int) (x_sz w) 8 (s_frameOf T i g))) else none) = some v := q
    have fe : s_frameOf T i g = s_frameOf S i g := by
      unfold s_frameOf
      refine frL_cg2 (fun z hz => ?_) 128 0 (by omega)
      by_cases cz : z = d
      · rw [cz, d7]
        constructor <;> intro x <;> omega
      · rw [o 0 z (by omega) cz, o 7 z (by omega) cz, o 8 z (by omega) cz]
    rw [fe] at q
    show (if g < 4 then some (pv (s_frameOf S i g) (A 8 (s_frameOf S i g))) else none) = some v
    rw [← q]
    by_cases z : s_frameOf S i g < 0
    · rw [pv_n z, pv_n z]
    · have y := frameOf_is (S := S) (l := i) (e := g) (by omega)
      rw [a8 _ (live _ (by omega) (by omega))]
  by_cases c10 : k = 10
  · rw [c10] at u q ⊢
    have q : (if g < 4 then some (pv (s_leafOf T i g) (aup A 8 (d : Int) (x_sz w) 6 (s_leafOf T i g))) else none) = some v := q
    have fe : s_leafOf T i g = s_leafOf S i g := by
      unfold s_leafOf
      refine lfL_cg2 (fun z hz => ⟨?_, hh 6 _ (by omega)⟩) i g 32 0 (by omega)
      by_cases y : hd T 6 (4 * (z : Int))
      · exact Or.inl ⟨y, by rw [e 25 (by omega)], by rw [e 26 (by omega)]⟩
      · exact Or.inr y
    rw [fe, aup_k (by omega)] at q
    exact q
  · rw [← q]
    exact (Fv_oth aup_8 (fun j hj => e j (by omega)) (by omega)).symm
