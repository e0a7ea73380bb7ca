/-! ===== joining and leaving a line ===== -/
theorem mnU {q : Nat → Int} {p : Nat → Prop} [DecidablePred p] {n : Nat} {r : Int} (hd : ∀ t t', t < n → t' < n → p t → p t' → t ≠ t' → q t ≠ q t') (hr : (r = -1 ∧ ∀ t, t < n → ¬ p t) ∨ (0 ≤ r ∧ r < n ∧ p r.toNat ∧ ∀ t, t < n → p t → q r.toNat ≤ q t)) : mnL q p n = r := by
  rcases hr with hr | ⟨h0, h1, h2, h3⟩
  · rw [hr.1]; exact mnL_no hr.2
  · have e := mnL_eq (q := q) (p := p) (n := n) (t := r.toNat) (by omega) h2 (fun t' ht' hp hne => by
      have a := h3 t' ht' hp
      have b := hd t' r.toNat ht' (by omega) hp h2 hne
      omega)
    omega
theorem mnI (q : Nat → Int) (p : Nat → Prop) [DecidablePred p] (n : Nat) : (mnL q p n = -1 ∧ ∀ t, t < n → ¬ p t) ∨ (0 ≤ mnL q p n ∧ mnL q p n < n ∧ p (mnL q p n).toNat ∧ ∀ t, t < n → p t → q (mnL q p n).toNat ≤ q t) := by
  have i := mnL_in q p n
  rcases mnL_spec q p n with s | s
  · exact Or.inl ⟨by omega, s.2⟩
  · exact Or.inr ⟨s.1, i.2, s.2⟩
/-- what lines keep to -/
def LnU (U : Int → Int → Prop) (S : xS) (ln : Nat → Int) : Prop := (∀ t, t < 16 → -1 ≤ ln t) ∧ (∀ t : Nat, t < 16 → 0 ≤ ln t → U 2 (8 * (t : Int)) ∧ U 9 (ln t)) ∧ (∀ t t', t < 16 → t' < 16 → t ≠ t' → 0 ≤ ln t → 0 ≤ ln t' → S 18 t ≠ S 18 t')
abbrev LnI (S : xS) (ln : Nat → Int) : Prop := LnU (us S) S ln
def prvL (S : xS) (ln : Nat → Int) (t : Nat) : Int := mnL (fun k => - S 18 k) (fun k => ln k = ln t ∧ 0 ≤ ln t ∧ S 18 k < S 18 t) 16
def lup (ln : Nat → Int) (t : Nat) (l : Int) : Nat → Int := fun k => if k = t then l else ln k
theorem lup_t (ln : Nat → Int) (t : Nat) (l : Int) : lup ln t l t = l := if_pos rfl
theorem lup_o {ln : Nat → Int} {t : Nat} {l : Int} {k : Nat} (h : k ≠ t) : lup ln t l k = ln k := if_neg h
section LV
variable {S : xS} {ln : Nat → Int}
theorem lv_fst {U : Int → Int → Prop} (h : LnU U S ln) {t : Nat} (ht : t < 16) {l : Int} (hl : ln t = l) (l0 : 0 ≤ l) : fstL S (lup ln t (-1)) l = if prvL S ln t < 0 then nxtL S ln t else fstL S ln l := by
  obtain ⟨-, -, hd⟩ := h
  have B := mnI (fun k => - S 18 k) (fun k => ln k = ln t ∧ 0 ≤ ln t ∧ S 18 k < S 18 t) 16
  have N := mnI (S 18) (fun k => ln k = ln t ∧ 0 ≤ ln t ∧ S 18 t < S 18 k) 16
  have F := mnI (S 18) (fun k => ln k = l) 16
  conv => lhs; unfold fstL
  refine mnU (fun a b ha hb pa pb hne => ?_) ?_
  · have ea : ln a = l := by by_cases c : a = t; (· rw [c]; exact hl); (· rw [lup_o c] at pa; exact pa)
    have eb : ln b = l := by by_cases c : b = t; (· rw [c]; exact hl); (· rw [lup_o c] at pb; exact pb)
    exact hd a b ha hb hne (by omega) (by omega)
  have pk : ∀ k, lup ln t (-1) k = l ↔ (k ≠ t ∧ ln k = l) := by
    intro k
    by_cases c : k = t
    · rw [c, lup_t]; constructor <;> intro x <;> omega
    · rw [lup_o c]; exact ⟨fun x => ⟨c, x⟩, fun x => x.2⟩
  have Be : mnL (fun k => - S 18 k) (fun k => ln k = ln t ∧ 0 ≤ ln t ∧ S 18 k < S 18 t) 16 = prvL S ln t := rfl
  have Ne : mnL (S 18) (fun k => ln k = ln t ∧ 0 ≤ ln t ∧ S 18 t < S 18 k) 16 = nxtL S ln t := rfl
  have Fe : mnL (S 18) (fun k => ln k = l) 16 = fstL S ln l := rfl
  rw [Be] at B
  rw [Ne] at N
  rw [Fe] at F
  simp only [pk]
  by_cases c : prvL S ln t < 0
  · rw [if_pos c]
    have Bn : ∀ k, k < 16 → ln k = l → k ≠ t → S 18 t < S 18 k := by
      intro k hk e ne
      have := hd k t hk ht ne (by omega) (by omega)
      rcases B with B | B
      · have := B.2 k hk
        by_cases d : S 18 k < S 18 t
        · exact absurd ⟨by omega, by omega, d⟩ this
        · omega
      · omega
    rcases N with N | N
    · refine Or.inl ⟨N.1, fun k hk x => ?_⟩
      exact N.2 k hk ⟨by omega, by omega, Bn k hk x.2 x.1⟩
    · refine Or.inr ⟨N.1, N.2.1, ⟨fun e => ?_, by have := N.2.2.1.1; omega⟩, fun k hk x => N.2.2.2 k hk ⟨by omega, by omega, Bn k hk x.2 x.1⟩⟩
      have := N.2.2.1.2.2
      rw [e] at this
      omega
  · rw [if_neg c]
    rcases B with B | B
    · omega
    rcases F with F | F
    · exact absurd hl (F.2 t ht)
    · refine Or.inr ⟨F.1, F.2.1, ⟨fun e => ?_, F.2.2.1⟩, fun k hk x => F.2.2.2 k hk x.2⟩
      have b1 := B.2.2.1
      have := F.2.2.2 (prvL S ln t).toNat (by omega) (by omega)
      rw [e] at this
      omega
theorem lv_lst {U : Int → Int → Prop} (h : LnU U S ln) {t : Nat} (ht : t < 16) {l : Int} (hl : ln t = l) (l0 : 0 ≤ l) : lstL S (lup ln t (-1)) l = if lstL S ln l = (t : Int) then prvL S ln t else lstL S ln l := by
  obtain ⟨-, -, hd⟩ := h
  have B := mnI (fun k => - S 18 k) (fun k => ln k = ln t ∧ 0 ≤ ln t ∧ S 18 k < S 18 t) 16
  have F := mnI (fun k => - S 18 k) (fun k => ln k = l) 16
  conv => lhs; unfold lstL
  refine mnU (fun a b ha hb pa pb hne => ?_) ?_
  · have ea : ln a = l := by by_cases c : a = t; (· rw [c]; exact hl); (· rw [lup_o c] at pa; exact pa)
    have eb : ln b = l := by by_cases c : b = t; (· rw [c]; exact hl); (· rw [lup_o c] at pb; exact pb)
    have := hd a b ha hb hne (by omega) (by omega)
    omega
  have pk : ∀ k, lup ln t (-1) k = l ↔ (k ≠ t ∧ ln k = l) := by
    intro k
    by_cases c : k = t
    · rw [c, lup_t]; constructor <;> intro x <;> omega
    · rw [lup_o c]; exact ⟨fun x => ⟨c, x⟩, fun x => x.2⟩
  have Be : mnL (fun k => - S 18 k) (fun k => ln k = ln t ∧ 0 ≤ ln t ∧ S 18 k < S 18 t) 16 = prvL S ln t := rfl
  have Fe : mnL (fun k => - S 18 k) (fun k => ln k = l) 16 = lstL S ln l := rfl
  rw [Be] at B
  rw [Fe] at F
  simp only [pk]
  by_cases c : lstL S ln l = (t : Int)
  · rw [if_pos c]
    have Bn : ∀ k, k < 16 → ln k = l → k ≠ t → S 18 k < S 18 t := by
      intro k hk e ne
      have d := hd k t hk ht ne (by omega) (by omega)
      rcases F with F | F
      · omega
      · have x := F.2.2.2 k hk e
        rw [c, Int.toNat_natCast] at x
        omega
    rcases B with B | B
    · refine Or.inl ⟨B.1, fun k hk x => ?_⟩
      exact B.2 k hk ⟨by omega, by omega, Bn k hk x.2 x.1⟩
    · refine Or.inr ⟨B.1, B.2.1, ⟨fun e => ?_, by have := B.2.2.1.1; omega⟩, fun k hk x => B.2.2.2 k hk ⟨by omega, by omega, Bn k hk x.2 x.1⟩⟩
      have := B.2.2.1.2.2
      rw [e] at this
      omega
  · rw [if_neg c]
    rcases F with F | F
    · exact absurd hl (F.2 t ht)
    · exact Or.inr ⟨F.1, F.2.1, ⟨fun e => by omega, F.2.2.1⟩, fun k hk x => F.2.2.2 k hk x.2⟩
theorem lv_nxt {U : Int → Int → Prop} (h : LnU U S ln) {t : Nat} (ht : t < 16) (l0 : 0 ≤ ln t) {k : Nat} (hk : k < 16) (hne : k ≠ t) : nxtL S (lup ln t (-1)) k = if (k : Int) = prvL S ln t then nxtL S ln t else nxtL S ln k := by
  obtain ⟨-, -, hd⟩ := h
  have B := mnI (fun k => - S 18 k) (fun k => ln k = ln t ∧ 0 ≤ ln t ∧ S 18 k < S 18 t) 16
  have N := mnI (S 18) (fun k => ln k = ln t ∧ 0 ≤ ln t ∧ S 18 t < S 18 k) 16
  have D := mnI (S 18) (fun j => ln j = ln k ∧ 0 ≤ ln k ∧ S 18 k < S 18 j) 16
  have Be : mnL (fun k => - S 18 k) (fun k => ln k = ln t ∧ 0 ≤ ln t ∧ S 18 k < S 18 t) 16 = prvL S ln t := rfl
  have Ne : mnL (S 18) (fun k => ln k = ln t ∧ 0 ≤ ln t ∧ S 18 t < S 18 k) 16 = nxtL S ln t := rfl
  have De : mnL (S 18) (fun j => ln j = ln k ∧ 0 ≤ ln k ∧ S 18 k < S 18 j) 16 = nxtL S ln k := rfl
  rw [Be] at B
  rw [Ne] at N
  rw [De] at D
  have pk : ∀ j, (lup ln t (-1) j = lup ln t (-1) k ∧ 0 ≤ lup ln t (-1) k ∧ S 18 k < S 18 j) ↔ (j ≠ t ∧ ln j = ln k ∧ 0 ≤ ln k ∧ S 18 k < S 18 j) := by
    intro j
    rw [lup_o hne]
    by_cases c : j = t
    · rw [c, lup_t]; constructor <;> intro x <;> omega
    · rw [lup_o c]; exact ⟨fun x => ⟨c, x⟩, fun x => x.2⟩
  conv => lhs; unfold nxtL
  refine mnU (fun a b ha hb pa pb hn => ?_) ?_
  · rw [pk] at pa pb
    exact hd a b ha hb hn (by omega) (by omega)
  simp only [pk]
  by_cases c : (k : Int) = prvL S ln t
  · rw [if_pos c]
    rcases B with B | B
    · omega
    have b1 := B.2.2.1
    rw [← c, Int.toNat_natCast] at b1
    have Bn : ∀ j, j < 16 → j ≠ t → ln j = ln k → S 18 k < S 18 j → S 18 t < S 18 j := by
      intro j hj jt e x
      have d := hd j t hj ht jt (by omega) (by omega)
      by_cases y : S 18 j < S 18 t
      · have z := B.2.2.2 j hj ⟨by omega, by omega, y⟩
        rw [← c, Int.toNat_natCast] at z
        omega
      · omega
    rcases N with N | N
    · exact Or.inl ⟨N.1, fun j hj x => N.2 j hj ⟨by omega, by omega, Bn j hj x.1 x.2.1 x.2.2.2⟩⟩
    · have n1 := N.2.2.1
      refine Or.inr ⟨N.1, N.2.1, ⟨fun e => ?_, by omega, by omega, by omega⟩, fun j hj x => N.2.2.2 j hj ⟨by omega, by omega, Bn j hj x.1 x.2.1 x.2.2.2⟩⟩
      rw [e] at n1
      omega
  · rw [if_neg c]
    rcases D with D | D
    · exact Or.inl ⟨D.1, fun j hj x => D.2 j hj x.2⟩
    · refine Or.inr ⟨D.1, D.2.1, ⟨fun e => ?_, D.2.2.1⟩, fun j hj x => D.2.2.2 j hj x.2⟩
      have d1 := D.2.2.1
      rw [e] at d1
      rcases B with B | B
      · exact B.2 k hk ⟨by omega, by omega, by omega⟩
      · have b1 := B.2.2.1
        have b2 := B.2.2.2 k hk ⟨by omega, by omega, by omega⟩
        have ne2 : (prvL S ln t).toNat ≠ k := by omega
        have b3 := hd (prvL S ln t).toNat k (by omega) hk ne2 (by omega) (by omega)
        have b4 := D.2.2.2 (prvL S ln t).toNat (by omega) ⟨by omega, by omega, by omega⟩
        rw [e] at b4
        omega
theorem lv_oth {t : Nat} {l : Int} (hl : ln t ≠ l) (l0 : 0 ≤ l) : fstL S (lup ln t (-1)) l = fstL S ln l ∧ lstL S (lup ln t (-1)) l = lstL S ln l := by
  have pk : ∀ k, lup ln t (-1) k = l ↔ ln k = l := by
    intro k
    by_cases c : k = t
    · rw [c, lup_t]; constructor <;> intro x <;> omega
    · rw [lup_o c]
  exact ⟨mnL_cg (fun k _ => pk k) (fun _ _ _ => rfl), mnL_cg (fun k _ => pk k) (fun _ _ _ => rfl)⟩
theorem lv_me {t : Nat} : nxtL S (lup ln t (-1)) t = -1 := by
  refine mnL_no (fun k _ x => ?_)
  rw [lup_t] at x
  omega
/-- the times of the members and of the one that comes -/
def JnI (S : xS) (ln : Nat → Int) (t : Nat) (l : Int) : Prop := t < 16 ∧ 0 ≤ l ∧ ln t = -1 ∧ (∀ k, k < 16 → ln k = l → S 18 k < S 18 t) ∧ (∀ a b, a < 16 → b < 16 → a ≠ b → 0 ≤ ln a → 0 ≤ ln b → S 18 a ≠ S 18 b)
theorem jn_pk {t : Nat} {l : Int} (k : Nat) : lup ln t l k = l ↔ (k = t ∨ ln k = l) := by
  by_cases c : k = t
  · rw [c, lup_t]; simp
  · rw [lup_o c]; simp [c]
theorem jn_fst {t : Nat} {l : Int} (h : JnI S ln t l) : fstL S (lup ln t l) l = if lstL S ln l < 0 then (t : Int) else fstL S ln l := by
  obtain ⟨ht, l0, ht1, hs, hd⟩ := h
  have F := mnI (S 18) (fun k => ln k = l) 16
  have L := mnI (fun k => - S 18 k) (fun k => ln k = l) 16
  have Fe : mnL (S 18) (fun k => ln k = l) 16 = fstL S ln l := rfl
  have Le : mnL (fun k => - S 18 k) (fun k => ln k = l) 16 = lstL S ln l := rfl
  rw [Fe] at F
  rw [Le] at L
  conv => lhs; unfold fstL
  refine mnU (fun a b ha hb pa pb hne => ?_) ?_
  · rw [jn_pk] at pa pb
    by_cases c1 : a = t
    · have := hs b hb (pb.resolve_left (by omega))
      rw [c1]; omega
    · by_cases c2 : b = t
      · have := hs a ha (pa.resolve_left c1)
        rw [c2]; omega
      · exact hd a b ha hb hne (by have := pa.resolve_left c1; omega) (by have := pb.resolve_left c2; omega)
  simp only [jn_pk]
  by_cases c : lstL S ln l < 0
  · rw [if_pos c]
    rcases L with L | L
    · refine Or.inr ⟨by omega, by omega, Or.inl (by omega), fun k hk x => ?_⟩
      have := x.resolve_right (L.2 k hk)
      rw [this, Int.toNat_natCast]; exact Int.le_refl _
    · omega
  · rw [if_neg c]
    rcases F with F | F
    · rcases L with L | L
      · omega
      · exact absurd L.2.2.1 (F.2 _ (by omega))
    · refine Or.inr ⟨F.1, F.2.1, Or.inr F.2.2.1, fun k hk x => ?_⟩
      rcases x with x | x
      · have := hs _ (by omega) F.2.2.1
        rw [x]; omega
      · exact F.2.2.2 k hk x
theorem jn_lst {t : Nat} {l : Int} (h : JnI S ln t l) : lstL S (lup ln t l) l = (t : Int) := by
  obtain ⟨ht, l0, ht1, hs, hd⟩ := h
  refine mnL_eq ht (lup_t _ _ _) (fun k hk x hne => ?_)
  rw [jn_pk] at x
  have := hs k hk (x.resolve_left hne)
  omega
theorem jn_nxt {t : Nat} {l : Int} (h : JnI S ln t l) {k : Nat} (hk : k < 16) (hne : k ≠ t) : nxtL S (lup ln t l) k = if (k : Int) = lstL S ln l then (t : Int) else nxtL S ln k := by
  obtain ⟨ht, l0, ht1, hs, hd⟩ := h
  have D := mnI (S 18) (fun j => ln j = ln k ∧ 0 ≤ ln k ∧ S 18 k < S 18 j) 16
  have L := mnI (fun k => - S 18 k) (fun k => ln k = l) 16
  have De : mnL (S 18) (fun j => ln j = ln k ∧ 0 ≤ ln k ∧ S 18 k < S 18 j) 16 = nxtL S ln k := rfl
  have Le : mnL (fun k => - S 18 k) (fun k => ln k = l) 16 = lstL S ln l := rfl
  rw [De] at D
  rw [Le] at L
  have pk : ∀ j, (lup ln t l j = lup ln t l k ∧ 0 ≤ lup ln t l k ∧ S 18 k < S 18 j) ↔ ((j = t ∧ l = ln k ∧ S 18 k < S 18 j) ∨ (j ≠ t ∧ ln j = ln k ∧ 0 ≤ ln k ∧ S 18 k < S 18 j)) := by
    intro j
    rw [lup_o hne]
    by_cases c : j = t
    · rw [c, lup_t]; constructor <;> intro x <;> omega
    · rw [lup_o c]; constructor <;> intro x <;> omega
  conv => lhs; unfold nxtL
  refine mnU (fun a b ha hb pa pb hn => ?_) ?_
  · rw [pk] at pa pb
    rcases pa with pa | pa
    · rcases pb with pb | pb
      · omega
      · have := hs b hb (by omega)
        rw [pa.1]; omega
    · rcases pb with pb | pb
      · have := hs a ha (by omega)
        rw [pb.1]; omega
      · exact hd a b ha hb hn (by omega) (by omega)
  simp only [pk]
  by_cases c : (k : Int) = lstL S ln l
  · rw [if_pos c]
    rcases L with L | L
    · omega
    have l1 := L.2.2.1
    rw [← c, Int.toNat_natCast] at l1
    have l2 := hs k hk l1
    refine Or.inr ⟨by omega, by omega, Or.inl ⟨by omega, by omega, by rw [Int.toNat_natCast]; exact l2⟩, fun j hj x => ?_⟩
    rcases x with x | x
    · rw [x.1, Int.toNat_natCast]; exact Int.le_refl _
    · have l3 := L.2.2.2 j hj (by omega)
      rw [← c, Int.toNat_natCast] at l3
      omega
  · rw [if_neg c]
    by_cases e : ln k = l
    · rcases L with L | L
      · exact absurd e (L.2 k hk)
      · have l1 := L.2.2.1
        have l3 := L.2.2.2 k hk e
        have l4 := hd (lstL S ln l).toNat k (by omega) hk (by omega) (by omega) (by omega)
        rcases D with D | D
        · exact absurd ⟨by omega, by omega, by omega⟩ (D.2 (lstL S ln l).toNat (by omega))
        · have d1 := D.2.2.1
          have d2 := hs _ (by omega) (by omega : ln (nxtL S ln k).toNat = l)
          refine Or.inr ⟨D.1, D.2.1, Or.inr ⟨fun z => ?_, d1⟩, fun j hj x => ?_⟩
          · rw [z] at d2; omega
          · rcases x with x | x
            · rw [x.1]; omega
            · exact D.2.2.2 j hj x.2
    · rcases D with D | D
      · refine Or.inl ⟨D.1, fun j hj x => ?_⟩
        rcases x with x | x
        · omega
        · exact D.2 j hj x.2
      · have d1 := D.2.2.1
        refine Or.inr ⟨D.1, D.2.1, Or.inr ⟨fun z => ?_, d1⟩, fun j hj x => ?_⟩
        · rw [z] at d1; omega
        · rcases x with x | x
          · omega
          · exact D.2.2.2 j hj x.2
theorem jn_oth {t : Nat} {l l' : Int} (ht1 : ln t = -1) (hl : l' ≠ l) (l0 : 0 ≤ l') : fstL S (lup ln t l) l' = fstL S ln l' ∧ lstL S (lup ln t l) l' = lstL S ln l' := by
  have pk : ∀ k, lup ln t l k = l' ↔ ln k = l' := by
    intro k
    by_cases c : k = t
    · rw [c, lup_t]; constructor <;> intro x <;> omega
    · rw [lup_o c]
  exact ⟨mnL_cg (fun k _ => pk k) (fun _ _ _ => rfl), mnL_cg (fun k _ => pk k) (fun _ _ _ => rfl)⟩
theorem jn_me {t : Nat} {l : Int} (h : JnI S ln t l) : nxtL S (lup ln t l) t = -1 := by
  obtain ⟨ht, l0, ht1, hs, hd⟩ := h
  refine mnL_no (fun k hk x => ?_)
  rw [lup_t] at x
  have e := (jn_pk k).1 x.1
  rcases e with e | e
  · rw [e] at x; omega
  · have := hs k hk e; omega
end LV
