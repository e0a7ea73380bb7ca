/-! ===== THE REFERENCE'S WORLD: its 28 arrays and its clock hold S (array number, index); the clock is S 28 0 ===== -/
abbrev xS : Type := Nat → Nat → Int
def sset (S : xS) (j i : Nat) (v : Int) : xS := fun j' i' => if j' = j ∧ i' = i then v else S j' i'
theorem sset_at (S : xS) (j i : Nat) (v : Int) (j' i' : Nat) : sset S j i v j' i' = if j' = j ∧ i' = i then v else S j' i' := rfl
def rlen (j : Nat) : Nat := if j < 10 then 128 else if j < 24 then 16 else if j = 24 then 64 else if j < 27 then 32 else 4
def rtag (j : Nat) : Nat := if j = 9 ∨ j = 23 then 21 else 20
def ra (mo j : Nat) : Nat := mo + 1 + j
def putR (w : xH) (mo : Nat) (S : xS) : xH := (w.1, w.2.1,
  fun a => if a = mo then some (x_M, 29) else if mo < a ∧ a < mo + 29 then some (rtag (a - mo - 1), rlen (a - mo - 1)) else w.2.2.1 a,
  fun a k => if a = mo then (if k < 28 then .ref (ra mo k) else if k = 28 then .int (xi (S 28 0)) else .null) else if mo < a ∧ a < mo + 29 then .int (xi (S (a - mo - 1) k)) else w.2.2.2 a k)
def x_rmd (x y : Int32) : Int32 := x - x / y * y
section REF
variable {w : xH} {mo : Nat} {S : xS}
theorem putR_sz : x_sz (putR w mo S) = x_sz w := rfl
theorem putR_sl : x_sl (putR w mo S) = x_sl w := rfl
theorem putR_tgM : x_tg (putR w mo S) mo = some (x_M, 29) := if_pos rfl
theorem putR_tg {j : Nat} (hj : j < 28) : x_tg (putR w mo S) (ra mo j) = some (rtag j, rlen j) := by
  unfold ra
  show (if mo + 1 + j = mo then _ else if mo < mo + 1 + j ∧ mo + 1 + j < mo + 29 then some (rtag (mo + 1 + j - mo - 1), rlen (mo + 1 + j - mo - 1)) else _) = _
  rw [if_neg (by omega), if_pos (by omega), show mo + 1 + j - mo - 1 = j by omega]
theorem putR_fdM {j : Nat} (hj : j < 28) : x_fd (putR w mo S) mo j = .ref (ra mo j) := by
  show (if mo = mo then (if j < 28 then Value.ref (ra mo j) else _) else _) = _
  rw [if_pos rfl, if_pos hj]
theorem putR_fdC : x_fd (putR w mo S) mo 28 = .int (xi (S 28 0)) := by
  show (if mo = mo then (if 28 < 28 then _ else if 28 = 28 then Value.int (xi (S 28 0)) else _) else _) = _
  rw [if_pos rfl, if_neg (by omega), if_pos rfl]
theorem putR_fd {j : Nat} (hj : j < 28) (k : Nat) : x_fd (putR w mo S) (ra mo j) k = .int (xi (S j k)) := by
  unfold ra
  show (if mo + 1 + j = mo then _ else if mo < mo + 1 + j ∧ mo + 1 + j < mo + 29 then Value.int (xi (S (mo + 1 + j - mo - 1) k)) else _) = _
  rw [if_neg (by omega), if_pos (by omega), show mo + 1 + j - mo - 1 = j by omega]
theorem putR_tgO {a : Nat} (h : a < mo ∨ mo + 29 ≤ a) : x_tg (putR w mo S) a = x_tg w a := by
  show (if a = mo then _ else if mo < a ∧ a < mo + 29 then _ else _) = _
  rw [if_neg (by omega), if_neg (by omega)]; rfl
theorem putR_fdO {a : Nat} (h : a < mo ∨ mo + 29 ≤ a) (k : Nat) : x_fd (putR w mo S) a k = x_fd w a k := by
  show (if a = mo then _ else if mo < a ∧ a < mo + 29 then _ else _) = _
  rw [if_neg (by omega), if_neg (by omega)]; rfl
theorem putR_put {j : Nat} (hj : j < 28) (i : Nat) (v : Int) : x_put (putR w mo S) (ra mo j) i (.int (xi v)) = putR w mo (sset S j i v) := by
  unfold ra putR x_put
  refine Prod.ext rfl (Prod.ext rfl (Prod.ext rfl ?_))
  funext a k
  dsimp only
  by_cases h1 : a = mo
  · subst h1
    rw [if_neg (by omega), if_pos rfl, if_pos rfl]
    by_cases hk : k < 28
    · rw [if_pos hk, if_pos hk]
    · rw [if_neg hk, if_neg hk, sset_at, if_neg (show ¬ (28 = j ∧ 0 = i) by omega)]
  · by_cases h2 : mo < a ∧ a < mo + 29
    · by_cases h3 : a = mo + 1 + j ∧ k = i
      · rw [if_pos h3, if_neg h1, if_pos h2, sset_at, if_pos (by omega)]
      · rw [if_neg h3, if_neg h1, if_pos h2, if_neg h1, if_pos h2, sset_at, if_neg (by omega)]
    · rw [if_neg (by omega), if_neg h1, if_neg h2, if_neg h1, if_neg h2]
theorem putR_putC (v : Int) : x_put (putR w mo S) mo 28 (.int (xi v)) = putR w mo (sset S 28 0 v) := by
  unfold putR x_put
  refine Prod.ext rfl (Prod.ext rfl (Prod.ext rfl ?_))
  funext a k
  dsimp only
  by_cases h1 : a = mo
  · subst h1
    rw [if_pos rfl, if_pos rfl]
    by_cases hk : k < 28
    · rw [if_neg (by omega), if_pos hk, if_pos hk]
    · by_cases h28 : k = 28
      · rw [if_pos ⟨rfl, h28⟩, if_neg hk, if_pos h28, sset_at, if_pos ⟨rfl, rfl⟩]
      · rw [if_neg (by omega), if_neg hk, if_neg hk, if_neg h28, if_neg h28]
  · rw [if_neg (by omega), if_neg h1, if_neg h1]
    by_cases h2 : mo < a ∧ a < mo + 29
    · rw [if_pos h2, if_pos h2, sset_at, if_neg (by omega)]
    · rw [if_neg h2, if_neg h2]
variable {P : xP} {mi pc pc' : Nat} {lo : List (Option Value)} {st r : List Value} {Q : Option Value → xH → Prop}
theorem R_get {j idx fin : Nat} (h : x_ct mi pc = some (.getfield idx)) (hF : x_tF (xm_own mi) idx = some (j, [11], 2, fin)) (hj : j < 28) (hn : pc' = pc + 3) : WP P mi pc lo (.ref mo :: r) (putR w mo S) Q ↔ WP P mi pc' lo (.ref (ra mo j) :: r) (putR w mo S) Q := by
  rw [W_get h hF hn, putR_fdM hj]
  exact ⟨fun h => h.2, fun h => ⟨⟨_, _, putR_tgM, by decide⟩, h⟩⟩
theorem R_getC {idx fin : Nat} (h : x_ct mi pc = some (.getfield idx)) (hF : x_tF (xm_own mi) idx = some (28, [11], 0, fin)) (hn : pc' = pc + 3) : WP P mi pc lo (.ref mo :: r) (putR w mo S) Q ↔ WP P mi pc' lo (.int (xi (S 28 0)) :: r) (putR w mo S) Q := by
  rw [W_get h hF hn, putR_fdC]
  exact ⟨fun h => h.2, fun h => ⟨⟨_, _, putR_tgM, by decide⟩, h⟩⟩
theorem R_putC {idx : Nat} {v : Int} (h : x_ct mi pc = some (.putfield idx)) (hF : x_tF (xm_own mi) idx = some (28, [11], 0, 0)) (hn : pc' = pc + 3) : WP P mi pc lo (.int (xi v) :: .ref mo :: r) (putR w mo S) Q ↔ WP P mi pc' lo r (putR w mo (sset S 28 0 v)) Q := by
  rw [W_put h hF (Or.inl rfl) hn, putR_putC]
  exact ⟨fun h => h.2, fun h => ⟨⟨⟨_, _, putR_tgM, by decide⟩, rfl⟩, h⟩⟩
theorem x_ixi {i : Int32} {n : Nat} : (¬ i < 0 ∧ i.toNatClampNeg < n) ↔ (0 ≤ i.toInt ∧ i.toInt < n) := by
  have h1 : i.toNatClampNeg = i.toInt.toNat := rfl
  rw [h1, Int32.lt_iff_toInt_lt, Int32.toInt_zero]
  omega
theorem R_iald {j n : Nat} {i : Int32} (h : x_ct mi pc = some .iaload) (hj : j < 28) (ht : rtag j = 20) (hl : rlen j = n) (hn : pc' = pc + 1) : WP P mi pc lo (.int i :: .ref (ra mo j) :: r) (putR w mo S) Q ↔ ((0 ≤ i.toInt ∧ i.toInt < n) ∧ WP P mi pc' lo (.int (xi (S j i.toInt.toNat)) :: r) (putR w mo S) Q) := by
  subst hn hl
  rw [← x_ixi]
  have hg : x_tg (putR w mo S) (ra mo j) = some (20, rlen j) := by rw [putR_tg hj, ht]
  refine WP_goB h rfl rfl (fun c => ?_) (fun c => ?_)
  · unfold xI
    dsimp only
    rw [hg]
    dsimp only
    rw [if_pos ⟨rfl, c⟩, putR_fd hj]
    rfl
  · unfold xI
    dsimp only
    rw [hg]
    exact if_neg (fun q => c q.2)
theorem R_bald {j n : Nat} {i : Int32} (h : x_ct mi pc = some .baload) (hj : j < 28) (ht : rtag j = 21) (hl : rlen j = n) (hn : pc' = pc + 1) : WP P mi pc lo (.int i :: .ref (ra mo j) :: r) (putR w mo S) Q ↔ ((0 ≤ i.toInt ∧ i.toInt < n) ∧ WP P mi pc' lo (.int (xi (S j i.toInt.toNat)) :: r) (putR w mo S) Q) := by
  subst hn hl
  rw [← x_ixi]
  have hg : x_tg (putR w mo S) (ra mo j) = some (21, rlen j) := by rw [putR_tg hj, ht]
  refine WP_goB h rfl rfl (fun c => ?_) (fun c => ?_)
  · unfold xI
    dsimp only
    rw [hg]
    dsimp only
    rw [if_pos ⟨rfl, c⟩, putR_fd hj]
    rfl
  · unfold xI
    dsimp only
    rw [hg]
    exact if_neg (fun q => c q.2)
theorem R_iast {j n : Nat} {i : Int32} {v : Int} (h : x_ct mi pc = some .iastore) (hj : j < 28) (ht : rtag j = 20) (hl : rlen j = n) (hn : pc' = pc + 1) : WP P mi pc lo (.int (xi v) :: .int i :: .ref (ra mo j) :: r) (putR w mo S) Q ↔ ((0 ≤ i.toInt ∧ i.toInt < n) ∧ WP P mi pc' lo r (putR w mo (sset S j i.toInt.toNat v)) Q) := by
  subst hn hl
  rw [← x_ixi]
  have hg : x_tg (putR w mo S) (ra mo j) = some (20, rlen j) := by rw [putR_tg hj, ht]
  refine WP_goB h rfl rfl (fun c => ?_) (fun c => ?_)
  · unfold xI
    dsimp only
    rw [hg]
    dsimp only
    rw [if_pos ⟨rfl, c⟩, putR_put hj]
    rfl
  · unfold xI
    dsimp only
    rw [hg]
    exact if_neg (fun q => c q.2)
theorem R_bast {j n : Nat} {i : Int32} {v : Int} (h : x_ct mi pc = some .bastore) (hj : j < 28) (ht : rtag j = 21) (hl : rlen j = n) (hn : pc' = pc + 1) : WP P mi pc lo (.int (xi v) :: .int i :: .ref (ra mo j) :: r) (putR w mo S) Q ↔ ((xi v = xi 0 ∨ xi v = xi 1) ∧ (0 ≤ i.toInt ∧ i.toInt < n) ∧ WP P mi pc' lo r (putR w mo (sset S j i.toInt.toNat v)) Q) := by
  subst hn hl
  rw [← x_ixi, ← and_assoc]
  have hg : x_tg (putR w mo S) (ra mo j) = some (21, rlen j) := by rw [putR_tg hj, ht]
  refine WP_goB h rfl rfl (fun c => ?_) (fun c => ?_)
  · unfold xI
    dsimp only
    rw [hg]
    dsimp only
    rw [if_pos ⟨c.1, rfl, c.2⟩, putR_put hj]
    rfl
  · unfold xI
    dsimp only
    rw [hg]
    exact if_neg (fun q => c ⟨q.1, q.2.2⟩)
end REF
