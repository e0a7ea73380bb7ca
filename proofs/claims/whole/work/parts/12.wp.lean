section WPR
variable {P : xP} {mi pc pc' : Nat} {lo : List (Option Value)} {st r : List Value} {w : xH} {Q Q' : Option Value → xH → Prop} {ins : Instr}
theorem ex_ret {n : Nat} {v : Option Value} (h1 : x_ct mi pc = some ins) (h2 : x_ret ins mi st = some v) : ex P (n + 1) mi pc lo st w = some (v, w) := by
  unfold ex
  simp only [h1, h2]
theorem ex_call {n mj : Nat} {as rest : List Value} {v1 : Option Value} {w1 : xH} (h1 : x_ct mi pc = some ins) (h2 : x_ret ins mi st = none) (h3 : x_inv ins mi st w = some (mj, as, rest)) (h4 : ex P n mj 0 (x_en mj as) [] w = some (v1, w1)) : ex P (n + 1) mi pc lo st w = ex P n mi (pc + 3) lo (v1.toList ++ rest) w1 := by
  rw [ex]
  simp only [h1, h2, h3, h4]
theorem ex_go {n pc' : Nat} {lo' : List (Option Value)} {st' : List Value} {w' : xH} (h1 : x_ct mi pc = some ins) (h2 : x_ret ins mi st = none) (h3 : x_inv ins mi st w = none) (h4 : xI P ins mi pc lo st w = some (pc', lo', st', w')) : ex P (n + 1) mi pc lo st w = ex P n mi pc' lo' st' w' := by
  rw [ex]
  simp only [h1, h2, h3, h4]
theorem ex_more : ∀ (n : Nat) {mi pc : Nat} {lo : List (Option Value)} {st : List Value} {w : xH} {r : Option Value × xH}, ex P n mi pc lo st w = some r → ex P (n + 1) mi pc lo st w = some r := by
  intro n
  induction n with
  | zero => intro mi pc lo st w r h; simp [ex] at h
  | succ n ih =>
    intro mi pc lo st w r h
    obtain ⟨ins, hct, h1 | h1 | h1⟩ := ex_succ h
    · obtain ⟨v', hv, rfl⟩ := h1
      exact ex_ret hct hv
    · obtain ⟨hr, mj, as, rest, v1, w1, hi, h2, h3⟩ := h1
      rw [ex_call hct hr hi (ih h2)]
      exact ih h3
    · obtain ⟨hr, hi, pc', lo', st', w1, h2, h3⟩ := h1
      rw [ex_go hct hr hi h2]
      exact ih h3
theorem ex_le {n k : Nat} (hk : n ≤ k) {mi pc : Nat} {lo : List (Option Value)} {st : List Value} {w : xH} {r : Option Value × xH} (h : ex P n mi pc lo st w = some r) : ex P k mi pc lo st w = some r := by
  induction k with
  | zero => rw [Nat.le_zero.mp hk] at h; exact h
  | succ k ih =>
    by_cases hn : n = k + 1
    · rw [← hn]; exact h
    · exact ex_more k (ih (by omega))
theorem WP_ret {v : Option Value} (h1 : x_ct mi pc = some ins) (h2 : x_ret ins mi st = some v) : WP P mi pc lo st w Q ↔ Q v w := by
  constructor
  · rintro ⟨n, v', w', h, hq⟩
    cases n with
    | zero => simp [ex] at h
    | succ n =>
      rw [ex_ret h1 h2] at h
      cases h
      exact hq
  · intro hq
    exact ⟨1, v, w, ex_ret h1 h2, hq⟩
theorem WP_call {mj : Nat} {as rest : List Value} (h1 : x_ct mi pc = some ins) (h2 : x_ret ins mi st = none) (h3 : x_inv ins mi st w = some (mj, as, rest)) : WP P mi pc lo st w Q ↔ WP P mj 0 (x_en mj as) [] w (fun v w' => WP P mi (pc + 3) lo (v.toList ++ rest) w' Q) := by
  constructor
  · rintro ⟨n, v', w', h, hq⟩
    cases n with
    | zero => simp [ex] at h
    | succ n =>
      obtain ⟨ins', hct, h4 | h4 | h4⟩ := ex_succ h
      · obtain ⟨v, hv, -⟩ := h4
        cases h1.symm.trans hct
        rw [h2] at hv
        cases hv
      · obtain ⟨-, mj', as', rest', v1, w1, hi, h5, h6⟩ := h4
        cases h1.symm.trans hct
        cases h3.symm.trans hi
        exact ⟨n, v1, w1, h5, n, v', w', h6, hq⟩
      · obtain ⟨-, hi, -⟩ := h4
        cases h1.symm.trans hct
        rw [h3] at hi
        cases hi
  · rintro ⟨n, v1, w1, h5, k, v', w', h6, hq⟩
    refine ⟨max n k + 1, v', w', ?_, hq⟩
    rw [ex_call h1 h2 h3 (ex_le (Nat.le_max_left n k) h5)]
    exact ex_le (Nat.le_max_right n k) h6
theorem WP_go {lo' : List (Option Value)} {st' : List Value} {w' : xH} (h1 : x_ct mi pc = some ins) (h2 : x_ret ins mi st = none) (h3 : x_inv ins mi st w = none) (h4 : xI P ins mi pc lo st w = some (pc', lo', st', w')) : WP P mi pc lo st w Q ↔ WP P mi pc' lo' st' w' Q := by
  constructor
  · rintro ⟨n, v, w1, h, hq⟩
    cases n with
    | zero => simp [ex] at h
    | succ n =>
      rw [ex_go h1 h2 h3 h4] at h
      exact ⟨n, v, w1, h, hq⟩
  · rintro ⟨n, v, w1, h, hq⟩
    refine ⟨n + 1, v, w1, ?_, hq⟩
    rw [ex_go h1 h2 h3 h4]
    exact h
theorem WP_no (h1 : x_ct mi pc = some ins) (h2 : x_ret ins mi st = none) (h3 : x_inv ins mi st w = none) (h4 : xI P ins mi pc lo st w = none) : ¬ WP P mi pc lo st w Q := by
  rintro ⟨n, v, w1, h, hq⟩
  cases n with
  | zero => simp [ex] at h
  | succ n =>
    rw [ex] at h
    simp only [h1, h2, h3, h4] at h
    cases h
theorem WP_mono (h : WP P mi pc lo st w Q) (hq : ∀ v w', Q v w' → Q' v w') : WP P mi pc lo st w Q' := by
  obtain ⟨n, v, w', h1, h2⟩ := h
  exact ⟨n, v, w', h1, hq v w' h2⟩
/-! a rule an instruction -/
theorem W_iconst {n : Int} {v : Int32} (h : x_ct mi pc = some (.iconst n)) (hn : pc' = pc + 1) (hv : Int32.ofInt n = v) : WP P mi pc lo st w Q ↔ WP P mi pc' lo (.int v :: st) w Q := by
  subst hn hv; exact WP_go h rfl rfl rfl
theorem W_bipush {n : Int} {v : Int32} (h : x_ct mi pc = some (.bipush n)) (hn : pc' = pc + 2) (hv : (Int8.ofInt n).toInt32 = v) : WP P mi pc lo st w Q ↔ WP P mi pc' lo (.int v :: st) w Q := by
  subst hn hv; exact WP_go h rfl rfl rfl
theorem W_sipush {n : Int} {v : Int32} (h : x_ct mi pc = some (.sipush n)) (hn : pc' = pc + 3) (hv : (Int16.ofInt n).toInt32 = v) : WP P mi pc lo st w Q ↔ WP P mi pc' lo (.int v :: st) w Q := by
  subst hn hv; exact WP_go h rfl rfl rfl
theorem W_null (h : x_ct mi pc = some .aconst_null) (hn : pc' = pc + 1) : WP P mi pc lo st w Q ↔ WP P mi pc' lo (.null :: st) w Q := by
  subst hn; exact WP_go h rfl rfl rfl
def x_gi (o : Option (Option Value)) (k : Int32 → Prop) : Prop := match o with
  | some (some (.int x)) => k x
  | _ => False
def x_ga (o : Option (Option Value)) (k : Value → Prop) : Prop := match o with
  | some (some (.ref a)) => k (.ref a)
  | some (some .null) => k .null
  | _ => False
theorem x_gi_int (x : Int32) (k : Int32 → Prop) : x_gi (some (some (.int x))) k = k x := rfl
theorem x_ga_ref (a : Nat) (k : Value → Prop) : x_ga (some (some (.ref a))) k = k (.ref a) := rfl
theorem x_ga_null (k : Value → Prop) : x_ga (some (some .null)) k = k .null := rfl
theorem x_ga_rf (o : Option Nat) (k : Value → Prop) : x_ga (some (some (va_rf o))) k = k (va_rf o) := by cases o <;> rfl
def x_has (w : xH) (a : Nat) (cs : List Nat) : Prop := ∃ t n, x_tg w a = some (t, n) ∧ t ∈ cs
theorem x_has_of {a t n : Nat} {cs : List Nat} (h : x_tg w a = some (t, n)) (hm : t ∈ cs) : x_has w a cs := ⟨t, n, h, hm⟩
theorem WP_goB {c : Prop} (h1 : x_ct mi pc = some ins) (h2 : x_ret ins mi st = none) (h3 : x_inv ins mi st w = none) {lo' : List (Option Value)} {st' : List Value} {w' : xH} (h4 : c → xI P ins mi pc lo st w = some (pc', lo', st', w')) (h5 : ¬ c → xI P ins mi pc lo st w = none) : WP P mi pc lo st w Q ↔ (c ∧ WP P mi pc' lo' st' w' Q) := by
  by_cases hc : c
  · rw [WP_go h1 h2 h3 (h4 hc)]
    exact ⟨fun h => ⟨hc, h⟩, fun h => h.2⟩
  · exact ⟨fun h => absurd h (WP_no h1 h2 h3 (h5 hc)), fun h => absurd h.1 hc⟩
theorem W_iload {i : Nat} (h : x_ct mi pc = some (.iload i)) (hn : pc' = pc + 2) : WP P mi pc lo st w Q ↔ x_gi lo[i]? (fun x => WP P mi pc' lo (.int x :: st) w Q) := by
  subst hn
  unfold x_gi
  split
  next x hx => exact WP_go h rfl rfl (by show x_ldi _ _ _ _ _ = _; unfold x_ldi; rw [hx]; rfl)
  next hx =>
    refine ⟨fun q => absurd q (WP_no h rfl rfl ?_), fun q => q.elim⟩
    show x_ldi _ _ _ _ _ = _
    unfold x_ldi
    split
    next x hx' => exact absurd hx' (hx x)
    next => rfl
theorem W_iload_n {k : Fin 4} {i : Nat} (h : x_ct mi pc = some (.iload_n k)) (hk : k.val = i) (hn : pc' = pc + 1) : WP P mi pc lo st w Q ↔ x_gi lo[i]? (fun x => WP P mi pc' lo (.int x :: st) w Q) := by
  subst hn hk
  unfold x_gi
  split
  next x hx => exact WP_go h rfl rfl (by show x_ldi _ _ _ _ _ = _; unfold x_ldi; rw [hx]; rfl)
  next hx =>
    refine ⟨fun q => absurd q (WP_no h rfl rfl ?_), fun q => q.elim⟩
    show x_ldi _ _ _ _ _ = _
    unfold x_ldi
    split
    next x hx' => exact absurd hx' (hx x)
    next => rfl
theorem W_aload {i : Nat} (h : x_ct mi pc = some (.aload i)) (hn : pc' = pc + 2) : WP P mi pc lo st w Q ↔ x_ga lo[i]? (fun v => WP P mi pc' lo (v :: st) w Q) := by
  subst hn
  unfold x_ga
  split
  next x hx => exact WP_go h rfl rfl (by show x_lda _ _ _ _ _ = _; unfold x_lda; rw [hx]; rfl)
  next hx => exact WP_go h rfl rfl (by show x_lda _ _ _ _ _ = _; unfold x_lda; rw [hx]; rfl)
  next hx hy =>
    refine ⟨fun q => absurd q (WP_no h rfl rfl ?_), fun q => q.elim⟩
    show x_lda _ _ _ _ _ = _
    unfold x_lda
    split
    next x hx' => exact absurd hx' (hx x)
    next hx' => exact absurd hx' hy
    next => rfl
theorem W_aload_n {k : Fin 4} {i : Nat} (h : x_ct mi pc = some (.aload_n k)) (hk : k.val = i) (hn : pc' = pc + 1) : WP P mi pc lo st w Q ↔ x_ga lo[i]? (fun v => WP P mi pc' lo (v :: st) w Q) := by
  subst hn hk
  unfold x_ga
  split
  next x hx => exact WP_go h rfl rfl (by show x_lda _ _ _ _ _ = _; unfold x_lda; rw [hx]; rfl)
  next hx => exact WP_go h rfl rfl (by show x_lda _ _ _ _ _ = _; unfold x_lda; rw [hx]; rfl)
  next hx hy =>
    refine ⟨fun q => absurd q (WP_no h rfl rfl ?_), fun q => q.elim⟩
    show x_lda _ _ _ _ _ = _
    unfold x_lda
    split
    next x hx' => exact absurd hx' (hx x)
    next hx' => exact absurd hx' hy
    next => rfl
theorem W_istore {i : Nat} {x : Int32} (h : x_ct mi pc = some (.istore i)) (hn : pc' = pc + 2) : WP P mi pc lo ((.int x) :: r) w Q ↔ (i < lo.length ∧ WP P mi pc' (lo.set i (some (.int x))) r w Q) := by
  subst hn
  exact WP_goB h rfl rfl (fun c => if_pos c) (fun c => if_neg c)
theorem W_istore_n {k : Fin 4} {i : Nat} {x : Int32} (h : x_ct mi pc = some (.istore_n k)) (hk : k.val = i) (hn : pc' = pc + 1) : WP P mi pc lo ((.int x) :: r) w Q ↔ (i < lo.length ∧ WP P mi pc' (lo.set i (some (.int x))) r w Q) := by
  subst hn hk
  exact WP_goB h rfl rfl (fun c => if_pos c) (fun c => if_neg c)
theorem W_astore {i : Nat} {a : Nat} (h : x_ct mi pc = some (.astore i)) (hn : pc' = pc + 2) : WP P mi pc lo ((.ref a) :: r) w Q ↔ (i < lo.length ∧ WP P mi pc' (lo.set i (some (.ref a))) r w Q) := by
  subst hn
  exact WP_goB h rfl rfl (fun c => if_pos c) (fun c => if_neg c)
theorem W_astoreN {i : Nat} (h : x_ct mi pc = some (.astore i)) (hn : pc' = pc + 2) : WP P mi pc lo (.null :: r) w Q ↔ (i < lo.length ∧ WP P mi pc' (lo.set i (some .null)) r w Q) := by
  subst hn
  exact WP_goB h rfl rfl (fun c => if_pos c) (fun c => if_neg c)
theorem W_astore_n {k : Fin 4} {i : Nat} {a : Nat} (h : x_ct mi pc = some (.astore_n k)) (hk : k.val = i) (hn : pc' = pc + 1) : WP P mi pc lo ((.ref a) :: r) w Q ↔ (i < lo.length ∧ WP P mi pc' (lo.set i (some (.ref a))) r w Q) := by
  subst hn hk
  exact WP_goB h rfl rfl (fun c => if_pos c) (fun c => if_neg c)
theorem W_astore_nN {k : Fin 4} {i : Nat} (h : x_ct mi pc = some (.astore_n k)) (hk : k.val = i) (hn : pc' = pc + 1) : WP P mi pc lo (.null :: r) w Q ↔ (i < lo.length ∧ WP P mi pc' (lo.set i (some .null)) r w Q) := by
  subst hn hk
  exact WP_goB h rfl rfl (fun c => if_pos c) (fun c => if_neg c)
theorem W_iinc {i : Nat} {n : Int} (h : x_ct mi pc = some (.iinc i n)) (hn : pc' = pc + 3) : WP P mi pc lo st w Q ↔ x_gi lo[i]? (fun x => WP P mi pc' (lo.set i (some (.int (x + xi n)))) st w Q) := by
  subst hn
  unfold x_gi
  split
  next x hx =>
    refine WP_go h rfl rfl ?_
    unfold xI
    dsimp only
    rw [hx]
    rfl
  next hx =>
    refine ⟨fun q => absurd q (WP_no h rfl rfl ?_), fun q => q.elim⟩
    unfold xI
    dsimp only
    split
    next x hx' => exact (hx x hx').elim
    next => rfl
theorem W_iadd {x y : Int32} (h : x_ct mi pc = some .iadd) (hn : pc' = pc + 1) : WP P mi pc lo (.int y :: .int x :: r) w Q ↔ WP P mi pc' lo (.int (x + y) :: r) w Q := by
  subst hn; exact WP_go h rfl rfl rfl
theorem W_isub {x y : Int32} (h : x_ct mi pc = some .isub) (hn : pc' = pc + 1) : WP P mi pc lo (.int y :: .int x :: r) w Q ↔ WP P mi pc' lo (.int (x - y) :: r) w Q := by
  subst hn; exact WP_go h rfl rfl rfl
theorem W_imul {x y : Int32} (h : x_ct mi pc = some .imul) (hn : pc' = pc + 1) : WP P mi pc lo (.int y :: .int x :: r) w Q ↔ WP P mi pc' lo (.int (x * y) :: r) w Q := by
  subst hn; exact WP_go h rfl rfl rfl
theorem W_iand {x y : Int32} (h : x_ct mi pc = some .iand) (hn : pc' = pc + 1) : WP P mi pc lo (.int y :: .int x :: r) w Q ↔ WP P mi pc' lo (.int (x &&& y) :: r) w Q := by
  subst hn; exact WP_go h rfl rfl rfl
theorem W_ior {x y : Int32} (h : x_ct mi pc = some .ior) (hn : pc' = pc + 1) : WP P mi pc lo (.int y :: .int x :: r) w Q ↔ WP P mi pc' lo (.int (x ||| y) :: r) w Q := by
  subst hn; exact WP_go h rfl rfl rfl
theorem W_ishl {x y : Int32} (h : x_ct mi pc = some .ishl) (hn : pc' = pc + 1) : WP P mi pc lo (.int y :: .int x :: r) w Q ↔ WP P mi pc' lo (.int (x <<< (y &&& 31)) :: r) w Q := by
  subst hn; exact WP_go h rfl rfl rfl
theorem W_idiv {x y : Int32} (h : x_ct mi pc = some .idiv) (hn : pc' = pc + 1) : WP P mi pc lo (.int y :: .int x :: r) w Q ↔ (¬ y = 0 ∧ WP P mi pc' lo (.int (x / y) :: r) w Q) := by
  subst hn
  exact WP_goB h rfl rfl (fun c => if_neg c) (fun c => if_pos (Classical.not_not.mp c))
theorem W_irem {x y : Int32} (h : x_ct mi pc = some .irem) (hn : pc' = pc + 1) : WP P mi pc lo (.int y :: .int x :: r) w Q ↔ (¬ y = 0 ∧ WP P mi pc' lo (.int (x - x / y * y) :: r) w Q) := by
  subst hn
  exact WP_goB h rfl rfl (fun c => if_neg c) (fun c => if_pos (Classical.not_not.mp c))
theorem W_dup {v : Value} (h : x_ct mi pc = some .dup) (hn : pc' = pc + 1) : WP P mi pc lo (v :: r) w Q ↔ (x_cat1 v = true ∧ WP P mi pc' lo (v :: v :: r) w Q) := by
  subst hn
  exact WP_goB h rfl rfl (fun c => if_pos c) (fun c => if_neg c)
theorem W_pop {v : Value} (h : x_ct mi pc = some .pop) (hn : pc' = pc + 1) : WP P mi pc lo (v :: r) w Q ↔ (x_cat1 v = true ∧ WP P mi pc' lo r w Q) := by
  subst hn
  exact WP_goB h rfl rfl (fun c => if_pos c) (fun c => if_neg c)
theorem W_dup_x1 {u v : Value} (h : x_ct mi pc = some .dup_x1) (hn : pc' = pc + 1) : WP P mi pc lo (v :: u :: r) w Q ↔ ((x_cat1 v = true ∧ x_cat1 u = true) ∧ WP P mi pc' lo (v :: u :: v :: r) w Q) := by
  subst hn
  exact WP_goB h rfl rfl (fun c => if_pos c) (fun c => if_neg c)
theorem W_dup2 {u v : Value} (h : x_ct mi pc = some .dup2) (hn : pc' = pc + 1) : WP P mi pc lo (v :: u :: r) w Q ↔ ((x_cat1 v = true ∧ x_cat1 u = true) ∧ WP P mi pc' lo (v :: u :: v :: u :: r) w Q) := by
  subst hn
  exact WP_goB h rfl rfl (fun c => if_pos c) (fun c => if_neg c)
theorem WP_br {x y : Int32} {cnd : Jvm.ClassFile.Cond} {t : Int} {tgt : Nat} {R0 : Prop} (ht : t = (tgt : Int)) (h1 : x_ct mi pc = some ins) (h2 : x_ret ins mi st = none) (h3 : x_inv ins mi st w = none) (h4 : xI P ins mi pc lo st w = x_br cnd x y t pc lo r w) (hn : pc' = pc + 3)
    (hR : R0 ↔ (match (generalizing := false) cnd with
    | .eq => if x = y then WP P mi tgt lo r w Q else WP P mi pc' lo r w Q
    | .ne => if x = y then WP P mi pc' lo r w Q else WP P mi tgt lo r w Q
    | .lt => if x < y then WP P mi tgt lo r w Q else WP P mi pc' lo r w Q
    | .ge => if x < y then WP P mi pc' lo r w Q else WP P mi tgt lo r w Q
    | .gt => if y < x then WP P mi tgt lo r w Q else WP P mi pc' lo r w Q
    | .le => if y < x then WP P mi pc' lo r w Q else WP P mi tgt lo r w Q)) : WP P mi pc lo st w Q ↔ R0 := by
  subst ht hn
  rw [hR]
  have e0 : (0 : Int) ≤ (tgt : Int) := Int.natCast_nonneg tgt
  have e1 : (tgt : Int).toNat = tgt := Int.toNat_natCast tgt
  unfold x_br at h4
  rw [if_pos e0, e1] at h4
  cases cnd <;> dsimp only at h4 ⊢ <;> split <;> rename_i hc <;> first | (rw [if_pos hc] at h4; exact WP_go h1 h2 h3 h4) | (rw [if_neg hc] at h4; exact WP_go h1 h2 h3 h4)
theorem W_if_eq {x : Int32} {off : Int} {tgt : Nat} (h : x_ct mi pc = some (.ifCond .eq off)) (ht : (pc : Int) + off = (tgt : Int)) (hn : pc' = pc + 3) : WP P mi pc lo (.int x :: r) w Q ↔ (if x = xi 0 then WP P mi tgt lo r w Q else WP P mi pc' lo r w Q) :=
  WP_br (cnd := .eq) (r := r) (x := x) (y := xi 0) ht h rfl rfl rfl hn Iff.rfl
theorem W_ic_eq {x y : Int32} {off : Int} {tgt : Nat} (h : x_ct mi pc = some (.if_icmp .eq off)) (ht : (pc : Int) + off = (tgt : Int)) (hn : pc' = pc + 3) : WP P mi pc lo (.int y :: .int x :: r) w Q ↔ (if x = y then WP P mi tgt lo r w Q else WP P mi pc' lo r w Q) :=
  WP_br (cnd := .eq) (r := r) (x := x) (y := y) ht h rfl rfl rfl hn Iff.rfl
theorem W_if_ne {x : Int32} {off : Int} {tgt : Nat} (h : x_ct mi pc = some (.ifCond .ne off)) (ht : (pc : Int) + off = (tgt : Int)) (hn : pc' = pc + 3) : WP P mi pc lo (.int x :: r) w Q ↔ (if x = xi 0 then WP P mi pc' lo r w Q else WP P mi tgt lo r w Q) :=
  WP_br (cnd := .ne) (r := r) (x := x) (y := xi 0) ht h rfl rfl rfl hn Iff.rfl
theorem W_ic_ne {x y : Int32} {off : Int} {tgt : Nat} (h : x_ct mi pc = some (.if_icmp .ne off)) (ht : (pc : Int) + off = (tgt : Int)) (hn : pc' = pc + 3) : WP P mi pc lo (.int y :: .int x :: r) w Q ↔ (if x = y then WP P mi pc' lo r w Q else WP P mi tgt lo r w Q) :=
  WP_br (cnd := .ne) (r := r) (x := x) (y := y) ht h rfl rfl rfl hn Iff.rfl
theorem W_if_lt {x : Int32} {off : Int} {tgt : Nat} (h : x_ct mi pc = some (.ifCond .lt off)) (ht : (pc : Int) + off = (tgt : Int)) (hn : pc' = pc + 3) : WP P mi pc lo (.int x :: r) w Q ↔ (if x < xi 0 then WP P mi tgt lo r w Q else WP P mi pc' lo r w Q) :=
  WP_br (cnd := .lt) (r := r) (x := x) (y := xi 0) ht h rfl rfl rfl hn Iff.rfl
theorem W_ic_lt {x y : Int32} {off : Int} {tgt : Nat} (h : x_ct mi pc = some (.if_icmp .lt off)) (ht : (pc : Int) + off = (tgt : Int)) (hn : pc' = pc + 3) : WP P mi pc lo (.int y :: .int x :: r) w Q ↔ (if x < y then WP P mi tgt lo r w Q else WP P mi pc' lo r w Q) :=
  WP_br (cnd := .lt) (r := r) (x := x) (y := y) ht h rfl rfl rfl hn Iff.rfl
theorem W_if_ge {x : Int32} {off : Int} {tgt : Nat} (h : x_ct mi pc = some (.ifCond .ge off)) (ht : (pc : Int) + off = (tgt : Int)) (hn : pc' = pc + 3) : WP P mi pc lo (.int x :: r) w Q ↔ (if x < xi 0 then WP P mi pc' lo r w Q else WP P mi tgt lo r w Q) :=
  WP_br (cnd := .ge) (r := r) (x := x) (y := xi 0) ht h rfl rfl rfl hn Iff.rfl
theorem W_ic_ge {x y : Int32} {off : Int} {tgt : Nat} (h : x_ct mi pc = some (.if_icmp .ge off)) (ht : (pc : Int) + off = (tgt : Int)) (hn : pc' = pc + 3) : WP P mi pc lo (.int y :: .int x :: r) w Q ↔ (if x < y then WP P mi pc' lo r w Q else WP P mi tgt lo r w Q) :=
  WP_br (cnd := .ge) (r := r) (x := x) (y := y) ht h rfl rfl rfl hn Iff.rfl
theorem W_if_gt {x : Int32} {off : Int} {tgt : Nat} (h : x_ct mi pc = some (.ifCond .gt off)) (ht : (pc : Int) + off = (tgt : Int)) (hn : pc' = pc + 3) : WP P mi pc lo (.int x :: r) w Q ↔ (if xi 0 < x then WP P mi tgt lo r w Q else WP P mi pc' lo r w Q) :=
  WP_br (cnd := .gt) (r := r) (x := x) (y := xi 0) ht h rfl rfl rfl hn Iff.rfl
theorem W_ic_gt {x y : Int32} {off : Int} {tgt : Nat} (h : x_ct mi pc = some (.if_icmp .gt off)) (ht : (pc : Int) + off = (tgt : Int)) (hn : pc' = pc + 3) : WP P mi pc lo (.int y :: .int x :: r) w Q ↔ (if y < x then WP P mi tgt lo r w Q else WP P mi pc' lo r w Q) :=
  WP_br (cnd := .gt) (r := r) (x := x) (y := y) ht h rfl rfl rfl hn Iff.rfl
theorem W_if_le {x : Int32} {off : Int} {tgt : Nat} (h : x_ct mi pc = some (.ifCond .le off)) (ht : (pc : Int) + off = (tgt : Int)) (hn : pc' = pc + 3) : WP P mi pc lo (.int x :: r) w Q ↔ (if xi 0 < x then WP P mi pc' lo r w Q else WP P mi tgt lo r w Q) :=
  WP_br (cnd := .le) (r := r) (x := x) (y := xi 0) ht h rfl rfl rfl hn Iff.rfl
theorem W_ic_le {x y : Int32} {off : Int} {tgt : Nat} (h : x_ct mi pc = some (.if_icmp .le off)) (ht : (pc : Int) + off = (tgt : Int)) (hn : pc' = pc + 3) : WP P mi pc lo (.int y :: .int x :: r) w Q ↔ (if y < x then WP P mi pc' lo r w Q else WP P mi tgt lo r w Q) :=
  WP_br (cnd := .le) (r := r) (x := x) (y := y) ht h rfl rfl rfl hn Iff.rfl
theorem W_goto {off : Int} {tgt : Nat} (h : x_ct mi pc = some (.goto off)) (ht : (pc : Int) + off = (tgt : Int)) : WP P mi pc lo st w Q ↔ WP P mi tgt lo st w Q := by
  refine WP_go h rfl rfl ?_
  show (if 0 ≤ (pc : Int) + off then x_go ((pc : Int) + off).toNat lo st w else none) = _
  rw [ht, if_pos (Int.natCast_nonneg tgt), Int.toNat_natCast]; rfl
theorem W_ifnull_n {off : Int} {tgt : Nat} (h : x_ct mi pc = some (.ifnull off)) (ht : (pc : Int) + off = (tgt : Int)) : WP P mi pc lo (.null :: r) w Q ↔ WP P mi tgt lo r w Q := by
  refine WP_go h rfl rfl ?_
  show (if 0 ≤ (pc : Int) + off then x_go ((pc : Int) + off).toNat lo r w else none) = _
  rw [ht, if_pos (Int.natCast_nonneg tgt), Int.toNat_natCast]; rfl
theorem W_ifnull_r {a : Nat} {off : Int} {tgt : Nat} (h : x_ct mi pc = some (.ifnull off)) (ht : (pc : Int) + off = (tgt : Int)) (hn : pc' = pc + 3) : WP P mi pc lo (.ref a :: r) w Q ↔ WP P mi pc' lo r w Q := by
  subst hn
  refine WP_go h rfl rfl ?_
  show (if 0 ≤ (pc : Int) + off then x_go (pc + 3) lo r w else none) = _
  rw [ht, if_pos (Int.natCast_nonneg tgt)]; rfl
theorem W_ifnn_n {off : Int} {tgt : Nat} (h : x_ct mi pc = some (.ifnonnull off)) (ht : (pc : Int) + off = (tgt : Int)) (hn : pc' = pc + 3) : WP P mi pc lo (.null :: r) w Q ↔ WP P mi pc' lo r w Q := by
  subst hn
  refine WP_go h rfl rfl ?_
  show (if 0 ≤ (pc : Int) + off then x_go (pc + 3) lo r w else none) = _
  rw [ht, if_pos (Int.natCast_nonneg tgt)]; rfl
theorem W_ifnn_r {a : Nat} {off : Int} {tgt : Nat} (h : x_ct mi pc = some (.ifnonnull off)) (ht : (pc : Int) + off = (tgt : Int)) : WP P mi pc lo (.ref a :: r) w Q ↔ WP P mi tgt lo r w Q := by
  refine WP_go h rfl rfl ?_
  show (if 0 ≤ (pc : Int) + off then x_go ((pc : Int) + off).toNat lo r w else none) = _
  rw [ht, if_pos (Int.natCast_nonneg tgt), Int.toNat_natCast]; rfl
theorem W_acmp_eq {x y : Option Nat} {u v : Value} {off : Int} {tgt : Nat} (h : x_ct mi pc = some (.if_acmp .eq off)) (ht : (pc : Int) + off = (tgt : Int)) (hn : pc' = pc + 3) (hu : x_rv u = some x) (hv : x_rv v = some y) : WP P mi pc lo (v :: u :: r) w Q ↔ (if x = y then WP P mi tgt lo r w Q else WP P mi pc' lo r w Q) := by
  subst hn
  have e : xI P (.if_acmp .eq off) mi pc lo (v :: u :: r) w = (if x = y then x_go tgt lo r w else x_go (pc + 3) lo r w) := by
    show (match x_rv u, x_rv v with
      | some x, some y => if 0 ≤ (pc : Int) + off then (if x = y then x_go ((pc : Int) + off).toNat lo r w else x_go (pc + 3) lo r w) else none
      | _, _ => none) = _
    rw [hu, hv, ht]
    dsimp only
    rw [if_pos (Int.natCast_nonneg tgt), Int.toNat_natCast]
  split <;> rename_i hc
  · exact WP_go h rfl rfl (by rw [e, if_pos hc]; rfl)
  · exact WP_go h rfl rfl (by rw [e, if_neg hc]; rfl)
theorem W_acmp_ne {x y : Option Nat} {u v : Value} {off : Int} {tgt : Nat} (h : x_ct mi pc = some (.if_acmp .ne off)) (ht : (pc : Int) + off = (tgt : Int)) (hn : pc' = pc + 3) (hu : x_rv u = some x) (hv : x_rv v = some y) : WP P mi pc lo (v :: u :: r) w Q ↔ (if x = y then WP P mi pc' lo r w Q else WP P mi tgt lo r w Q) := by
  subst hn
  have e : xI P (.if_acmp .ne off) mi pc lo (v :: u :: r) w = (if x = y then x_go (pc + 3) lo r w else x_go tgt lo r w) := by
    show (match x_rv u, x_rv v with
      | some x, some y => if 0 ≤ (pc : Int) + off then (if x = y then x_go (pc + 3) lo r w else x_go ((pc : Int) + off).toNat lo r w) else none
      | _, _ => none) = _
    rw [hu, hv, ht]
    dsimp only
    rw [if_pos (Int.natCast_nonneg tgt), Int.toNat_natCast]
  split <;> rename_i hc
  · exact WP_go h rfl rfl (by rw [e, if_pos hc]; rfl)
  · exact WP_go h rfl rfl (by rw [e, if_neg hc]; rfl)
theorem W_get {idx k kd a : Nat} {cs : List Nat} {fin : Nat} (h : x_ct mi pc = some (.getfield idx)) (hF : x_tF (xm_own mi) idx = some (k, cs, kd, fin)) (hn : pc' = pc + 3) : WP P mi pc lo (.ref a :: r) w Q ↔ (x_has w a cs ∧ WP P mi pc' lo (x_fd w a k :: r) w Q) := by
  subst hn
  have e : xI P (.getfield idx) mi pc lo (.ref a :: r) w = (match x_tg w a with
      | some (t, _) => if t ∈ cs then x_go (pc + 3) lo (x_fd w a k :: r) w else none
      | none => none) := by
    show (match x_tg w a, x_tF (xm_own mi) idx with
      | some (t, _), some (k, cs, _, _) => if t ∈ cs then x_go (pc + 3) lo (x_fd w a k :: r) w else none
      | _, _ => none) = _
    rw [hF]
    cases x_tg w a <;> rfl
  refine WP_goB h rfl rfl (fun c => ?_) (fun c => ?_)
  · obtain ⟨t, n, h1, h2⟩ := c
    rw [e, h1]
    exact if_pos h2
  · rw [e]
    split
    next t n h1 => exact if_neg (fun h2 => c ⟨t, n, h1, h2⟩)
    next => rfl
theorem W_put {idx k kd a : Nat} {cs : List Nat} {fin : Nat} {v : Value} (h : x_ct mi pc = some (.putfield idx)) (hF : x_tF (xm_own mi) idx = some (k, cs, kd, fin)) (hfi : fin = 0 ∨ (fin = 1 ∧ xm_ini mi = true)) (hn : pc' = pc + 3) : WP P mi pc lo (v :: .ref a :: r) w Q ↔ ((x_has w a cs ∧ x_fit kd v = true) ∧ WP P mi pc' lo r (x_put w a k v) Q) := by
  subst hn
  have e : xI P (.putfield idx) mi pc lo (v :: .ref a :: r) w = (match x_tg w a with
      | some (t, _) => if t ∈ cs ∧ x_fit kd v = true ∧ (fin = 0 ∨ (fin = 1 ∧ xm_ini mi = true)) then x_go (pc + 3) lo r (x_put w a k v) else none
      | none => none) := by
    show (match x_tg w a, x_tF (xm_own mi) idx with
      | some (t, _), some (k, cs, kd, fin) => if t ∈ cs ∧ x_fit kd v = true ∧ (fin = 0 ∨ (fin = 1 ∧ xm_ini mi = true)) then x_go (pc + 3) lo r (x_put w a k v) else none
      | _, _ => none) = _
    rw [hF]
    cases x_tg w a <;> rfl
  refine WP_goB h rfl rfl (fun c => ?_) (fun c => ?_)
  · obtain ⟨⟨t, n, h1, h2⟩, h3⟩ := c
    rw [e, h1]
    exact if_pos ⟨h2, h3, hfi⟩
  · rw [e]
    split
    next t n h1 => exact if_neg (fun h2 => c ⟨⟨t, n, h1, h2.1⟩, h2.2.1⟩)
    next => rfl
theorem W_gets {idx : Nat} (h : x_ct mi pc = some (.getstatic idx)) (hG : x_tG (xm_own mi) idx = true) (hn : pc' = pc + 3) : WP P mi pc lo st w Q ↔ WP P mi pc' lo (.ref P.2.1 :: st) w Q := by
  subst hn
  exact WP_go h rfl rfl (if_pos hG)
theorem W_new {idx t n : Nat} {F : Nat → Value} (h : x_ct mi pc = some (.new idx)) (hN : x_tN (xm_own mi) idx = some t) (h1 : x_N t = n) (h2 : x_df t = F) (hn : pc' = pc + 3) : WP P mi pc lo st w Q ↔ WP P mi pc' lo (.ref (x_sz w) :: st) (x_new w t n F) Q := by
  subst hn h1 h2
  refine WP_go h rfl rfl ?_
  show (match x_tN (xm_own mi) idx with
    | some t => x_go (pc + 3) lo (.ref (x_sz w) :: st) (x_new w t (x_N t) (x_df t))
    | none => none) = _
  rw [hN]; rfl
theorem W_newai {e : Int} (h : x_ct mi pc = some (.newarray .int)) (h0 : 0 ≤ e) (h1 : e ≤ 1000) (hn : pc' = pc + 2) : WP P mi pc lo (.int (xi e) :: r) w Q ↔ WP P mi pc' lo (.ref (x_sz w) :: r) (x_new w 20 e.toNat (fun _ => .int 0)) Q := by
  subst hn
  refine WP_go h rfl rfl ?_
  show (if ¬ xi e < 0 ∧ (xi e).toNatClampNeg ≤ 1000 then x_go (pc + 2) lo (.ref (x_sz w) :: r) (x_new w 20 (xi e).toNatClampNeg (fun _ => .int 0)) else none) = _
  rw [xi_clamp h0 (by omega), if_pos ⟨by rw [show (0 : Int32) = xi 0 from rfl, xi_lt (by omega) (by omega) (by omega) (by omega)]; omega, by omega⟩]; rfl
theorem W_newab {e : Int} (h : x_ct mi pc = some (.newarray .boolean)) (h0 : 0 ≤ e) (h1 : e ≤ 1000) (hn : pc' = pc + 2) : WP P mi pc lo (.int (xi e) :: r) w Q ↔ WP P mi pc' lo (.ref (x_sz w) :: r) (x_new w 21 e.toNat (fun _ => .int 0)) Q := by
  subst hn
  refine WP_go h rfl rfl ?_
  show (if ¬ xi e < 0 ∧ (xi e).toNatClampNeg ≤ 1000 then x_go (pc + 2) lo (.ref (x_sz w) :: r) (x_new w 21 (xi e).toNatClampNeg (fun _ => .int 0)) else none) = _
  rw [xi_clamp h0 (by omega), if_pos ⟨by rw [show (0 : Int32) = xi 0 from rfl, xi_lt (by omega) (by omega) (by omega) (by omega)]; omega, by omega⟩]; rfl
theorem W_newr {e : Int} {idx t : Nat} (h : x_ct mi pc = some (.anewarray idx)) (hA : x_tA (xm_own mi) idx = some t) (h0 : 0 ≤ e) (h1 : e ≤ 1000) (hn : pc' = pc + 3) : WP P mi pc lo (.int (xi e) :: r) w Q ↔ WP P mi pc' lo (.ref (x_sz w) :: r) (x_new w (30 + t) e.toNat (fun _ => .null)) Q := by
  subst hn
  refine WP_go h rfl rfl ?_
  show (if ¬ xi e < 0 ∧ (xi e).toNatClampNeg ≤ 1000 then (match x_tA (xm_own mi) idx with
      | some t => x_go (pc + 3) lo (.ref (x_sz w) :: r) (x_new w (30 + t) (xi e).toNatClampNeg (fun _ => .null))
      | none => none) else none) = _
  rw [hA, xi_clamp h0 (by omega), if_pos ⟨by rw [show (0 : Int32) = xi 0 from rfl, xi_lt (by omega) (by omega) (by omega) (by omega)]; omega, by omega⟩]; rfl
theorem x_ix {e : Int} {n : Nat} (hn : n ≤ 2147483648) : (¬ xi e < 0 ∧ (xi e).toNatClampNeg < n) ↔ (0 ≤ (xi e).toInt ∧ (xi e).toInt < n) := by
  have h1 : (xi e).toNatClampNeg = (xi e).toInt.toNat := rfl
  rw [h1, Int32.lt_iff_toInt_lt, Int32.toInt_zero]
  omega
theorem W_iald {a n : Nat} {i : Int32} (h : x_ct mi pc = some .iaload) (ha : x_tg w a = some (20, n)) (h0 : ¬ i < 0) (h1 : i.toNatClampNeg < n) (hn : pc' = pc + 1) : WP P mi pc lo (.int i :: .ref a :: r) w Q ↔ WP P mi pc' lo (x_fd w a i.toNatClampNeg :: r) w Q := by
  subst hn
  refine WP_go h rfl rfl ?_
  unfold xI
  dsimp only
  rw [ha]
  exact if_pos ⟨rfl, h0, h1⟩
theorem W_bald {a n : Nat} {i : Int32} (h : x_ct mi pc = some .baload) (ha : x_tg w a = some (21, n)) (h0 : ¬ i < 0) (h1 : i.toNatClampNeg < n) (hn : pc' = pc + 1) : WP P mi pc lo (.int i :: .ref a :: r) w Q ↔ WP P mi pc' lo (x_fd w a i.toNatClampNeg :: r) w Q := by
  subst hn
  refine WP_go h rfl rfl ?_
  unfold xI
  dsimp only
  rw [ha]
  exact if_pos ⟨rfl, h0, h1⟩
theorem W_aald {a n t : Nat} {i : Int32} (h : x_ct mi pc = some .aaload) (ha : x_tg w a = some (t, n)) (ht : 30 ≤ t) (h0 : ¬ i < 0) (h1 : i.toNatClampNeg < n) (hn : pc' = pc + 1) : WP P mi pc lo (.int i :: .ref a :: r) w Q ↔ WP P mi pc' lo (x_fd w a i.toNatClampNeg :: r) w Q := by
  subst hn
  refine WP_go h rfl rfl ?_
  unfold xI
  dsimp only
  rw [ha]
  exact if_pos ⟨ht, h0, h1⟩
theorem W_iast {a n : Nat} {i x : Int32} (h : x_ct mi pc = some .iastore) (ha : x_tg w a = some (20, n)) (h0 : ¬ i < 0) (h1 : i.toNatClampNeg < n) (hn : pc' = pc + 1) : WP P mi pc lo (.int x :: .int i :: .ref a :: r) w Q ↔ WP P mi pc' lo r (x_put w a i.toNatClampNeg (.int x)) Q := by
  subst hn
  refine WP_go h rfl rfl ?_
  unfold xI
  dsimp only
  rw [ha]
  exact if_pos ⟨rfl, h0, h1⟩
theorem W_bast {a n : Nat} {i x : Int32} (h : x_ct mi pc = some .bastore) (ha : x_tg w a = some (21, n)) (hx : x = 0 ∨ x = 1) (h0 : ¬ i < 0) (h1 : i.toNatClampNeg < n) (hn : pc' = pc + 1) : WP P mi pc lo (.int x :: .int i :: .ref a :: r) w Q ↔ WP P mi pc' lo r (x_put w a i.toNatClampNeg (.int x)) Q := by
  subst hn
  refine WP_go h rfl rfl ?_
  unfold xI
  dsimp only
  rw [ha]
  exact if_pos ⟨hx, rfl, h0, h1⟩
theorem W_aast_n {a n t : Nat} {i : Int32} (h : x_ct mi pc = some .aastore) (ha : x_tg w a = some (t, n)) (ht : 30 ≤ t) (h0 : ¬ i < 0) (h1 : i.toNatClampNeg < n) (hn : pc' = pc + 1) : WP P mi pc lo (.null :: .int i :: .ref a :: r) w Q ↔ WP P mi pc' lo r (x_put w a i.toNatClampNeg .null) Q := by
  subst hn
  refine WP_go h rfl rfl ?_
  unfold xI
  dsimp only
  rw [ha]
  exact if_pos ⟨ht, h0, h1⟩
theorem W_aast_r {a n t v nv : Nat} {i : Int32} (h : x_ct mi pc = some .aastore) (ha : x_tg w a = some (30 + t, n)) (hv : x_tg w v = some (t, nv)) (ht : t < 20) (h0 : ¬ i < 0) (h1 : i.toNatClampNeg < n) (hn : pc' = pc + 1) : WP P mi pc lo (.ref v :: .int i :: .ref a :: r) w Q ↔ WP P mi pc' lo r (x_put w a i.toNatClampNeg (.ref v)) Q := by
  subst hn
  refine WP_go h rfl rfl ?_
  unfold xI
  dsimp only
  rw [ha, hv]
  exact if_pos ⟨rfl, ht, h0, h1⟩
theorem W_inst_n {idx : Nat} (h : x_ct mi pc = some (.instanceof idx)) (hn : pc' = pc + 3) : WP P mi pc lo (.null :: r) w Q ↔ WP P mi pc' lo (.int (xi 0) :: r) w Q := by
  subst hn; exact WP_go h rfl rfl rfl
theorem W_inst {idx u t n a : Nat} (h : x_ct mi pc = some (.instanceof idx)) (hC : x_tC (xm_own mi) idx = some u) (ha : x_tg w a = some (t, n)) (ht : t ∈ x_things) (hn : pc' = pc + 3) : WP P mi pc lo (.ref a :: r) w Q ↔ WP P mi pc' lo (.int (if t = u then xi 1 else xi 0) :: r) w Q := by
  subst hn
  refine WP_go h rfl rfl ?_
  unfold xI
  dsimp only
  rw [ha, hC]
  dsimp only
  rw [if_pos ht]
  split <;> rfl
theorem W_cast {idx t n a : Nat} (h : x_ct mi pc = some (.checkcast idx)) (ha : x_tg w a = some (t, n)) (hC : x_tC (xm_own mi) idx = some t) (hn : pc' = pc + 3) : WP P mi pc lo (.ref a :: r) w Q ↔ WP P mi pc' lo (.ref a :: r) w Q := by
  subst hn
  refine WP_go h rfl rfl ?_
  unfold xI
  dsimp only
  rw [ha, hC]
  exact if_pos rfl
theorem W_objinit {idx z a : Nat} (h : x_ct mi pc = some (.invokespecial idx)) (hM : x_tM (xm_own mi) idx = some (3, z)) (hr : r.length ≤ 8) (hc : r.all x_cat1 = true) (hdp : 1 ≤ xm_dep mi) (hlc : 20 ≤ xm_loc mi) (hn : pc' = pc + 3) : WP P mi pc lo (.ref a :: r) w Q ↔ WP P mi pc' lo r w Q := by
  subst hn
  refine WP_go h rfl ?_ ?_
  · unfold x_inv
    dsimp only
    rw [hM]
    rfl
  · unfold xI
    dsimp only
    rw [hM]
    exact if_pos ⟨hr, hc, hdp, hlc⟩
theorem x_inv_all {st as : List Value} {b : Nat} {mj : Nat} (hst : st = as.reverse ++ .ref b :: r) (hna : xm_na mj = as.length + 1) (hr : r.length ≤ 8) (hd : xm_dep mj < xm_dep mi) (hlc : 19 + xm_max mj + xm_loc mj ≤ xm_loc mi) (hc : as.all x_cat1 = true) (hc2 : r.all x_cat1 = true) : x_call mi mj st = some (mj, .ref b :: as, r) ∧ st[xm_na mj - 1]? = some (.ref b) := by
  subst hst
  have e1 : (as.reverse ++ Value.ref b :: r).take (as.length + 1) = as.reverse ++ [.ref b] := by
    rw [List.take_append, List.length_reverse, List.take_of_length_le (by simp), Nat.add_sub_cancel_left]
    rfl
  have e2 : (as.reverse ++ Value.ref b :: r).drop (as.length + 1) = r := by
    rw [List.drop_append, List.length_reverse, List.drop_of_length_le (by simp), Nat.add_sub_cancel_left]
    rfl
  constructor
  · unfold x_call
    rw [hna, e1, e2, if_pos ⟨by simp, hr, hd, hlc, by simp [List.all_append, hc, hc2, x_cat1]⟩]
    simp
  · rw [hna, Nat.add_sub_cancel, List.getElem?_append_right (by simp), List.length_reverse, Nat.sub_self]
    rfl
theorem K_virt {idx mj b n : Nat} {as : List Value} (h : x_ct mi pc = some (.invokevirtual idx)) (hM : x_tM (xm_own mi) idx = some (0, mj)) (hst : st = as.reverse ++ .ref b :: r) (hna : xm_na mj = as.length + 1) (hd : xm_dep mj < xm_dep mi) (hlc : 19 + xm_max mj + xm_loc mj ≤ xm_loc mi) (hn : pc' = pc + 3) (hb : x_tg w b = some (xm_own mj, n)) (hr : r.length ≤ 8) (hc : as.all x_cat1 = true) (hc2 : r.all x_cat1 = true)
    (k : WP P mj 0 (x_en mj (.ref b :: as)) [] w (fun v w' => WP P mi pc' lo (v.toList ++ r) w' Q)) : WP P mi pc lo st w Q := by
  subst hn
  obtain ⟨e1, e2⟩ := x_inv_all hst hna hr hd hlc hc hc2
  refine (WP_call h rfl ?_).2 k
  unfold x_inv
  dsimp only
  rw [hM]
  show (match st[xm_na mj - 1]? with
    | some (.ref b) => (match x_tg w b with
      | some (t, _) => if t = xm_own mj then x_call mi mj st else none
      | none => none)
    | _ => none) = _
  rw [e2]
  show (match x_tg w b with
    | some (t, _) => if t = xm_own mj then x_call mi mj st else none
    | none => none) = _
  rw [hb]
  show (if xm_own mj = xm_own mj then x_call mi mj st else none) = _
  rw [if_pos rfl, e1]
theorem K_init {idx mj b kd : Nat} {as : List Value} (h : x_ct mi pc = some (.invokespecial idx)) (hM : x_tM (xm_own mi) idx = some (kd, mj)) (hkd : kd = 1 ∨ kd = 4) (hst : st = as.reverse ++ .ref b :: r) (hna : xm_na mj = as.length + 1) (hd : xm_dep mj < xm_dep mi) (hlc : 19 + xm_max mj + xm_loc mj ≤ xm_loc mi) (hn : pc' = pc + 3) (hr : r.length ≤ 8) (hc : as.all x_cat1 = true) (hc2 : r.all x_cat1 = true)
    (k : WP P mj 0 (x_en mj (.ref b :: as)) [] w (fun v w' => WP P mi pc' lo (v.toList ++ r) w' Q)) : WP P mi pc lo st w Q := by
  subst hn
  obtain ⟨e1, e2⟩ := x_inv_all hst hna hr hd hlc hc hc2
  refine (WP_call h rfl ?_).2 k
  unfold x_inv
  dsimp only
  rw [hM]
  rcases hkd with rfl | rfl
  · show (match st[xm_na mj - 1]? with
      | some (.ref _) => x_call mi mj st
      | _ => none) = _
    rw [e2]
    exact e1
  · show (match st[xm_na mj - 1]? with
      | some (.ref _) => x_call mi mj st
      | _ => none) = _
    rw [e2]
    exact e1
theorem K_stat {idx mj : Nat} {as : List Value} (h : x_ct mi pc = some (.invokestatic idx)) (hM : x_tM (xm_own mi) idx = some (2, mj)) (hst : st = as.reverse ++ r) (hna : xm_na mj = as.length) (hd : xm_dep mj < xm_dep mi) (hlc : 19 + xm_max mj + xm_loc mj ≤ xm_loc mi) (hn : pc' = pc + 3) (hr : r.length ≤ 8) (hc : as.all x_cat1 = true) (hc2 : r.all x_cat1 = true)
    (k : WP P mj 0 (x_en mj as) [] w (fun v w' => WP P mi pc' lo (v.toList ++ r) w' Q)) : WP P mi pc lo st w Q := by
  subst hn hst
  refine (WP_call h rfl ?_).2 k
  unfold x_inv
  dsimp only
  rw [hM]
  show x_call mi mj (as.reverse ++ r) = _
  have e1 : (as.reverse ++ r).take as.length = as.reverse := by
    rw [List.take_append, List.length_reverse, List.take_of_length_le (by simp), Nat.sub_self]
    simp
  have e2 : (as.reverse ++ r).drop as.length = r := by
    rw [List.drop_append, List.length_reverse, List.drop_of_length_le (by simp), Nat.sub_self]
    simp
  unfold x_call
  rw [hna, e1, e2, if_pos ⟨by simp, hr, hd, hlc, by simp [List.all_append, hc, hc2]⟩]
  simp
end WPR
