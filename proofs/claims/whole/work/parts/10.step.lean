theorem x_go_inj {a a' : Nat} {b b' : List (Option Value)} {c c' : List Value} {d d' : xH} (h : x_go a b c d = some (a', b', c', d')) : a' = a ∧ b' = b ∧ c' = c ∧ d' = d := by
  simp only [x_go, Option.some.injEq, Prod.mk.injEq] at h
  obtain ⟨h1, h2, h3, h4⟩ := h
  exact ⟨h1.symm, h2.symm, h3.symm, h4.symm⟩
section XJ
variable {a i pc' : Nat} {lo lo' : List (Option Value)} {st st' : List Value} {w w' : xH}
theorem x_ldi_inj (h : x_ldi a i lo st w = some (pc', lo', st', w')) : ∃ x, lo[i]? = some (some (.int x)) ∧ pc' = a ∧ lo' = lo ∧ st' = .int x :: st ∧ w' = w := by
  unfold x_ldi at h
  split at h
  next x hx => exact ⟨x, hx, x_go_inj h⟩
  next => cases h
theorem x_lda_inj (h : x_lda a i lo st w = some (pc', lo', st', w')) : ∃ v, lo[i]? = some (some v) ∧ (v = .null ∨ ∃ b, v = .ref b) ∧ pc' = a ∧ lo' = lo ∧ st' = v :: st ∧ w' = w := by
  unfold x_lda at h
  split at h
  next x hx => exact ⟨.ref x, hx, Or.inr ⟨x, rfl⟩, x_go_inj h⟩
  next hx => exact ⟨.null, hx, Or.inl rfl, x_go_inj h⟩
  next => cases h
theorem x_sti_inj (h : x_sti a i lo st w = some (pc', lo', st', w')) : ∃ x r, st = .int x :: r ∧ i < lo.length ∧ pc' = a ∧ lo' = lo.set i (some (.int x)) ∧ st' = r ∧ w' = w := by
  unfold x_sti at h
  split at h
  next x r =>
    split at h
    next hi => exact ⟨x, r, rfl, hi, x_go_inj h⟩
    next => cases h
  next => cases h
theorem x_sta_inj (h : x_sta a i lo st w = some (pc', lo', st', w')) : ∃ v r, st = v :: r ∧ (v = .null ∨ ∃ b, v = .ref b) ∧ i < lo.length ∧ pc' = a ∧ lo' = lo.set i (some v) ∧ st' = r ∧ w' = w := by
  unfold x_sta at h
  split at h
  next x r =>
    split at h
    next hi => exact ⟨.ref x, r, rfl, Or.inr ⟨x, rfl⟩, hi, x_go_inj h⟩
    next => cases h
  next r =>
    split at h
    next hi => exact ⟨.null, r, rfl, Or.inl rfl, hi, x_go_inj h⟩
    next => cases h
  next => cases h
theorem x_b2_inj {f : Int32 → Int32 → Int32} (h : x_b2 f a lo st w = some (pc', lo', st', w')) : ∃ x y r, st = .int y :: .int x :: r ∧ pc' = a + 1 ∧ lo' = lo ∧ st' = .int (f x y) :: r ∧ w' = w := by
  unfold x_b2 at h
  split at h
  next y x r => exact ⟨x, y, r, rfl, x_go_inj h⟩
  next => cases h
theorem x_d2_inj {f : Int32 → Int32 → Int32} (h : x_d2 f a lo st w = some (pc', lo', st', w')) : ∃ x y r, st = .int y :: .int x :: r ∧ ¬ y = 0 ∧ pc' = a + 1 ∧ lo' = lo ∧ st' = .int (f x y) :: r ∧ w' = w := by
  unfold x_d2 at h
  split at h
  next y x r =>
    split at h
    next => cases h
    next hy => exact ⟨x, y, r, rfl, hy, x_go_inj h⟩
  next => cases h
theorem x_br_inj {c : Jvm.ClassFile.Cond} {x y : Int32} {t : Int} (h : x_br c x y t a lo st w = some (pc', lo', st', w')) : lo' = lo ∧ st' = st ∧ w' = w ∧ (t = (t.toNat : Int)) ∧ (match c with
    | .eq => (x = y → pc' = t.toNat) ∧ (¬ x = y → pc' = a + 3)
    | .ne => (¬ x = y → pc' = t.toNat) ∧ (x = y → pc' = a + 3)
    | .lt => (x < y → pc' = t.toNat) ∧ (¬ x < y → pc' = a + 3)
    | .ge => (y ≤ x → pc' = t.toNat) ∧ (¬ y ≤ x → pc' = a + 3)
    | .gt => (y < x → pc' = t.toNat) ∧ (¬ y < x → pc' = a + 3)
    | .le => (x ≤ y → pc' = t.toNat) ∧ (¬ x ≤ y → pc' = a + 3)) := by
  unfold x_br at h
  split at h
  next ht =>
    have e0 : t = (t.toNat : Int) := (Int.toNat_of_nonneg ht).symm
    cases c <;> dsimp only at h ⊢ <;> split at h <;> rename_i hc <;> obtain ⟨h1, h2, h3, h4⟩ := x_go_inj h <;> refine ⟨h2, h3, h4, e0, fun q => ?_, fun q => ?_⟩ <;>
      first | exact h1 | exact absurd hc q | exact absurd q hc | exact absurd q (Int32.not_le.mpr hc) | exact absurd (Int32.not_lt.mp hc) q | exact absurd (Int32.not_le.mp q) hc
  next => cases h
end XJ
theorem x_rv_rf {v : Value} {x : Option Nat} (h : x_rv v = some x) : v = va_rf x := by
  unfold x_rv at h
  split at h
  next => cases h; rfl
  next => cases h; rfl
  next => cases h
theorem x_cat_sum {r : List Value} (h : r.all x_cat1 = true) : (r.map fun v => v.category).sum = r.length := by
  induction r with
  | nil => rfl
  | cons v r ih =>
    rw [List.all_cons, Bool.and_eq_true] at h
    rw [List.map_cons, List.sum_cons, ih h.2, x_cat1_cat h.1, List.length_cons]
    omega
section XT
variable {p : Program} {l : Launch} {e : Env} {R : Room} {s : State} {m : MethodId} {args : Array Value} {below : List Frame} {meth : Method} {c : Code} {H : Heap} {locs : List Loc} {cells slots : Nat} {Q : State → Prop}
variable {D : xD} {P : xP} {b0 mi pc : Nat} {lo lo' : List (Option Value)} {st st' : List Value} {w w' : xH} {ls : Array Slot} {pc' : Nat}
set_option maxHeartbeats 4000000 in
set_option maxRecDepth 100000 in
/-- a step that goes on in the same method -/
theorem x_step (C : x_Cx p s m args meth c D P b0 mi) (hok : x_ok D b0 w H) (hS : va_S (fun q => b0 ≤ q) s.heap H locs) (hl : x_lr ls lo) (hlo : lo.length = xm_max mi) {ins : Instr} (hd : ∃ n, decode (xm_b mi) pc = .ok (ins, n) ∧ ∀ k, x_len ins = some k → n = k)
    (hst : xI P ins mi pc lo st w = some (pc', lo', st', w')) (hfr : xm_dep mi ≤ R.frames) (hlc : xm_loc mi ≤ R.locals) (hcells : cells + (x_sz w' - x_sz w) ≤ R.cells) (hslots : slots + (x_sl w' - x_sl w) ≤ R.slots)
    (kk : ∀ (H1 : Heap) (locs1 : List Loc) (ls1 : Array Slot), x_ok D b0 w' H1 → va_S (fun q => b0 ≤ q) s.heap H1 locs1 → x_lr ls1 lo' → lo'.length = lo.length → W p l e R s m args below meth c H1 locs1 (cells + (x_sz w' - x_sz w)) (slots + (x_sl w' - x_sl w)) Q (F0 m pc' ls1 st')) :
    W p l e R s m args below meth c H locs cells slots Q (F0 m pc ls st) := by
  have k1 : x_sz w' = x_sz w → x_sl w' = x_sl w → ∀ (H1 : Heap) (locs1 : List Loc) (ls1 : Array Slot), x_ok D b0 w' H1 → va_S (fun q => b0 ≤ q) s.heap H1 locs1 → x_lr ls1 lo' → lo'.length = lo.length → W p l e R s m args below meth c H1 locs1 cells slots Q (F0 m pc' ls1 st') := by
    intro e1 e2 H1 locs1 ls1 g1 g2 g3 g4
    have h3 := kk H1 locs1 ls1 g1 g2 g3 g4
    rwa [e1, e2, Nat.sub_self, Nat.sub_self, Nat.add_zero, Nat.add_zero] at h3
  have k0 : w' = w → ∀ (ls1 : Array Slot), x_lr ls1 lo' → lo'.length = lo.length → W p l e R s m args below meth c H locs cells slots Q (F0 m pc' ls1 st') := by
    intro hw ls1 g3 g4
    refine k1 (by rw [hw]) (by rw [hw]) H locs ls1 (by rw [hw]; exact hok) hS g3 g4
  obtain ⟨nn, hd, hk⟩ := hd
  have hx := C.1
  have hb := C.2.1
  have hown := C.2.2.2.1
  have hts := C.2.2.2.2.1
  have hK := C.2.2.2.2.2.1
  have hsize : ls.size = c.maxLocals := by rw [hl.1.1, hlo]; exact C.2.2.1.symm
  cases ins with
  | iconst n =>
    obtain rfl := hk 1 rfl
    obtain ⟨rfl, rfl, rfl, rfl⟩ := x_go_inj hst
    exact lv_iconst hx hb hd rfl (k0 rfl ls hl rfl)
  | bipush n =>
    obtain rfl := hk 2 rfl
    obtain ⟨rfl, rfl, rfl, rfl⟩ := x_go_inj hst
    exact lv_bipush hx hb hd rfl (k0 rfl ls hl rfl)
  | sipush n =>
    obtain rfl := hk 3 rfl
    obtain ⟨rfl, rfl, rfl, rfl⟩ := x_go_inj hst
    exact lv_sipush hx hb hd rfl (k0 rfl ls hl rfl)
  | aconst_null =>
    obtain rfl := hk 1 rfl
    obtain ⟨rfl, rfl, rfl, rfl⟩ := x_go_inj hst
    exact lv_null hx hb hd (k0 rfl ls hl rfl)
  | iload i =>
    obtain rfl := hk 2 rfl
    obtain ⟨x, h1, rfl, rfl, rfl, rfl⟩ := x_ldi_inj hst
    exact lv_iload hx hb hd (hl.get h1) (k0 rfl ls hl rfl)
  | iload_n i =>
    obtain rfl := hk 1 rfl
    obtain ⟨x, h1, rfl, rfl, rfl, rfl⟩ := x_ldi_inj hst
    exact lv_iload_n hx hb hd rfl (hl.get h1) (k0 rfl ls hl rfl)
  | aload i =>
    obtain rfl := hk 2 rfl
    obtain ⟨v, h1, hv, rfl, rfl, rfl, rfl⟩ := x_lda_inj hst
    rcases hv with rfl | ⟨b, rfl⟩
    · exact lv_aloadN hx hb hd (hl.get h1) (k0 rfl ls hl rfl)
    · exact lv_aload hx hb hd (hl.get h1) (k0 rfl ls hl rfl)
  | aload_n i =>
    obtain rfl := hk 1 rfl
    obtain ⟨v, h1, hv, rfl, rfl, rfl, rfl⟩ := x_lda_inj hst
    rcases hv with rfl | ⟨b, rfl⟩
    · exact lv_aload_nN hx hb hd rfl (hl.get h1) (k0 rfl ls hl rfl)
    · exact lv_aload_n hx hb hd rfl (hl.get h1) (k0 rfl ls hl rfl)
  | istore i =>
    obtain rfl := hk 2 rfl
    obtain ⟨x, r, rfl, hi, rfl, rfl, rfl, rfl⟩ := x_sti_inj hst
    exact lv_istore hx hb hd hl.1 hi rfl (fun ls' h' => k0 rfl ls' (x_lr.set hi rfl hl.2 h') (List.length_set ..))
  | istore_n i =>
    obtain rfl := hk 1 rfl
    obtain ⟨x, r, rfl, hi, rfl, rfl, rfl, rfl⟩ := x_sti_inj hst
    exact lv_istore_n hx hb hd rfl hl.1 hi rfl (fun ls' h' => k0 rfl ls' (x_lr.set hi rfl hl.2 h') (List.length_set ..))
  | astore i =>
    obtain rfl := hk 2 rfl
    obtain ⟨v, r, rfl, hv, hi, rfl, rfl, rfl, rfl⟩ := x_sta_inj hst
    rcases hv with rfl | ⟨b, rfl⟩
    · exact lv_astoreN hx hb hd hl.1 hi rfl (fun ls' h' => k0 rfl ls' (x_lr.set hi rfl hl.2 h') (List.length_set ..))
    · exact lv_astore hx hb hd hl.1 hi rfl (fun ls' h' => k0 rfl ls' (x_lr.set hi rfl hl.2 h') (List.length_set ..))
  | astore_n i =>
    obtain rfl := hk 1 rfl
    obtain ⟨v, r, rfl, hv, hi, rfl, rfl, rfl, rfl⟩ := x_sta_inj hst
    rcases hv with rfl | ⟨b, rfl⟩
    · exact lv_astore_nN hx hb hd rfl hl.1 hi rfl (fun ls' h' => k0 rfl ls' (x_lr.set hi rfl hl.2 h') (List.length_set ..))
    · exact lv_astore_n hx hb hd rfl hl.1 hi rfl (fun ls' h' => k0 rfl ls' (x_lr.set hi rfl hl.2 h') (List.length_set ..))
  | iinc i n =>
    obtain rfl := hk 3 rfl
    have hst' := hst
    unfold xI at hst'
    dsimp only at hst'
    split at hst'
    next x hx1 =>
      obtain ⟨rfl, rfl, rfl, rfl⟩ := x_go_inj hst'
      have hi : i < lo.length := (List.getElem?_eq_some_iff.mp hx1).1
      obtain ⟨k, hk2⟩ := List.getElem?_of_mem (x_kn_mem.mpr hx1)
      exact lv_iinc hx hb hd hl.1 hk2 rfl hi rfl (fun ls' h' => k0 rfl ls' (x_lr.set hi rfl hl.2 h') (List.length_set ..))
    next => cases hst'
  | iadd =>
    obtain rfl := hk 1 rfl
    obtain ⟨x, y, r, rfl, rfl, rfl, rfl, rfl⟩ := x_b2_inj hst
    exact lv_iadd hx hb hd (k0 rfl ls hl rfl)
  | isub =>
    obtain rfl := hk 1 rfl
    obtain ⟨x, y, r, rfl, rfl, rfl, rfl, rfl⟩ := x_b2_inj hst
    exact lv_isub hx hb hd (k0 rfl ls hl rfl)
  | imul =>
    obtain rfl := hk 1 rfl
    obtain ⟨x, y, r, rfl, rfl, rfl, rfl, rfl⟩ := x_b2_inj hst
    exact lv_imul hx hb hd (k0 rfl ls hl rfl)
  | iand =>
    obtain rfl := hk 1 rfl
    obtain ⟨x, y, r, rfl, rfl, rfl, rfl, rfl⟩ := x_b2_inj hst
    exact lv_iand hx hb hd (k0 rfl ls hl rfl)
  | ior =>
    obtain rfl := hk 1 rfl
    obtain ⟨x, y, r, rfl, rfl, rfl, rfl, rfl⟩ := x_b2_inj hst
    exact lv_ior hx hb hd (k0 rfl ls hl rfl)
  | ishl =>
    obtain rfl := hk 1 rfl
    obtain ⟨x, y, r, rfl, rfl, rfl, rfl, rfl⟩ := x_b2_inj hst
    exact lv_ishl hx hb hd (k0 rfl ls hl rfl)
  | idiv =>
    obtain rfl := hk 1 rfl
    obtain ⟨x, y, r, rfl, hy, rfl, rfl, rfl, rfl⟩ := x_d2_inj hst
    exact lv_idiv hx hb hd hy (k0 rfl ls hl rfl)
  | irem =>
    obtain rfl := hk 1 rfl
    obtain ⟨x, y, r, rfl, hy, rfl, rfl, rfl, rfl⟩ := x_d2_inj hst
    exact lv_irem hx hb hd hy (k0 rfl ls hl rfl)
  | dup =>
    obtain rfl := hk 1 rfl
    cases st with
    | nil => exact absurd (show (none : Option xO) = _ from hst) (fun h => by cases h)
    | cons v r =>
      have hst' := hst
      unfold xI at hst'
      dsimp only at hst'
      split at hst'
      next hv =>
        obtain ⟨rfl, rfl, rfl, rfl⟩ := x_go_inj hst'
        exact lv_dup hx hb hd (x_cat1_cat hv) (k0 rfl ls hl rfl)
      next => cases hst'
  | pop =>
    obtain rfl := hk 1 rfl
    cases st with
    | nil => exact absurd (show (none : Option xO) = _ from hst) (fun h => by cases h)
    | cons v r =>
      have hst' := hst
      unfold xI at hst'
      dsimp only at hst'
      split at hst'
      next hv =>
        obtain ⟨rfl, rfl, rfl, rfl⟩ := x_go_inj hst'
        exact lv_pop hx hb hd (x_cat1_cat hv) (k0 rfl ls hl rfl)
      next => cases hst'
  | dup_x1 =>
    obtain rfl := hk 1 rfl
    cases st with
    | nil => exact absurd (show (none : Option xO) = _ from hst) (fun h => by cases h)
    | cons v r => cases r with
      | nil => exact absurd (show (none : Option xO) = _ from hst) (fun h => by cases h)
      | cons u r =>
        have hst' := hst
        unfold xI at hst'
        dsimp only at hst'
        split at hst'
        next hv =>
          obtain ⟨rfl, rfl, rfl, rfl⟩ := x_go_inj hst'
          exact lv_dup_x1 hx hb hd (x_cat1_cat hv.1) (x_cat1_cat hv.2) (k0 rfl ls hl rfl)
        next => cases hst'
  | dup2 =>
    obtain rfl := hk 1 rfl
    cases st with
    | nil => exact absurd (show (none : Option xO) = _ from hst) (fun h => by cases h)
    | cons v r => cases r with
      | nil => exact absurd (show (none : Option xO) = _ from hst) (fun h => by cases h)
      | cons u r =>
        have hst' := hst
        unfold xI at hst'
        dsimp only at hst'
        split at hst'
        next hv =>
          obtain ⟨rfl, rfl, rfl, rfl⟩ := x_go_inj hst'
          exact lv_dup2_11 hx hb hd (x_cat1_cat hv.1) (x_cat1_cat hv.2) (k0 rfl ls hl rfl)
        next => cases hst'
  | ifCond cnd off =>
    obtain rfl := hk 3 rfl
    have hst' := hst
    unfold xI at hst'
    dsimp only at hst'
    split at hst'
    next x r =>
      obtain ⟨rfl, rfl, rfl, ht, hc⟩ := x_br_inj hst'
      cases cnd with
      | eq => exact lv_if_eq hx hb hd ht (fun q => hc.1 q ▸ k0 rfl ls hl rfl) (fun q => hc.2 q ▸ k0 rfl ls hl rfl)
      | ne => exact lv_if_ne hx hb hd ht (fun q => hc.1 q ▸ k0 rfl ls hl rfl) (fun q => hc.2 q ▸ k0 rfl ls hl rfl)
      | lt => exact lv_if_lt hx hb hd ht (fun q => hc.1 q ▸ k0 rfl ls hl rfl) (fun q => hc.2 q ▸ k0 rfl ls hl rfl)
      | ge => exact lv_if_ge hx hb hd ht (fun q => hc.1 q ▸ k0 rfl ls hl rfl) (fun q => hc.2 q ▸ k0 rfl ls hl rfl)
      | gt => exact lv_if_gt hx hb hd ht (fun q => hc.1 q ▸ k0 rfl ls hl rfl) (fun q => hc.2 q ▸ k0 rfl ls hl rfl)
      | le => exact lv_if_le hx hb hd ht (fun q => hc.1 q ▸ k0 rfl ls hl rfl) (fun q => hc.2 q ▸ k0 rfl ls hl rfl)
    next => cases hst'
  | if_icmp cnd off =>
    obtain rfl := hk 3 rfl
    have hst' := hst
    unfold xI at hst'
    dsimp only at hst'
    split at hst'
    next y x r =>
      obtain ⟨rfl, rfl, rfl, ht, hc⟩ := x_br_inj hst'
      cases cnd with
      | eq => exact lv_icmp_eq hx hb hd ht (fun q => hc.1 q ▸ k0 rfl ls hl rfl) (fun q => hc.2 q ▸ k0 rfl ls hl rfl)
      | ne => exact lv_icmp_ne hx hb hd ht (fun q => hc.1 q ▸ k0 rfl ls hl rfl) (fun q => hc.2 q ▸ k0 rfl ls hl rfl)
      | lt => exact lv_icmp_lt hx hb hd ht (fun q => hc.1 q ▸ k0 rfl ls hl rfl) (fun q => hc.2 q ▸ k0 rfl ls hl rfl)
      | ge => exact lv_icmp_ge hx hb hd ht (fun q => hc.1 q ▸ k0 rfl ls hl rfl) (fun q => hc.2 q ▸ k0 rfl ls hl rfl)
      | gt => exact lv_icmp_gt hx hb hd ht (fun q => hc.1 q ▸ k0 rfl ls hl rfl) (fun q => hc.2 q ▸ k0 rfl ls hl rfl)
      | le => exact lv_icmp_le hx hb hd ht (fun q => hc.1 q ▸ k0 rfl ls hl rfl) (fun q => hc.2 q ▸ k0 rfl ls hl rfl)
    next => cases hst'
  | if_acmp cnd off =>
    obtain rfl := hk 3 rfl
    cases st with
    | nil => exact absurd (show (none : Option xO) = _ from hst) (fun h => by cases h)
    | cons v r => cases r with
      | nil => exact absurd (show (none : Option xO) = _ from hst) (fun h => by cases h)
      | cons u r =>
        have hst' := hst
        unfold xI at hst'
        dsimp only at hst'
        split at hst'
        next x y hu hv =>
          obtain rfl := x_rv_rf hu
          obtain rfl := x_rv_rf hv
          split at hst'
          next h0 =>
            have ht := (Int.toNat_of_nonneg h0).symm
            cases cnd with
            | eq =>
              have hst' : (if x = y then x_go ((pc : Int) + off).toNat lo r w else x_go (pc + 3) lo r w) = some (pc', lo', st', w') := hst'
              refine lv_acmp_eq hx hb hd ht (fun q => ?_) (fun q => ?_)
              · rw [if_pos q] at hst'
                obtain ⟨rfl, rfl, rfl, rfl⟩ := x_go_inj hst'
                exact k0 rfl ls hl rfl
              · rw [if_neg q] at hst'
                obtain ⟨rfl, rfl, rfl, rfl⟩ := x_go_inj hst'
                exact k0 rfl ls hl rfl
            | ne =>
              have hst' : (if x = y then x_go (pc + 3) lo r w else x_go ((pc : Int) + off).toNat lo r w) = some (pc', lo', st', w') := hst'
              refine lv_acmp_ne hx hb hd ht (fun q => ?_) (fun q => ?_)
              · rw [if_neg q] at hst'
                obtain ⟨rfl, rfl, rfl, rfl⟩ := x_go_inj hst'
                exact k0 rfl ls hl rfl
              · rw [if_pos q] at hst'
                obtain ⟨rfl, rfl, rfl, rfl⟩ := x_go_inj hst'
                exact k0 rfl ls hl rfl
          next => cases hst'
        next => cases hst'
  | ifnull off =>
    obtain rfl := hk 3 rfl
    have hst' := hst
    unfold xI at hst'
    dsimp only at hst'
    split at hst'
    next h0 =>
      have ht := (Int.toNat_of_nonneg h0).symm
      split at hst'
      next r =>
        obtain ⟨rfl, rfl, rfl, rfl⟩ := x_go_inj hst'
        exact lv_ifnullN hx hb hd ht (k0 rfl ls hl rfl)
      next a r =>
        obtain ⟨rfl, rfl, rfl, rfl⟩ := x_go_inj hst'
        exact lv_ifnull hx hb hd (k0 rfl ls hl rfl)
      next => cases hst'
    next => cases hst'
  | ifnonnull off =>
    obtain rfl := hk 3 rfl
    have hst' := hst
    unfold xI at hst'
    dsimp only at hst'
    split at hst'
    next h0 =>
      have ht := (Int.toNat_of_nonneg h0).symm
      split at hst'
      next r =>
        obtain ⟨rfl, rfl, rfl, rfl⟩ := x_go_inj hst'
        exact lv_ifnonnullN hx hb hd (k0 rfl ls hl rfl)
      next a r =>
        obtain ⟨rfl, rfl, rfl, rfl⟩ := x_go_inj hst'
        exact lv_ifnonnull hx hb hd ht (k0 rfl ls hl rfl)
      next => cases hst'
    next => cases hst'
  | goto off =>
    obtain rfl := hk 3 rfl
    have hst' := hst
    unfold xI at hst'
    dsimp only at hst'
    split at hst'
    next h0 =>
      obtain ⟨rfl, rfl, rfl, rfl⟩ := x_go_inj hst'
      exact lv_goto hx hb hd (Int.toNat_of_nonneg h0).symm (k0 rfl ls hl rfl)
    next => cases hst'
  | tableswitch dflt lw hi offs =>
    have hst' := hst
    unfold xI at hst'
    dsimp only at hst'
    split at hst'
    next x r =>
      split at hst'
      next hout =>
        split at hst'
        next h0 =>
          obtain ⟨rfl, rfl, rfl, rfl⟩ := x_go_inj hst'
          exact lv_tableOut hx hb hd hout (Int.toNat_of_nonneg h0).symm (k0 rfl ls hl rfl)
        next => cases hst'
      next hin =>
        split at hst'
        next off ho =>
          split at hst'
          next h0 =>
            obtain ⟨rfl, rfl, rfl, rfl⟩ := x_go_inj hst'
            exact lv_tableIn hx hb hd (fun q => hin (Or.inl q)) (fun q => hin (Or.inr q)) ho (Int.toNat_of_nonneg h0).symm (k0 rfl ls hl rfl)
          next => cases hst'
        next => cases hst'
    next => cases hst'
  | getfield idx =>
    obtain rfl := hk 3 rfl
    have hst' := hst
    unfold xI at hst'
    dsimp only at hst'
    split at hst'
    next a r =>
      split at hst'
      next t n k cs kd fin htg hF =>
        split at hst'
        next ht =>
          obtain ⟨rfl, rfl, rfl, rfl⟩ := x_go_inj hst'
          exact x_s_get C hok hF ht htg hd (k0 rfl ls hl rfl)
        next => cases hst'
      next => cases hst'
    next => cases hst'
  | putfield idx =>
    obtain rfl := hk 3 rfl
    have hst' := hst
    unfold xI at hst'
    dsimp only at hst'
    split at hst'
    next v a r =>
      split at hst'
      next t n k cs kd fin htg hF =>
        split at hst'
        next ht =>
          obtain ⟨rfl, rfl, rfl, rfl⟩ := x_go_inj hst'
          exact x_s_put C hok hS hF ht.1 htg ht.2.1 ht.2.2 hd (fun H1 locs1 g1 g2 => k1 rfl rfl H1 locs1 ls g1 g2 hl rfl)
        next => cases hst'
      next => cases hst'
    next => cases hst'
  | getstatic idx =>
    obtain rfl := hk 3 rfl
    have hst' := hst
    unfold xI at hst'
    dsimp only at hst'
    split at hst'
    next hg =>
      obtain ⟨rfl, rfl, rfl, rfl⟩ := x_go_inj hst'
      exact va_gets hx hb hK.2.2.2.2.1 hS hown (hts _ (x_tG_ok hg)) (fun _ h => h) hd (k0 rfl ls hl rfl)
    next => cases hst'
  | new idx =>
    obtain rfl := hk 3 rfl
    have hst' := hst
    unfold xI at hst'
    dsimp only at hst'
    split at hst'
    next t hN =>
      obtain ⟨rfl, rfl, rfl, rfl⟩ := x_go_inj hst'
      rw [x_sz_new, x_sl_new, Nat.add_sub_cancel_left, Nat.add_sub_cancel_left] at *
      exact x_s_new C hok hS hN hcells hslots hd (fun H1 g1 g2 => kk H1 locs ls g1 g2 hl rfl)
    next => cases hst'
  | newarray ty =>
    obtain rfl := hk 2 rfl
    have hst' := hst
    unfold xI at hst'
    dsimp only at hst'
    have hb0 : b0 ≤ x_sz w := by
      have := hK.2.2.2.2.2.2.1
      have := hS.1
      rw [← hok.1]
      omega
    split at hst'
    next n r =>
      split at hst'
      next hn =>
        split at hst'
        next =>
          obtain ⟨rfl, rfl, rfl, rfl⟩ := x_go_inj hst'
          rw [x_sz_new, x_sl_new, Nat.add_sub_cancel_left, Nat.add_sub_cancel_left] at *
          refine va_newaK (atype := .int) hx hb (hts _ x_ac_int) rfl hd rfl hn.1 rfl (Nat.le_trans (Nat.mul_le_mul_right _ hn.2) (by decide)) hcells hslots hok.1 fun H1 cA e1 z1 o1 _ hNm => ?_
          have hcA : D.2.2 20 = cA := Option.some.inj ((hK.2.1 20 .int rfl).2.symm.trans hNm)
          subst hcA
          exact kk H1 locs ls (hok.new hb0 z1 o1 ⟨fun h => by omega, fun _ => ⟨⟨_, rfl⟩, e1⟩⟩) (x_S_new hS (by rw [z1, hok.1]) (fun q hq => o1 q (by rw [← hok.1]; exact hq))) hl rfl
        next =>
          obtain ⟨rfl, rfl, rfl, rfl⟩ := x_go_inj hst'
          rw [x_sz_new, x_sl_new, Nat.add_sub_cancel_left, Nat.add_sub_cancel_left] at *
          refine va_newaK (atype := .boolean) hx hb (hts _ x_ac_bool) rfl hd rfl hn.1 rfl (Nat.le_trans (Nat.mul_le_mul_right _ hn.2) (by decide)) hcells hslots hok.1 fun H1 cA e1 z1 o1 _ hNm => ?_
          have hcA : D.2.2 21 = cA := Option.some.inj ((hK.2.1 21 .boolean rfl).2.symm.trans hNm)
          subst hcA
          exact kk H1 locs ls (hok.new hb0 z1 o1 ⟨fun h => by omega, fun _ => ⟨⟨_, rfl⟩, e1⟩⟩) (x_S_new hS (by rw [z1, hok.1]) (fun q hq => o1 q (by rw [← hok.1]; exact hq))) hl rfl
        next => cases hst'
      next => cases hst'
    next => cases hst'
  | anewarray idx =>
    obtain rfl := hk 3 rfl
    have hst' := hst
    unfold xI at hst'
    dsimp only at hst'
    have hb0 : b0 ≤ x_sz w := by
      have := hK.2.2.2.2.2.2.1
      have := hS.1
      rw [← hok.1]
      omega
    split at hst'
    next n r =>
      split at hst'
      next hn =>
        split at hst'
        next t hA =>
          obtain ⟨rfl, rfl, rfl, rfl⟩ := x_go_inj hst'
          obtain ⟨ha1, ha2⟩ := x_tA_ok hA
          rw [x_sz_new, x_sl_new, Nat.add_sub_cancel_left, Nat.add_sub_cancel_left] at *
          refine W.anew hx hb hown (hts _ ha1) (va_AO.use (hK.2.2.1 t ha2)) rfl hd rfl hn.1 (Nat.le_trans (Nat.mul_le_mul_right _ hn.2) (by decide)) hcells hslots fun cA kA comp f1 f2 f3 f4 => ?_
          obtain ⟨hr1, kA', comp', g1, g2, g3, g4⟩ := hK.2.1 (30 + t) _ (x_aty_arr ha2)
          have hcA : D.2.2 (30 + t) = cA := Option.some.inj (g4.symm.trans f1)
          subst hcA
          generalize hH1 : H.push ({ cls := D.2.2 (30 + t), slots := Array.replicate n.toNatClampNeg .null, vm := .none } : Cell) = H1
          have z1 : H1.size = x_sz w + 1 := by rw [← hH1, Array.size_push, hok.1]
          have e1 : H1[x_sz w]? = some (arrV (D.2.2 (30 + t)) n.toNatClampNeg (fun _ => .null)) := by rw [← hH1, ← hok.1, Array.getElem?_push_size, ← arrV_new]
          have o1 : ∀ q : Nat, q < x_sz w → H1[q]? = H[q]? := fun q hq => by rw [← hH1, Array.getElem?_push, if_neg (by rw [hok.1]; exact Nat.ne_of_lt hq)]
          rw [hok.1]
          exact kk H1 locs ls (hok.new hb0 z1 o1 ⟨fun h => by omega, fun _ => ⟨⟨_, x_aty_arr ha2⟩, e1⟩⟩) (x_S_new hS (by rw [z1, hok.1]) (fun q hq => o1 q (by rw [← hok.1]; exact hq))) hl rfl
        next => cases hst'
      next => cases hst'
    next => cases hst'
  | arraylength =>
    obtain rfl := hk 1 rfl
    have hst' := hst
    unfold xI at hst'
    dsimp only at hst'
    split at hst'
    next a r =>
      split at hst'
      next t n htg =>
        split at hst'
        next ht =>
          obtain ⟨rfl, rfl, rfl, rfl⟩ := x_go_inj hst'
          obtain ⟨⟨ty, hty⟩, hcell⟩ := x_cellA hok htg ht
          exact W.alen (n := Int32.ofNat n) hx hb hcell ((hK.2.1 t ty hty).1 n _) (by rw [arrV_size] <;> rfl) rfl rfl hd (k0 rfl ls hl rfl)
        next => cases hst'
      next =>
        split at hst'
        next n f hro =>
          split at hst'
          next ha =>
            obtain ⟨rfl, rfl, rfl, rfl⟩ := x_go_inj hst'
            obtain ⟨cell, g1, g2, g3, g4, g5, g6, g7⟩ := hK.2.2.2.2.2.1 a n f hro
            have hb1 := hK.2.2.2.2.2.2.1
            exact W.alen (n := Int32.ofNat n) hx hb (by rw [hS.2.1 a (by omega) (by omega)]; exact g2) g3 (by rw [g6 ha] <;> rfl) rfl rfl hd (k0 rfl ls hl rfl)
          next => cases hst'
        next => cases hst'
    next => cases hst'
  | iaload =>
    obtain rfl := hk 1 rfl
    have hst' := hst
    unfold xI at hst'
    dsimp only at hst'
    split at hst'
    next i a r =>
      split at hst'
      next t n htg =>
        split at hst'
        next ht =>
          obtain ⟨rfl, rfl, rfl, rfl⟩ := x_go_inj hst'
          obtain ⟨rfl, hin⟩ := ht
          obtain ⟨-, hcell⟩ := x_cellA hok htg (by omega)
          exact W.iald hx hb hcell ((hK.2.1 20 .int rfl).1 n _) (fun q => by cases q) (x_inA hin) (by rw [arrV_read _ _ hin.2]) rfl rfl hd (k0 rfl ls hl rfl)
        next => cases hst'
      next =>
        split at hst'
        next n f hro =>
          split at hst'
          next hin =>
            obtain ⟨rfl, rfl, rfl, rfl⟩ := x_go_inj hst'
            obtain ⟨cell, g1, g2, g3, g4, g5, g6, g7⟩ := hK.2.2.2.2.2.1 a n f hro
            have hb1 := hK.2.2.2.2.2.2.1
            refine W.iald (v := .int (f i.toNatClampNeg)) hx hb (by rw [hS.2.1 a (by omega) (by omega)]; exact g2) g3 g4 ?_ (g7 _ hin.2) rfl rfl hd (k0 rfl ls hl rfl)
            rintro (q | q)
            · exact hin.1 q
            · have := hin.2; omega
          next => cases hst'
        next => cases hst'
    next => cases hst'
  | baload =>
    obtain rfl := hk 1 rfl
    have hst' := hst
    unfold xI at hst'
    dsimp only at hst'
    split at hst'
    next i a r =>
      split at hst'
      next t n htg =>
        split at hst'
        next ht =>
          obtain ⟨rfl, rfl, rfl, rfl⟩ := x_go_inj hst'
          obtain ⟨rfl, hin⟩ := ht
          obtain ⟨-, hcell⟩ := x_cellA hok htg (by omega)
          exact W.zald hx hb hcell ((hK.2.1 21 .boolean rfl).1 n _) (fun q => by cases q) (x_inA hin) (by rw [arrV_read _ _ hin.2]) rfl rfl hd (k0 rfl ls hl rfl)
        next => cases hst'
      next => cases hst'
    next => cases hst'
  | aaload =>
    obtain rfl := hk 1 rfl
    have hst' := hst
    unfold xI at hst'
    dsimp only at hst'
    split at hst'
    next i a r =>
      split at hst'
      next t n htg =>
        split at hst'
        next ht =>
          obtain ⟨rfl, rfl, rfl, rfl⟩ := x_go_inj hst'
          obtain ⟨ht, hin⟩ := ht
          obtain ⟨⟨ty, hty⟩, hcell⟩ := x_cellA hok htg (by omega)
          exact W.aald (ty := ty) hx hb hcell ((hK.2.1 t ty hty).1 n _) (x_aty_ref hty ht) (fun q => by cases q) (x_inA hin) (by rw [arrV_read _ _ hin.2]) rfl rfl hd (k0 rfl ls hl rfl)
        next => cases hst'
      next => cases hst'
    next => cases hst'
  | iastore =>
    obtain rfl := hk 1 rfl
    have hst' := hst
    unfold xI at hst'
    dsimp only at hst'
    split at hst'
    next x i a r =>
      split at hst'
      next t n htg =>
        split at hst'
        next ht =>
          obtain ⟨rfl, rfl, rfl, rfl⟩ := x_go_inj hst'
          obtain ⟨rfl, hin⟩ := ht
          obtain ⟨-, hcell⟩ := x_cellA hok htg (by omega)
          exact W.iast hx hb hcell ((hK.2.1 20 .int rfl).1 n _) (fun q => by cases q) (x_inA hin) rfl rfl hd fun H1 e1 z oq => k1 rfl rfl H1 _ ls (x_ok_arr hok htg (by omega) e1 z oq) (hS.put z oq (hok.2 a _ n htg).1) hl rfl
        next => cases hst'
      next => cases hst'
    next => cases hst'
  | bastore =>
    obtain rfl := hk 1 rfl
    have hst' := hst
    unfold xI at hst'
    dsimp only at hst'
    split at hst'
    next x i a r =>
      split at hst'
      next t n htg =>
        split at hst'
        next ht =>
          obtain ⟨rfl, rfl, rfl, rfl⟩ := x_go_inj hst'
          obtain ⟨hx01, rfl, hin⟩ := ht
          obtain ⟨-, hcell⟩ := x_cellA hok htg (by omega)
          have hnar : narrow .boolean (.int x) = .int x := by rcases hx01 with rfl | rfl <;> rfl
          refine W.zast hx hb hcell ((hK.2.1 21 .boolean rfl).1 n _) (fun q => by cases q) (x_inA hin) rfl rfl hd fun H1 e1 z oq => ?_
          rw [hnar] at e1
          exact k1 rfl rfl H1 _ ls (x_ok_arr hok htg (by omega) e1 z oq) (hS.put z oq (hok.2 a _ n htg).1) hl rfl
        next => cases hst'
      next => cases hst'
    next => cases hst'
  | aastore =>
    obtain rfl := hk 1 rfl
    have hst' := hst
    unfold xI at hst'
    dsimp only at hst'
    split at hst'
    next i a r =>
      split at hst'
      next t n htg =>
        split at hst'
        next ht =>
          obtain ⟨rfl, rfl, rfl, rfl⟩ := x_go_inj hst'
          obtain ⟨ht, hin⟩ := ht
          obtain ⟨⟨ty, hty⟩, hcell⟩ := x_cellA hok htg (by omega)
          obtain ⟨Cn, rfl⟩ := x_aty_obj hty ht
          exact va_WaastN hx hb hcell ((hK.2.1 t _ hty).1 n _) (fun q => by cases q) (x_inA hin) rfl rfl hd fun H1 e1 z oq => k1 rfl rfl H1 _ ls (x_ok_arr hok htg (by omega) e1 z oq) (hS.put z oq (hok.2 a _ n htg).1) hl rfl
        next => cases hst'
      next => cases hst'
    next v i a r =>
      split at hst'
      next t n tv nv htg htv =>
        split at hst'
        next ht =>
          obtain ⟨rfl, rfl, rfl, rfl⟩ := x_go_inj hst'
          obtain ⟨rfl, htv20, hin⟩ := ht
          obtain ⟨⟨ty, hty⟩, hcell⟩ := x_cellA hok htg (by omega)
          obtain rfl := x_aty_cls hty
          obtain ⟨hcv, -, cellV, q1, q2, q3, -⟩ := (hok.2 v tv nv htv).2.2.1 htv20
          obtain ⟨-, hcls⟩ := hK.1.1 tv _ hcv
          obtain ⟨-, kA, comp, f1, f2, f3, -⟩ := hK.2.1 (30 + tv) _ hty
          have hcomp : comp = D.1 tv := Option.some.inj (f3.symm.trans hcls.1)
          subst hcomp
          obtain ⟨kC, hkC, -⟩ := hcls.2
          exact W.aast hx hb hcell (fun q h => by cases h) (fun h => by cases h) f1 f2 rfl hkC ⟨hin.1, by rw [arrV_size]; exact hin.2⟩ q1 (fun q h => by rw [q3] at h; cases h) (by rw [q2]; exact hkC) (by rw [q2]; exact va_assign hcls) rfl rfl hd fun H1 e1 z oq => k1 rfl rfl H1 _ ls (x_ok_arr hok htg (by omega) e1 z oq) (hS.put z oq (hok.2 a _ n htg).1) hl rfl
        next => cases hst'
      next => cases hst'
    next => cases hst'
  | instanceof idx =>
    obtain rfl := hk 3 rfl
    have hst' := hst
    unfold xI at hst'
    dsimp only at hst'
    split at hst'
    next r =>
      obtain ⟨rfl, rfl, rfl, rfl⟩ := x_go_inj hst'
      exact lv_instN hx hb hd (k0 rfl ls hl rfl)
    next a r =>
      split at hst'
      next t n u htg hu =>
        split at hst'
        next ht =>
          obtain ⟨hu1, hu2, hu3⟩ := x_tC_ok hu
          obtain ⟨hcv, -, cellV, q1, q2, q3, -⟩ := (hok.2 a t n htg).2.2.1 (x_things_lt ht)
          have hrv : ∃ cell : Cell, H[a]? = some cell ∧ cell.vm.isStatics = false ∧ s.vm.findClass (x_cn t) = some cell.cls := ⟨cellV, q1, by rw [q3]; rfl, by rw [q2]; exact (hK.1.1 t _ hcv).2.1⟩
          split at hst'
          next htu =>
            subst htu
            obtain ⟨rfl, rfl, rfl, rfl⟩ := x_go_inj hst'
            exact va_instS hx hb hown (hts _ hu1) (hK.1.1 t _ hcv).2 hrv hd (k0 rfl ls hl rfl)
          next htu =>
            obtain ⟨rfl, rfl, rfl, rfl⟩ := x_go_inj hst'
            exact va_instNo hx hb hown (hts _ hu1) (hK.2.2.2.1 t ht u hu3 htu) hrv hd (k0 rfl ls hl rfl)
        next => cases hst'
      next => cases hst'
    next => cases hst'
  | checkcast idx =>
    obtain rfl := hk 3 rfl
    have hst' := hst
    unfold xI at hst'
    dsimp only at hst'
    split at hst'
    next r =>
      obtain ⟨rfl, rfl, rfl, rfl⟩ := x_go_inj hst'
      exact lv_castN hx hb hd (k0 rfl ls hl rfl)
    next a r =>
      split at hst'
      next t n u htg hu =>
        split at hst'
        next htu =>
          subst htu
          obtain ⟨rfl, rfl, rfl, rfl⟩ := x_go_inj hst'
          obtain ⟨hu1, hu2, hu3⟩ := x_tC_ok hu
          obtain ⟨hcv, -, cellV, q1, q2, q3, -⟩ := (hok.2 a t n htg).2.2.1 (x_things_lt hu2)
          exact va_castS hx hb hown (hts _ hu1) (hK.1.1 t _ hcv).2 ⟨cellV, q1, by rw [q3]; rfl, by rw [q2]; exact (hK.1.1 t _ hcv).2.1⟩ hd (k0 rfl ls hl rfl)
        next => cases hst'
      next => cases hst'
    next => cases hst'
  | invokespecial idx =>
    obtain rfl := hk 3 rfl
    have hst' := hst
    unfold xI at hst'
    dsimp only at hst'
    split at hst'
    next u hM =>
      split at hst'
      next a r =>
        split at hst'
        next hr =>
          obtain ⟨rfl, rfl, rfl, rfl⟩ := x_go_inj hst'
          obtain ⟨g1, g2, g3⟩ := x_tM3_ok hM
          refine W.objInit hx hb hown (hts _ g1) (hts _ g2) (hts _ g3) rfl hsize rfl hd (by omega) ?_ (k0 rfl ls hl rfl)
          rw [x_cat_sum hr.2.1]
          have h0 : ∀ z : List Value, 2 * (F0 m pc ls z).monitorRoom + (([] : List Value).map fun v => v.category).sum ≤ 8 := fun z => lv_room (by simp)
          have h1 := h0 (.ref a :: st')
          simp only [List.map_nil, List.sum_nil] at h1
          have h2 : (F0 m pc ls (.ref a :: st')).monitorRoom = 0 := rfl
          rw [h2]
          omega
        next => cases hst'
      next => cases hst'
    next => cases hst'
  | _ => exact absurd (show (none : Option xO) = _ from hst) (fun h => by cases h)
end XT
