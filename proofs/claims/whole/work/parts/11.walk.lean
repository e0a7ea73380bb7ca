/-- a method's words, its room -/
def x_ws (mi : Nat) : List Cond := Cond.code (xm_y mi) (xm_b mi) (xm_max mi) (xm_rt mi) :: x_GW
def x_rm (mi : Nat) (w w' : xH) : Room := { frames := xm_dep mi, cells := x_sz w' - x_sz w, slots := x_sl w' - x_sl w, locals := xm_loc mi }
theorem x_goodC {mj : Nat} (h : xm_ok mj = true) : GoodIn x_GW (x_ws mj) := fun w hw => by
  have hm : w ∈ x_GW := by
    rcases List.mem_cons.mp hw with rfl | hw
    · exact x_code_ok h
    · exact hw
  exact ⟨hm, x_GW_good hm⟩
theorem x_goodV {own C : String} {idx mj : Nat} (h : xm_ok mj = true) (g1 : Cond.methodLink own idx (xm_y mj) ∈ x_GW) (g2 : Cond.instanceMethod (xm_y mj) ∈ x_GW) (g3 : Cond.selects C (xm_y mj) (xm_y mj) ∈ x_GW) (g4 : Cond.initialized C ∈ x_GW) : GoodIn x_GW (wsV own idx C (xm_y mj) (x_ws mj)) := fun w hw => by
  unfold wsV at hw
  rcases List.mem_append.mp hw with hw | hw
  · have hm : w ∈ x_GW := by
      simp only [List.mem_cons, List.not_mem_nil, or_false] at hw
      rcases hw with rfl | rfl | rfl | rfl
      · exact g1
      · exact g2
      · exact g3
      · exact g4
    exact ⟨hm, x_GW_good hm⟩
  · exact x_goodC h w hw
theorem x_take {st : List Value} {k : Nat} {x : Value} (h : st[k]? = some x) : (st.take (k + 1)).reverse = x :: (st.take k).reverse ∧ st = (st.take k).reverse.reverse ++ x :: st.drop (k + 1) := by
  have hk : k < st.length := (List.getElem?_eq_some_iff.mp h).1
  have hx : st[k] = x := (List.getElem?_eq_some_iff.mp h).2
  constructor
  · rw [List.take_succ, h]
    simp
  · rw [List.reverse_reverse, ← hx, ← List.drop_eq_getElem_cons hk]
    exact (List.take_append_drop k st).symm
section XW
variable {p : Program} {l : Launch} {e : Env} {R : Room} {s : State} {m : MethodId} {args : Array Value} {below : List Frame} {meth : Method} {c : Code} {Q : State → Prop}
variable {D : xD} {P : xP} {b0 mi : Nat} {v : Option Value} {w' : xH}
/-- what is said of every call of fuel n -/
def x_Met (l : Launch) (D : xD) (P : xP) (b0 n : Nat) : Prop := ∀ (mj : Nat) (as : List Value) (w1 w2 : xH) (v1 : Option Value), xm_ok mj = true → as.length = xm_na mj → as.all x_cat1 = true → ex P n mj 0 (x_en mj as) [] w1 = some (v1, w2) →
  Met l (xm_y mj) (x_ws mj) (x_rm mj w1 w2) (x_Pc D P b0 as w1) (x_Qc D b0 v1 w2) (x_sz w2 - x_sz w1) (x_sl w2 - x_sl w1) (fun q => b0 ≤ q)
theorem x_all_take {st : List Value} (h : st.all x_cat1 = true) (k : Nat) : (st.take k).reverse.all x_cat1 = true := by
  rw [List.all_eq_true] at h ⊢
  intro q hq
  exact h q (List.mem_of_mem_take (List.mem_reverse.mp hq))
theorem x_all_drop {st : List Value} (h : st.all x_cat1 = true) (k : Nat) : (st.drop k).all x_cat1 = true := by
  rw [List.all_eq_true] at h ⊢
  intro q hq
  exact h q (List.mem_of_mem_drop hq)
theorem x_call_inj {mj mk : Nat} {st as rest : List Value} (h : x_call mi mj st = some (mk, as, rest)) : mk = mj ∧ as = (st.take (xm_na mj)).reverse ∧ rest = st.drop (xm_na mj) ∧ xm_na mj ≤ st.length ∧ rest.length ≤ 8 ∧ xm_dep mj < xm_dep mi ∧ 19 + xm_max mj + xm_loc mj ≤ xm_loc mi ∧ st.all x_cat1 = true := by
  unfold x_call at h
  split at h
  next hc =>
    simp only [Option.some.injEq, Prod.mk.injEq] at h
    obtain ⟨rfl, rfl, rfl⟩ := h
    exact ⟨rfl, rfl, rfl, hc⟩
  next => cases h
set_option maxHeartbeats 4000000 in
set_option maxRecDepth 100000 in
theorem x_walk (C : x_Cx p s m args meth c D P b0 mi) (hfr : xm_dep mi ≤ R.frames) (hlc : xm_loc mi ≤ R.locals) {Kc Ks : Nat} (hKc : Kc ≤ R.cells) (hKs : Ks ≤ R.slots)
    (hend : ∀ (ins : Instr) (pc : Nat) (ls : Array Slot) (st : List Value) (H : Heap) (locs : List Loc), (∃ n, decode (xm_b mi) pc = .ok (ins, n) ∧ ∀ k, x_len ins = some k → n = k) → x_ret ins mi st = some v → x_ok D b0 w' H → va_S (fun q => b0 ≤ q) s.heap H locs → W p l e R s m args below meth c H locs Kc Ks Q (F0 m pc ls st)) :
    ∀ (n : Nat), (∀ k, k < n → x_Met l D P b0 k) → ∀ (pc : Nat) (lo : List (Option Value)) (st : List Value) (w : xH) (H : Heap) (locs : List Loc) (cells slots : Nat) (ls : Array Slot), ex P n mi pc lo st w = some (v, w') → x_ok D b0 w H → va_S (fun q => b0 ≤ q) s.heap H locs → x_lr ls lo → lo.length = xm_max mi → cells + (x_sz w' - x_sz w) = Kc → slots + (x_sl w' - x_sl w) = Ks →
      W p l e R s m args below meth c H locs cells slots Q (F0 m pc ls st) := by
  intro n
  induction n with
  | zero => intro _ pc lo st w H locs cells slots ls h; simp [ex] at h
  | succ n ih =>
    intro IH pc lo st w H locs cells slots ls h hok hS hl hlo hcc hcs
    have ih := ih (fun k hk => IH k (by omega))
    obtain ⟨ins, hct, h1 | h1 | h1⟩ := ex_succ h
    · obtain ⟨v', hv, e1⟩ := h1
      cases e1
      rw [Nat.sub_self, Nat.add_zero] at hcc hcs
      subst hcc; subst hcs
      exact hend ins pc ls st H locs (x_ct_ok hct) hv hok hS
    · obtain ⟨-, mj, as, rest, v1, w1, hi, h2, h3⟩ := h1
      have a1 := ex_mono n h2
      have a2 := ex_mono n h3
      obtain ⟨nn, hd, hk⟩ := x_ct_ok hct
      have hts := C.2.2.2.2.1
      have fin : ∀ (H1 : Heap) (locs1 : List Loc), x_ok D b0 w1 H1 → va_S (fun q => b0 ≤ q) s.heap H1 locs1 → W p l e R s m args below meth c H1 locs1 (cells + (x_sz w1 - x_sz w)) (slots + (x_sl w1 - x_sl w)) Q (F0 m (pc + 3) ls (v1.toList ++ rest)) :=
        fun H1 locs1 g1 g2 => ih (pc + 3) lo (v1.toList ++ rest) w1 H1 locs1 _ _ ls h3 g1 g2 hl hlo (by omega) (by omega)
      have hsz : ls.size = xm_max mi := by rw [hl.1.1, hlo]
      have Fx : CallFix p m c (xm_b mi) (xm_max mi) s args x_GW (x_cn (xm_own mi)) := ⟨C.1, C.2.1, C.2.2.1, C.2.2.2.1, hts⟩
      have room : ∀ mj, xm_dep mj < xm_dep mi → 19 + xm_max mj + xm_loc mj ≤ xm_loc mi → (x_rm mj w w1).frames + 1 ≤ R.frames ∧ 8 + (xm_max mj + 11) + (x_rm mj w w1).locals ≤ R.locals := by
        intro mj h1 h2
        refine ⟨?_, ?_⟩
        · show xm_dep mj + 1 ≤ R.frames
          omega
        · show 8 + (xm_max mj + 11) + xm_loc mj ≤ R.locals
          omega
      have hcf : cells + (x_sz w1 - x_sz w) ≤ R.cells ∧ slots + (x_sl w1 - x_sl w) ≤ R.slots := ⟨by omega, by omega⟩
      cases ins with
      | invokevirtual idx =>
        obtain rfl := hk 3 rfl
        have hi' : (match x_tM (xm_own mi) idx with
          | some (0, mj) => (match st[xm_na mj - 1]? with
            | some (.ref b) => (match x_tg w b with
              | some (t, _) => if t = xm_own mj then x_call mi mj st else none
              | none => none)
            | _ => none)
          | _ => none) = some (mj, as, rest) := hi
        split at hi'
        next mk hM =>
          split at hi'
          next b hb1 =>
            split at hi'
            next t n' htg =>
              split at hi'
              next ht =>
                subst ht
                obtain ⟨rfl, rfl, rfl, hna, hrl, hdep, hloc, hall⟩ := x_call_inj hi'
                obtain ⟨hmok, hna1, g1, g2, g3, g4, g5, g6⟩ := x_tM0_ok hM
                obtain ⟨f1, f2, f3⟩ := xm_facts hmok
                have hmet := IH n (Nat.lt_succ_self n) mj _ w w1 v1 hmok (by simp; omega) (x_all_take hall _) h2
                have e1 : xm_na mj = (xm_na mj - 1) + 1 := by omega
                obtain ⟨t1, t2⟩ := x_take hb1
                rw [← e1] at t1 t2
                rw [t1] at hmet
                obtain ⟨hcv, -, cellV, q1, q2, q3, -⟩ := (hok.2 b _ n' htg).2.2.1 g5
                refine x_goes (va_runV (b := b) (As := (st.take (xm_na mj - 1)).reverse) (rest := st.drop (xm_na mj)) Fx hmet (cwV (C := x_cn (xm_own mj)) (bytes := xm_b mj) (maxL := xm_max mj) (ret := xm_rt mj) (ws' := x_GW) (xm_na mj - 1) hts (x_goodV hmok g1 g2 g3 g4) rfl rfl rfl ⟨f3.1, f3.2.1, f3.2.2, g6⟩ (room mj hdep hloc)) ⟨x_blind, ⟨cellV, q1, by rw [q3]; rfl, by rw [q2]; exact (C.2.2.2.2.2.1.1.1 _ _ hcv).2.1⟩, fun U hU hW => x_pre C hok hS _ U hU hW⟩ rfl (by simp; omega) hsz t2 (lv_room (by rw [x_cat_sum (x_all_drop hall _)]; exact hrl)) hd hcf) hS fin
              next => cases hi'
            next => cases hi'
          next => cases hi'
        next => cases hi'
      | invokespecial idx =>
        obtain rfl := hk 3 rfl
        have hi' : (match x_tM (xm_own mi) idx with
          | some (1, mj) => (match st[xm_na mj - 1]? with
            | some (.ref _) => x_call mi mj st
            | _ => none)
          | some (4, mj) => (match st[xm_na mj - 1]? with
            | some (.ref _) => x_call mi mj st
            | _ => none)
          | _ => none) = some (mj, as, rest) := hi
        split at hi'
        next mk hM =>
          split at hi'
          next b hb1 =>
            obtain ⟨rfl, rfl, rfl, hna, hrl, hdep, hloc, hall⟩ := x_call_inj hi'
            obtain ⟨hmok, hna1, g1, g2, g3, g4, g5, g6⟩ := x_tM1_ok hM
            obtain ⟨f1, f2, f3⟩ := xm_facts hmok
            have hmet := IH n (Nat.lt_succ_self n) mj _ w w1 v1 hmok (by simp; omega) (x_all_take hall _) h2
            have e1 : xm_na mj = (xm_na mj - 1) + 1 := by omega
            obtain ⟨t1, t2⟩ := x_take hb1
            rw [← e1] at t1 t2
            rw [t1] at hmet
            refine x_goes (va_runI (b := b) (As := (st.take (xm_na mj - 1)).reverse) (rest := st.drop (xm_na mj)) (bytes := xm_b mj) (maxL := xm_max mj) (n := xm_na mj - 1) Fx hmet ⟨?_, g4, hts _ g2⟩ ⟨x_blind, fun U hU hW => x_pre C hok hS _ U hU hW⟩ rfl (by simp; omega) hsz t2 (lv_room (by rw [x_cat_sum (x_all_drop hall _)]; exact hrl)) hd hcf) hS fin
            exact callB_of (Ts := x_GW) (ws' := x_GW) (xm_na mj - 1) hts (x_goodC hmok) (by unfold x_ws; rw [g5]) rfl rfl (hts _ g3) (hts _ g1) ⟨f3.2.1, f3.2.2, g6⟩ (room mj hdep hloc)
          next => cases hi'
        next mk hM =>
          split at hi'
          next b hb1 =>
            obtain ⟨rfl, rfl, rfl, hna, hrl, hdep, hloc, hall⟩ := x_call_inj hi'
            obtain ⟨hmok, hna1, g1, g2, g3, g4, g5, g6⟩ := x_tM4_ok hM
            obtain ⟨f1, f2, f3⟩ := xm_facts hmok
            have hmet := IH n (Nat.lt_succ_self n) mj _ w w1 v1 hmok (by simp; omega) (x_all_take hall _) h2
            have e1 : xm_na mj = (xm_na mj - 1) + 1 := by omega
            obtain ⟨t1, t2⟩ := x_take hb1
            rw [← e1] at t1 t2
            rw [t1] at hmet
            refine x_goes (va_runIN (b := b) (As := (st.take (xm_na mj - 1)).reverse) (rest := st.drop (xm_na mj)) (bytes := xm_b mj) (maxL := xm_max mj) (n := xm_na mj - 1) (host := "CapTreeKernel") Fx hmet ⟨?_, g4, hts _ g2⟩ ⟨x_blind, fun U hU hW => x_pre C hok hS _ U hU hW⟩ rfl (by simp; omega) hsz t2 (lv_room (by rw [x_cat_sum (x_all_drop hall _)]; exact hrl)) hd hcf) hS fin
            exact va_cnB (Ts := x_GW) (ws' := x_GW) (xm_na mj - 1) hts (x_goodC hmok) (by unfold x_ws; rw [g5]) rfl rfl (C.2.2.2.2.2.1.2.2.2.2.2.2.2 _ g1) (hts _ g3) ⟨f3.2.1, f3.2.2, g6⟩ (room mj hdep hloc)
          next => cases hi'
        next => cases hi'
      | invokestatic idx =>
        obtain rfl := hk 3 rfl
        have hi' : (match x_tM (xm_own mi) idx with
          | some (2, mj) => x_call mi mj st
          | _ => none) = some (mj, as, rest) := hi
        split at hi'
        next mk hM =>
          obtain ⟨rfl, rfl, rfl, hna, hrl, hdep, hloc, hall⟩ := x_call_inj hi'
          obtain ⟨hmok, g1, g2, g3, g4⟩ := x_tM2_ok hM
          obtain ⟨f1, f2, f3⟩ := xm_facts hmok
          have hmet := IH n (Nat.lt_succ_self n) mj _ w w1 v1 hmok (by simp; omega) (x_all_take hall _) h2
          refine x_goes (va_runS (As := (st.take (xm_na mj)).reverse) (rest := st.drop (xm_na mj)) (bytes := xm_b mj) (maxL := xm_max mj) (ret := xm_rt mj) (n := xm_na mj) Fx hmet ⟨?_, hts _ g2⟩ ⟨x_blind, fun U hU hW => x_pre C hok hS _ U hU hW⟩ rfl (by simp; omega) hsz (by rw [List.reverse_reverse]; exact (List.take_append_drop _ st).symm) (lv_room (by rw [x_cat_sum (x_all_drop hall _)]; exact hrl)) hd hcf) hS fin
          exact callB_of (Ts := x_GW) (ws' := x_GW) (xm_na mj) hts (x_goodC hmok) rfl rfl rfl (hts _ g3) (hts _ g1) ⟨f3.2.1, f3.2.2, g4⟩ (room mj hdep hloc)
        next => cases hi'
      | _ => exact absurd (show (none : Option (Nat × List Value × List Value)) = _ from hi) (fun h => by cases h)
    · obtain ⟨-, -, pc', lo', st', w1, h2, h3⟩ := h1
      have a1 := xI_mono h2
      have a2 := ex_mono n h3
      refine x_step C hok hS hl hlo (x_ct_ok hct) h2 hfr hlc (by omega) (by omega) fun H1 locs1 ls1 g1 g2 g3 g4 => ?_
      exact ih pc' lo' st' w1 H1 locs1 _ _ ls1 h3 g1 g2 g3 (g4.trans hlo) (by omega) (by omega)
theorem x_end (C : x_Cx p s m args meth c D P b0 mi) (hm : xm_ok mi = true) (hr : meth.sig.returnType = xm_rt mi) (hlocks : meth.locks = false) {cells slots pc : Nat} {H : Heap} {locs : List Loc} {ls : Array Slot} {st : List Value} {w : xH} {ins : Instr} (hd : ∃ n, decode (xm_b mi) pc = .ok (ins, n) ∧ ∀ k, x_len ins = some k → n = k) (hv : x_ret ins mi st = some v) (hok : x_ok D b0 w H) (hS : va_S (fun q => b0 ≤ q) s.heap H locs) :
    W p l e R s m args below meth c H locs cells slots (MQ below (x_Qc D b0 v w) args s cells slots (fun q => b0 ≤ q)) (F0 m pc ls st) := by
  obtain ⟨nn, hd, hk⟩ := hd
  obtain ⟨r0, r1, r2, r3⟩ := xm_rets hm
  cases ins with
  | ireturn =>
    obtain rfl := hk 1 rfl
    have hv' := hv
    unfold x_ret at hv'
    dsimp only at hv'
    split at hv'
    next x =>
      split at hv'
      next hc =>
        cases hv'
        rcases hc with hc | ⟨hc, h01⟩
        · exact W.iret C.1 C.2.1 (by rw [hr]; exact r1 hc) (fun t ht hW => ⟨rfl, by rw [ht]; exact hok, hS.F ht⟩) hS.2.2 hd hlocks
        · exact W.zret (ty := .boolean) C.1 C.2.1 (by rw [hr]; exact r2 hc) (by rcases h01 with rfl | rfl <;> rfl) (fun t ht hW => ⟨rfl, by rw [ht]; exact hok, hS.F ht⟩) hS.2.2 hd hlocks
      next => cases hv'
    next => cases hv'
  | areturn =>
    obtain rfl := hk 1 rfl
    have hv' := hv
    unfold x_ret at hv'
    dsimp only at hv'
    split at hv'
    next a =>
      split at hv'
      next hc =>
        cases hv'
        obtain ⟨cn, hcn⟩ := r3 hc
        exact W.aret (rt := .object cn) C.1 C.2.1 (by rw [hr]; exact hcn) (Or.inl ⟨cn, rfl⟩) (Or.inr ⟨a, rfl⟩) (fun t ht hW => ⟨rfl, by rw [ht]; exact hok, hS.F ht⟩) hS.2.2 hd hlocks
      next => cases hv'
    next =>
      split at hv'
      next hc =>
        cases hv'
        obtain ⟨cn, hcn⟩ := r3 hc
        exact W.aret (rt := .object cn) C.1 C.2.1 (by rw [hr]; exact hcn) (Or.inl ⟨cn, rfl⟩) (Or.inl rfl) (fun t ht hW => ⟨rfl, by rw [ht]; exact hok, hS.F ht⟩) hS.2.2 hd hlocks
      next => cases hv'
    next => cases hv'
  | return_ =>
    obtain rfl := hk 1 rfl
    have hv' := hv
    unfold x_ret at hv'
    dsimp only at hv'
    split at hv'
    next =>
      split at hv'
      next hc =>
        cases hv'
        exact W.vret C.1 C.2.1 (by rw [hr]; exact r0 hc) (fun t ht hW => ⟨rfl, by rw [ht]; exact hok, hS.F ht⟩) hS.2.2 hd hlocks
      next => cases hv'
    next => cases hv'
  | _ => exact absurd (show (none : Option (Option Value)) = _ from hv) (fun h => by cases h)
theorem x_args_in : ∀ (as : List Value) (i j : Nat) (v : Value), as.all x_cat1 = true → as[j]? = some v → (i + j, v) ∈ lv_args i as := by
  intro as
  induction as with
  | nil => intro i j v _ h; simp at h
  | cons a as ih =>
    intro i j v hall h
    rw [List.all_cons, Bool.and_eq_true] at hall
    have hc := x_cat1_cat hall.1
    unfold lv_args
    cases j with
    | zero =>
      simp at h
      subst h
      exact List.mem_cons_self
    | succ j =>
      have := ih (i + 1) j v hall.2 (by simpa using h)
      rw [if_neg (by omega)]
      rw [show i + (j + 1) = i + 1 + j by omega]
      exact List.mem_cons_of_mem _ this
theorem x_sl_len {as : List Value} (h : as.all x_cat1 = true) : (lg_sl as).length = as.length := by
  induction as with
  | nil => rfl
  | cons a as ih =>
    rw [List.all_cons, Bool.and_eq_true] at h
    have hc := x_cat1_cat h.1
    have h1 := ih h.2
    unfold lg_sl at h1 ⊢
    rw [List.flatMap_cons, List.length_append, h1, if_neg (by omega)]
    simp
    omega
theorem x_en_len {mj : Nat} {as : List Value} (h : as.length ≤ xm_max mj) : (x_en mj as).length = xm_max mj := by
  unfold x_en
  simp
  omega
theorem x_entry {mj : Nat} {as : List Value} (hall : as.all x_cat1 = true) (h : as.length ≤ xm_max mj) : x_lr ((lg_sl as ++ List.replicate (xm_max mj - (lg_sl as).length) Slot.unset).toArray) (x_en mj as) := by
  have h0 := lv_entry as (n := xm_max mj) (by rw [x_sl_len hall]; exact h)
  have key : ∀ (j : Nat) (v : Value), (x_en mj as)[j]? = some (some v) → as[j]? = some v := by
    intro j v hj
    unfold x_en at hj
    by_cases hlt : j < as.length
    · rw [List.getElem?_append_left (by simpa using hlt), List.getElem?_map] at hj
      cases hq : as[j]? with
      | none => rw [hq] at hj; cases hj
      | some u => rw [hq] at hj; simpa using hj
    · rw [List.getElem?_append_right (by simpa using hlt)] at hj
      have := List.eq_of_mem_replicate (List.mem_of_getElem? hj)
      cases this
  refine ⟨⟨by rw [x_en_len h]; exact h0.1, h0.2.1, fun q hq => ?_⟩, fun j v hj => ?_⟩
  · obtain ⟨j, v⟩ := q
    have := x_args_in as 0 j v hall (key j v (x_kn_mem.mp hq))
    rw [Nat.zero_add] at this
    exact h0.2.2 _ this
  · exact x_cat1_cat (List.all_eq_true.mp hall v (List.mem_of_getElem? (key j v hj)))
set_option maxHeartbeats 4000000 in
/-- THE MACHINE IS SOUND: what it computes of a method is that method's contract -/
theorem x_sound (l : Launch) (D : xD) (P : xP) (b0 : Nat) : ∀ n, x_Met l D P b0 n := by
  intro n
  induction n using Nat.strongRecOn with
  | ind n ih =>
    intro mj as w1 w2 v1 hm hna hall hex
    obtain ⟨f1, f2, f3⟩ := xm_facts hm
    refine Met.ofW (cc := xm_b mj) (maxL := xm_max mj) (ret := xm_rt mj) (xm_plain hm) rfl ?_
    intro p e s m args below meth c s₁ B hml hv
    obtain ⟨rfl, hok, hK⟩ := hv
    have hts : ∀ w ∈ x_GW, w.before as.toArray s = true := fun w h => atoms_spec (ws := x_ws mj) B.pre w (List.mem_cons_of_mem _ h)
    have C : x_Cx p s m as.toArray meth c D P b0 mj := ⟨B.exec, B.bytes, hml, by rw [← f3.1]; exact findClass_of_methodNamed B.named, hts, hK, fun h => by rw [(name_of_methodNamed B.named B.method).1]; exact xm_init hm h⟩
    rw [lg_entry_eq]
    exact x_walk (R := x_rm mj w1 w2) C (Nat.le_refl _) (Nat.le_refl _) (Nat.le_refl _) (Nat.le_refl _) (fun ins pc ls st H locs hd hv' hok' hS' => x_end C hm B.returns B.notSynchronized hd hv' hok' hS') n ih 0 (x_en mj as) [] w1 s.heap [] 0 0 _ hex hok va_S.rf (x_entry hall (by omega)) (x_en_len (by omega)) (Nat.zero_add _) (Nat.zero_add _)
end XW
