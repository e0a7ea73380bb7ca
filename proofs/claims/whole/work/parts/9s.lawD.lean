/-! ===== what the premises give at the law's entry ===== -/
set_option maxRecDepth 100000 in
theorem xl_cls : ((List.range 12).all (fun t => decide (Cond.instantiable (x_cn t) (x_N t) ∈ lw_tbl))) = true := by decide +kernel
set_option maxRecDepth 100000 in
theorem xl_ao : (x_arrs.all (fun t => decide (Cond.arrayOver (.object (x_cn t)) ∈ lw_tbl))) = true := by decide +kernel
set_option maxRecDepth 100000 in
theorem xl_nc : (x_things.all (fun t => x_tgts.all (fun u => decide (t = u) || decide (Cond.not (.castable (x_cn t) (x_cn u)) ∈ flatC (Jvm.Cond.and given_1 narrow_1))))) = true := by decide +kernel
set_option maxRecDepth 100000 in
theorem xl_nest : (x_nestL.all (fun q => decide (Cond.methodLinkNest (x_cn q.1) q.2.1 (xm_y q.2.2) "CapTreeKernel" ∈ lw_tbl))) = true := by decide +kernel
set_option maxRecDepth 100000 in
theorem xl_lay : Cond.laysStatic "CapTreeKernel" "SIZES" "[I" ∈ lw_tbl ∧ Cond.initialized "CapTreeKernel" ∈ lw_tbl := ⟨by decide +kernel, by decide +kernel⟩
def xl_sz (j : Nat) : Int32 := ([0, 16, 8, 2, 2, 4, 4, 8] : List Int32).getD j 0
abbrev xl_tm : Term := .static "CapTreeKernel" "SIZES" "[I"
set_option maxRecDepth 100000 in
theorem xl_el : (List.range 8).all (fun j => decide (Cond.eq (.elem xl_tm (.int (Int32.ofNat j))) (.int (xl_sz j)) ∈ flatC (Jvm.Cond.and given_1 narrow_1))) = true := by decide +kernel
set_option maxRecDepth 100000 in
theorem xl_ar : Cond.arrayOf xl_tm .int ∈ flatC (Jvm.Cond.and given_1 narrow_1) ∧ Cond.eq (.length xl_tm) (.int (Int32.ofNat 8)) ∈ flatC (Jvm.Cond.and given_1 narrow_1) := ⟨by decide +kernel, by decide +kernel⟩
theorem xl_size {k b : Int} (h1 : 1 ≤ k) (h7 : k ≤ 7) : xl_sz k.toNat = xi (s_size k b) := by
  rcases (by omega : k = 1 ∨ k = 2 ∨ k = 3 ∨ k = 4 ∨ k = 5 ∨ k = 6 ∨ k = 7) with rfl | rfl | rfl | rfl | rfl | rfl | rfl <;> rfl
theorem xl_ofNat {n : Nat} (h : n < 2147483648) (e : Int32.ofNat n = Int32.ofNat 8) : n = 8 := by
  have a := Int32.toInt_ofNat_of_lt (n := n) (by omega)
  have b := Int32.toInt_ofNat_of_lt (n := 8) (by omega)
  rw [e, b] at a
  omega
section XL
variable {s : State} {b L : Nat} {xs : Nat → Int32}
theorem xl_SIZES (hgv : (Jvm.Cond.and given_1 narrow_1).before #[Value.ref b] s = true) : ∃ ta : Nat, xl_tm.eval #[Value.ref b] s none [] s = some (.ref ta) ∧ va_T .int ta 8 (fun j => .int (xl_sz j)) (fun q => s.heap.size ≤ q) s s.heap := by
  have g := flat_of_before _ hgv
  refine va_Tof (by omega) (g _ xl_ar.1) (va_eqt (g _ xl_ar.2)) (fun j hj => ?_) (fun a ha => by omega)
  exact va_eqt (g _ (of_decide_eq_true (List.all_eq_true.mp xl_el j (List.mem_range.mpr hj))))
theorem xl_arr (hts : ∀ w ∈ lw_tbl, w.before #[Value.ref b] s = true) (t : Nat) : ∃ cA : ClassId, ∀ ty, x_aty t = some ty → ArrOfT s cA ty ∧ va_RA s cA ty := by
  obtain ⟨cA, kA, comp, h1, h2, h3⟩ := Cond.arrayClass_spec (hts _ (x_GW_in x_ac_int))
  by_cases c0 : t = 20
  · refine ⟨cA, fun ty e => ?_⟩
    unfold x_aty at e
    rw [if_pos c0] at e
    cases e
    exact ⟨fun n z => ⟨fun k h => (by cases h), kA, h2, comp, h3⟩, h1⟩
  by_cases c1 : t = 21
  · obtain ⟨cB, kB, comb, g1, g2, g3⟩ := Cond.arrayClass_spec (hts _ (x_GW_in x_ac_bool))
    refine ⟨cB, fun ty e => ?_⟩
    unfold x_aty at e
    rw [if_neg c0, if_pos c1] at e
    cases e
    exact ⟨fun n z => ⟨fun k h => (by cases h), kB, g2, comb, g3⟩, g1⟩
  by_cases c2 : 30 ≤ t ∧ t - 30 ∈ x_arrs
  · obtain ⟨com, cC, kC, g1, g2, g3, g4, g5⟩ := Cond.arrayOver_spec (hts _ (of_decide_eq_true (List.all_eq_true.mp xl_ao _ c2.2)))
    refine ⟨cC, fun ty e => ?_⟩
    unfold x_aty at e
    rw [if_neg c0, if_neg c1, if_pos c2] at e
    cases e
    exact ⟨fun n z => ⟨fun k h => (by cases h), kC, g3, com, g4⟩, ⟨kC, com, g3, g4, g1, g5⟩⟩
  · refine ⟨cA, fun ty e => ?_⟩
    unfold x_aty at e
    rw [if_neg c0, if_neg c1, if_neg c2] at e
    cases e
theorem xl_K (hts : ∀ w ∈ lw_tbl, w.before #[Value.ref b] s = true) (hX : va_X b L xs s s.heap) (hbl : b < s.heap.size) (hgv : (Jvm.Cond.and given_1 narrow_1).before #[Value.ref b] s = true) (hL : L ≤ 2560) :
    ∃ (D : xD) (P : xP) (szF : Nat → Int32), x_K D P s.heap.size s ∧ P.2.2 = b ∧ P.2.1 < s.heap.size ∧ P.1 P.2.2 = some (L, xs) ∧ P.1 P.2.1 = some (8, szF) ∧ ∀ j, j < 8 → szF j = xl_sz j := by
  have g := flat_of_before _ hgv
  obtain ⟨ta, hv, cell, d1, d2, d3, d4, d5, d6, d7⟩ := xl_SIZES hgv
  obtain ⟨scr, c1, c2, c3, c4, c5⟩ := hX
  have hcl : ∀ t, ∃ q : ClassId × (Nat → Nat), t < 12 → u_Kn s (x_cn t) (x_T t) (x_N t) q.1 q.2 := by
    have one : ∀ t, t < 12 → ∃ (cC : ClassId) (iS : Nat → Nat), u_Kn s (x_cn t) (x_T t) (x_N t) cC iS := fun t ht =>
      u_known (ws := x_GW) (fun w hw => hts w (x_GW_in hw)) (x_cls_ok (xcl_at ht)).1 (hts _ (of_decide_eq_true (List.all_eq_true.mp xl_cls t (List.mem_range.mpr ht))))
    intro t
    by_cases ht : t < 12
    · obtain ⟨cC, iS, hk⟩ := one t ht
      exact ⟨(cC, iS), fun _ => hk⟩
    · obtain ⟨cC, iS, hk⟩ := one 0 (by omega)
      exact ⟨(cC, iS), fun x => absurd x ht⟩
  obtain ⟨fc, hfc⟩ := Classical.axiomOfChoice hcl
  obtain ⟨fa, hfa⟩ := Classical.axiomOfChoice (xl_arr hts)
  have hta : ta < s.heap.size := by
    by_cases c : ta < s.heap.size
    · exact c
    · exact absurd (Nat.le_of_not_lt c) d7
  have hS : ∃ szF : Nat → Int32, (if ta = b then some (L, xs) else if ta = ta then some (8, xl_sz) else none) = some (8, szF) ∧ ∀ j, j < 8 → szF j = xl_sz j := by
    by_cases ab : ta = b
    · rw [ab, c1] at d1
      have e1 : scr = cell := Option.some.inj d1
      have e8 : L = 8 := by
        rw [← e1, c4] at d5
        exact xl_ofNat (by omega) d5
      rw [if_pos ab, e8]
      refine ⟨xs, rfl, fun j hj => ?_⟩
      have x1 := c5 j (by omega)
      rw [e1, d6 j hj] at x1
      have x2 : Value.int (xl_sz j) = Value.int (xs j) := Option.some.inj x1
      exact (Value.int.inj x2).symm
    · rw [if_neg ab, if_pos rfl]
      exact ⟨xl_sz, rfl, fun j _ => rfl⟩
  obtain ⟨szF, hs1, hs2⟩ := hS
  refine ⟨(fun t => (fc t).1, fun t => (fc t).2, fa), (fun a => if a = b then some (L, xs) else if a = ta then some (8, xl_sz) else none, ta, b), szF, ⟨⟨fun c q hq => ?_, fun k q hq => by cases hq⟩, hfa, fun t ht => va_AO.of (hts _ (of_decide_eq_true (List.all_eq_true.mp xl_ao t ht))), fun t ht u hu hne => ?_, va_Zref (hts _ xl_lay.1) (hts _ xl_lay.2) hv (fun a ha => by omega), fun a n f e => ?_, Nat.le_refl _, fun q hq => va_Nw.of rfl (hts _ (of_decide_eq_true (List.all_eq_true.mp xl_nest q hq)))⟩, rfl, hta, if_pos rfl, hs1, hs2⟩
  · have hc := xcl_lt hq
    rw [xcl_at hc] at hq
    cases hq
    exact hfc c hc
  · have h1 := List.all_eq_true.mp (List.all_eq_true.mp xl_nc t ht) u hu
    rw [Bool.or_eq_true] at h1
    rcases h1 with h1 | h1
    · exact absurd (of_decide_eq_true h1) hne
    · exact va_Nc.of (g _ (of_decide_eq_true h1))
  · have e : (if a = b then some (L, xs) else if a = ta then some (8, xl_sz) else none) = some (n, f) := e
    by_cases ab : a = b
    · rw [if_pos ab] at e
      cases e
      rw [ab]
      exact ⟨scr, hbl, c1, c2, c3, by omega, fun _ => c4, c5⟩
    · rw [if_neg ab] at e
      by_cases at' : a = ta
      · rw [if_pos at'] at e
        cases e
        rw [at']
        exact ⟨cell, hta, d1, d2, d3, d4, fun x => absurd (at'.trans x) ab, d6⟩
      · rw [if_neg at'] at e
        cases e
end XL
/-- the law's run from its entry -/
theorem whole_start {p : Program} {e : Env} {s : State} {m : MethodId} {below : List Frame} {meth : Method} {c : Code} (l : Launch) {b L : Nat} {xs : Nat → Int32} (hL : L ≤ 2560) (C0 : lw_At p s m meth c b L xs) : W p l e room_1 s m #[Value.ref b] below meth c s.heap [] 0 0 (lw_Z below #[Value.ref b] s) (entryFrame m ([Value.ref b] : List Value).toArray 4) := by
  obtain ⟨hx, hb, hr, hml, hown, hts, hX, hbl, hlk, hgv⟩ := C0
  obtain ⟨D, P, szF, hK, p1, p2, p3, p4, p5⟩ := xl_K hts hX hbl hgv hL
  have C : x_Cx p s m #[Value.ref b] meth c D P s.heap.size 119 := ⟨hx, hb, hml, hown, fun w hw => hts w (x_GW_in hw), hK, fun h => absurd h (by decide)⟩
  have hrun : WP P 119 0 [some (.ref P.2.2), none, none, none] [] (s.heap.size, 0, fun _ => none, fun _ _ => .null) (fun v w' => v = some (.int (xi 1)) ∧ x_sz w' ≤ s.heap.size + 60 + 4 * 512 ∧ x_sl w' ≤ 2100 + 64 * 512) :=
    law_all (w := (s.heap.size, 0, fun _ => none, fun _ _ => .null)) p3 (by omega) p4 (fun k b h1 h7 => by rw [p5 _ (by omega)]; exact xl_size h1 h7) (fun a => rfl) (by rw [p1]; exact hbl) p2 (fun w' n h5 hz hl => ⟨rfl, by have hz : x_sz w' ≤ s.heap.size + 60 + 4 * n := hz; omega, by have hl : x_sl w' ≤ 0 + 2100 + 64 * n := hl; omega⟩)
  rw [p1] at hrun
  obtain ⟨n, v, w', hex, hv, hz, hl⟩ := hrun
  subst hv
  rw [lg_entry_eq]
  have hlr : x_lr ((lg_sl [Value.ref b] ++ List.replicate (4 - (lg_sl [Value.ref b]).length) Slot.unset).toArray) (x_en 119 [Value.ref b]) := x_entry (mj := 119) rfl (show 1 ≤ 4 by omega)
  refine x_walk (R := room_1) (mi := 119) (v := some (.int (xi 1))) (w' := w') C (by decide) (by decide) (Kc := x_sz w' - s.heap.size) (Ks := x_sl w' - 0) (by show x_sz w' - s.heap.size ≤ 600000; omega) (by show x_sl w' - 0 ≤ 7302250; omega) (fun ins pc ls st H locs hd hret hok' hS' => ?_) n (fun k _ => x_sound l D P s.heap.size k) 0 (x_en 119 [Value.ref b]) [] (s.heap.size, 0, fun _ => none, fun _ _ => .null) s.heap [] 0 0 _ hex ⟨rfl, fun a t n e => by cases e⟩ va_S.rf hlr rfl (Nat.zero_add _) (Nat.zero_add _)
  obtain ⟨nn, hd1, hk⟩ := hd
  unfold x_ret at hret
  split at hret
  next =>
    obtain rfl := hk 1 rfl
    split at hret
    next x =>
      split at hret
      next =>
        have ex1 : x = xi 1 := by
          have := Option.some.inj (Option.some.inj hret)
          cases this
          rfl
        subst ex1
        exact va_forget (fun q hq => hS'.2.2 q hq) (W.widen (by omega) (by omega) (lw_ret hx hb hr hlk hd1))
      next => cases hret
    next => cases hret
  next =>
    split at hret
    next => split at hret <;> cases hret
    next => split at hret <;> cases hret
    next => cases hret
  next =>
    split at hret
    next => split at hret <;> cases hret
    next => cases hret
  next => cases hret
