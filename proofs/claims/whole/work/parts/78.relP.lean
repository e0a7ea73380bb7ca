/-! ===== steps of threads ===== -/
theorem us_cg {S S' : xS} (h0 : S' 0 = S 0) (h1 : S' 1 = S 1) : us S' = us S := by
  funext k i
  unfold us
  rw [hd_cg h0 h1, h0]
theorem s_hold_cg {S S' : xS} (h0 : S' 0 = S 0) (h1 : S' 1 = S 1) : s_hold S' = s_hold S := by
  funext k u
  unfold s_hold
  rw [h0, h1]
theorem lfL_cg {S S' : xS} (h0 : S' 0 = S 0) (h1 : S' 1 = S 1) (h25 : S' 25 = S 25) (h26 : S' 26 = S 26) (u e : Int) : ∀ n q, lfL S' u e n q = lfL S u e n q := by
  intro n
  induction n with
  | zero => intro q; rfl
  | succ n ih =>
    intro q
    unfold lfL s_there s_holders
    rw [ih, s_hold_cg h0 h1, h25, h26]
theorem frL_cg {S S' : xS} (h0 : S' 0 = S 0) (h7 : S' 7 = S 7) (h8 : S' 8 = S 8) (l e : Int) : ∀ n q, frL S' l e n q = frL S l e n q := by
  intro n
  induction n with
  | zero => intro q; rfl
  | succ n ih =>
    intro q
    unfold frL
    rw [ih, h0, h7, h8]
theorem Fv_th {A : xA} {S S' : xS} {ln ln' : Nat → Int} (e : ∀ j, (j < 10 ∨ (24 ≤ j ∧ j < 28)) → S' j = S j) {k i : Int} {f : Nat} (c2 : k ≠ 2) (c9 : k ≠ 9) (h10 : ∀ t, t < 16 → (S' 10 t = 0 ↔ S 10 t = 0)) : xFv A S' ln' k i f = xFv A S ln k i f := by
  unfold xFv
  simp only [c2, c9, if_false]
  have e0 := e 0 (by omega)
  have e1 := e 1 (by omega)
  by_cases k0 : k = 0
  · rw [if_pos k0, if_pos k0]
    unfold Funt s_children
    rw [e0, e1, e 4 (by omega), e 5 (by omega), e 6 (by omega)]
  rw [if_neg k0, if_neg k0]
  by_cases k8 : k < 8
  · rw [if_pos k8, if_pos k8]
    unfold Fthi
    rw [e 24 (by omega), e 25 (by omega), e 26 (by omega)]
  rw [if_neg k8, if_neg k8]
  by_cases k8' : k = 8
  · rw [if_pos k8', if_pos k8']
    unfold Fcap thA
    rw [e0, e1, e 2 (by omega), e 3 (by omega), e 4 (by omega), e 7 (by omega), e 8 (by omega), e 9 (by omega)]
  rw [if_neg k8', if_neg k8']
  by_cases k10 : k = 10
  · rw [if_pos k10, if_pos k10]
    unfold s_leafOf
    rw [lfL_cg e0 e1 (e 25 (by omega)) (e 26 (by omega))]
  rw [if_neg k10, if_neg k10]
  by_cases k11 : k = 11
  · rw [if_pos k11, if_pos k11]
    unfold s_frameOf
    rw [frL_cg e0 (e 7 (by omega)) (e 8 (by omega))]
  rw [if_neg k11, if_neg k11]
  unfold Fker
  rw [e0, e 27 (by omega)]
  by_cases ft : f < 16
  · have g := h10 f ft
    by_cases z : S 10 f = 0
    · rw [if_pos z, if_pos (g.2 z)]
    · rw [if_neg z, if_neg (fun x => z (g.1 x))]
  · simp only [ft, if_false]
/-- only threads and lines have changed -/
theorem Hp.thuU {w : xH} {A : xA} {U : Int → Int → Prop} {S S' : xS} {ln ln' : Nat → Int} {F : Int → Int → Nat → Option Value} (h : Hp w A U F) (hU2 : ∀ u, U 2 u → ∃ t : Nat, t < 16 ∧ u = 8 * (t : Int)) (hU9 : ∀ l, U 9 l → 0 ≤ l) (e : ∀ j, (j < 10 ∨ (24 ≤ j ∧ j < 28)) → S' j = S j) (h10 : ∀ t, t < 16 → (S' 10 t = 0 ↔ S 10 t = 0)) (h1 : ∀ k i f, k ≠ 2 → k ≠ 9 → F k i f = xFv A S ln k i f)
    (h2 : ∀ t : Nat, t < 16 → U 2 (8 * (t : Int)) → ∀ f v, Fthr A S' ln' (8 * (t : Int)) t f = some v → F 2 (8 * (t : Int)) f = some v) (h3 : ∀ l : Int, 0 ≤ l → U 9 l → ∀ f v, Flin A S' ln' l f = some v → F 9 l f = some v) : Hp w A U (xFv A S' ln') := by
  refine h.to (fun k i u => ⟨u, rfl⟩) (fun k i f v u q => ?_)
  by_cases c2 : k = 2
  · rw [c2] at u q ⊢
    obtain ⟨t, t1, t2⟩ := hU2 i u
    rw [t2] at u q ⊢
    rw [Fv_thr] at q
    exact h2 t t1 u f v q
  by_cases c9 : k = 9
  · rw [c9] at u q ⊢
    exact h3 i (hU9 i u) u f v q
  · rw [h1 k i f c2 c9, ← Fv_th (ln' := ln') (S' := S') e c2 c9 h10]
    exact q
theorem Hp.thu {w : xH} {A : xA} {S S' : xS} {ln ln' : Nat → Int} {F : Int → Int → Nat → Option Value} (h : Hp w A (us S) F) (hA : CapA S) (e : ∀ j, (j < 10 ∨ (24 ≤ j ∧ j < 28)) → S' j = S j) (h10 : ∀ t, t < 16 → (S' 10 t = 0 ↔ S 10 t = 0)) (h1 : ∀ k i f, k ≠ 2 → k ≠ 9 → F k i f = xFv A S ln k i f)
    (h2 : ∀ t : Nat, t < 16 → us S 2 (8 * (t : Int)) → ∀ f v, Fthr A S' ln' (8 * (t : Int)) t f = some v → F 2 (8 * (t : Int)) f = some v) (h3 : ∀ l : Int, 0 ≤ l → us S 9 l → ∀ f v, Flin A S' ln' l f = some v → F 9 l f = some v) : Rel w A S' ln' := by
  have r := h.thuU (ln := ln) (fun _ u => us_2 hA u) (fun _ u => us_9 hA u) e h10 h1 h2 h3
  have eu := us_cg (S := S) (S' := S') (e 0 (by omega)) (e 1 (by omega))
  unfold Rel
  rw [eu]
  exact r
/-- times of threads that stand in no line count for nothing -/
theorem mem_cg {S S' : xS} {ln : Nat → Int} (h : ∀ t, t < 16 → 0 ≤ ln t → S' 18 t = S 18 t) : (∀ l, 0 ≤ l → fstL S' ln l = fstL S ln l ∧ lstL S' ln l = lstL S ln l) ∧ ∀ t, t < 16 → nxtL S' ln t = nxtL S ln t := by
  refine ⟨fun l l0 => ⟨mnL_cg (fun _ _ => Iff.rfl) (fun t ht e => h t ht (by omega)), mnL_cg (fun _ _ => Iff.rfl) (fun t ht e => by rw [h t ht (by omega)])⟩, fun t ht => mnL_cg (fun k hk => ?_) (fun k hk e => h k hk (by omega))⟩
  constructor
  · intro x
    have a := h t ht x.2.1
    have b := h k hk (by omega)
    omega
  · intro x
    have a := h t ht x.2.1
    have b := h k hk (by omega)
    omega
theorem Fthr_18 {A : xA} {S S' : xS} {ln : Nat → Int} {u : Int} {t : Nat} (hn : nxtL S' ln t = nxtL S ln t) (e : ∀ j, 10 ≤ j → j < 24 → j ≠ 18 → j ≠ 19 → S' j t = S j t) (f : Nat) : Fthr A S' ln u t f = Fthr A S ln u t f := by
  unfold Fthr
  rw [hn, e 10 (by omega) (by omega) (by omega) (by omega), e 11 (by omega) (by omega) (by omega) (by omega), e 12 (by omega) (by omega) (by omega) (by omega), e 13 (by omega) (by omega) (by omega) (by omega), e 14 (by omega) (by omega) (by omega) (by omega), e 15 (by omega) (by omega) (by omega) (by omega), e 16 (by omega) (by omega) (by omega) (by omega), e 17 (by omega) (by omega) (by omega) (by omega), e 20 (by omega) (by omega) (by omega) (by omega), e 21 (by omega) (by omega) (by omega) (by omega), e 22 (by omega) (by omega) (by omega) (by omega), e 23 (by omega) (by omega) (by omega) (by omega)]
theorem LnU.up {U : Int → Int → Prop} {S : xS} {ln : Nat → Int} (h : LnU U S ln) (t : Nat) : LnU U S (lup ln t (-1)) := by
  obtain ⟨h1, h2, h3⟩ := h
  have k : ∀ x, 0 ≤ lup ln t (-1) x → x ≠ t ∧ lup ln t (-1) x = ln x := by
    intro x hx
    by_cases c : x = t
    · rw [c, lup_t] at hx; omega
    · exact ⟨c, lup_o c⟩
  refine ⟨fun x hx => ?_, fun x hx g => ?_, fun x y hx hy hne g g' => ?_⟩
  · by_cases c : x = t
    · rw [c, lup_t]; omega
    · rw [lup_o c]; exact h1 x hx
  · have e := (k x g).2
    rw [e] at g ⊢
    exact h2 x hx g
  · have e := (k x g).2
    have e' := (k y g').2
    exact h3 x y hx hy hne (by omega) (by omega)
theorem lid_2 {S : xS} {t : Nat} : 0 ≤ lid S t → 2 ≤ S 10 t := by
  intro g
  unfold lid at g
  split at g <;> omega
theorem th_19 {S : xS} (hA : CapA S) (tA : ThA S) (tB : ThB S) {t : Nat} (ht : t < 16) (g : 3 ≤ S 10 t) : 0 ≤ S 19 t ∧ (hd S 3 (S 19 t) ∨ hd S 4 (S 19 t)) := by
  have a := tA t ht
  have b := tB t ht (by omega)
  rcases (by omega : (S 10 t = 3 ∨ S 10 t = 4) ∨ S 10 t = 5) with c | c
  · exact ⟨(hA.hd (b.2.2.2.1 c)).1, Or.inl (b.2.2.2.1 c)⟩
  · exact ⟨(hA.hd (b.2.2.2.2.1 c)).1, Or.inr (b.2.2.2.2.1 c)⟩
theorem lnI_lid {S : xS} (hA : CapA S) (tA : ThA S) (tB : ThB S) (tC : ThC S) : LnI S (lid S) := by
  refine ⟨fun t ht => ?_, fun t ht g => ⟨?_, ?_⟩, fun t t' ht ht' hne g g' => tC.2.2 t t' ht ht' hne (lid_2 g) (lid_2 g')⟩
  · unfold lid
    by_cases c : S 10 t < 2
    · rw [if_pos c]; omega
    · have b := tB t ht (by omega)
      rw [if_neg c]
      split
      · omega
      · have := (th_19 hA tA tB ht (by omega)).1; omega
  · have := lid_2 g
    exact us_thi (by omega) (by omega) ((tA t ht).2.1.1 (by omega))
  · have g2 := lid_2 g
    have b := tB t ht (by omega)
    unfold lid
    rw [if_neg (by omega)]
    by_cases c : S 10 t = 2
    · rw [if_pos c]
      exact us_lin (Or.inl ⟨by omega, by omega⟩)
    · rw [if_neg c]
      have x := (th_19 hA tA tB ht (by omega)).2
      rw [show S 19 t = S 19 t + 4 - 4 by omega] at x
      exact us_lin (Or.inr x)
theorem Inv.lnI {S : xS} (h : Inv S) : LnI S (lid S) := lnI_lid h.1.2.1 h.1.2.2.2.2.2.1 h.1.2.2.2.2.2.2.1 h.1.2.2.2.2.2.2.2.1
theorem lup_lup {ln : Nat → Int} {t : Nat} {a b : Int} : lup (lup ln t a) t b = lup ln t b := by
  funext k
  by_cases c : k = t
  · rw [c, lup_t, lup_t]
  · rw [lup_o c, lup_o c, lup_o c]
section KL
variable {P : xP} {w : xH} {Q : Option Value → xH → Prop} {A : xA} {S : xS} {ln : Nat → Int}
/-- a thread that stands in no line gets new numbers (state below 3) -/
theorem Hp.tsetU {w' : xH} {U : Int → Int → Prop} {S' : xS} {F : Int → Int → Nat → Option Value} (h : Hp w' A U F) (hU2 : ∀ u, U 2 u → ∃ t : Nat, t < 16 ∧ u = 8 * (t : Int)) (hU9 : ∀ l, U 9 l → 0 ≤ l) {t : Nat} (ht : t < 16) (hl : ln t = -1) (e : ∀ j, (j < 10 ∨ (24 ≤ j ∧ j < 28)) → S' j = S j) (o : ∀ j i, 10 ≤ j → j < 24 → i ≠ t → S' j i = S j i) (h0 : S 10 t ≠ 0) (h0' : S' 10 t ≠ 0)
    (hf1 : ∀ k i f, ¬ (k = 2 ∧ i = 8 * (t : Int)) → F k i f = xFv A S ln k i f) (hf2 : ∀ f v, Fthr A S' ln (8 * (t : Int)) t f = some v → F 2 (8 * (t : Int)) f = some v) : Hp w' A U (xFv A S' ln) := by
  have mc := mem_cg (S := S) (S' := S') (ln := ln) (fun k hk g => o 18 k (by omega) (by omega) (fun c => by rw [c] at g; omega))
  refine h.thuU hU2 hU9 e (fun k hk => ?_) (fun k i f c2 c9 => hf1 k i f (fun x => c2 x.1)) (fun k hk ku f v q => ?_) (fun l l0 lu f v q => ?_)
  · by_cases c : k = t
    · rw [c]; exact ⟨fun x => absurd x h0', fun x => absurd x h0⟩
    · rw [o 10 k (by omega) (by omega) c]
  · by_cases c : k = t
    · rw [c] at q ⊢; exact hf2 f v q
    · rw [hf1 2 _ f (fun x => c (by omega)), Fv_thr, ← q]
      exact (Fthr_18 (mc.2 k hk) (fun j j1 j2 _ _ => o j k j1 j2 c) f).symm
  · rw [hf1 9 l f (by omega)]
    show Flin A S ln l f = _
    rw [← q]
    unfold Flin
    rw [(mc.1 l l0).1, (mc.1 l l0).2]
theorem Hp.tset {w' : xH} {S' : xS} {F : Int → Int → Nat → Option Value} (h : Hp w' A (us S) F) (hA : CapA S) {t : Nat} (ht : t < 16) (hl : ln t = -1) (e : ∀ j, (j < 10 ∨ (24 ≤ j ∧ j < 28)) → S' j = S j) (o : ∀ j i, 10 ≤ j → j < 24 → i ≠ t → S' j i = S j i) (h0 : S 10 t ≠ 0) (h0' : S' 10 t ≠ 0)
    (hf1 : ∀ k i f, ¬ (k = 2 ∧ i = 8 * (t : Int)) → F k i f = xFv A S ln k i f) (hf2 : ∀ f v, Fthr A S' ln (8 * (t : Int)) t f = some v → F 2 (8 * (t : Int)) f = some v) : Rel w' A S' ln := by
  have r := h.tsetU (ln := ln) (fun _ u => us_2 hA u) (fun _ u => us_9 hA u) ht hl e o h0 h0' hf1 hf2
  have eu := us_cg (S := S) (S' := S') (e 0 (by omega)) (e 1 (by omega))
  unfold Rel
  rw [eu]
  exact r
theorem ready_o {S : xS} {t : Nat} {j : Nat} (h : j ≠ 10 ∧ j ≠ 14 ∧ j ≠ 28 ∧ j ≠ 18) : s_ready S t j = S j := by
  unfold s_ready
  rw [sset_o h.2.2.2, sset_o h.2.2.1, sset_o h.2.1, sset_o h.1]
theorem ready_i {S : xS} {t : Nat} {j i : Nat} (h : j ≠ 28) (hi : i ≠ t) : s_ready S t j i = S j i := by
  unfold s_ready
  simp [sset_at, h, hi]
theorem ready_t {S : xS} {t : Nat} : s_ready S t 10 t = 2 ∧ s_ready S t 14 t = 3 ∧ s_ready S t 18 t = S 28 0 + 1 := by
  unfold s_ready
  simp [sset_at]
set_option maxHeartbeats 4000000 in
theorem k_becomeReady (h : Rel w A S ln) (hA : CapA S) (hR : RgS S) (hI : LnI S ln) {t : Nat} (ht : t < 16) (hu : us S 2 (8 * (t : Int))) (h13 : 0 ≤ S 13 t ∧ S 13 t ≤ 3) (h0 : S 10 t ≠ 0) (hc : ∀ k, k < 16 → 0 ≤ ln k → S 18 k ≤ S 28 0) (hQ : ∀ w', Rel w' A (s_ready S t) (lup ln t (S 13 t)) → Fr w w' 0 → Q none w') : WP P 5 0 [some (.ref (A 12 0)), some (.ref (A 2 (8 * (t : Int))))] [] w Q := by
  simp (disch := first | exact hR _ _ | exact x01a | exact x01b | (unfold x_r; omega) | assumption | omega) only [wK_becomeReady_0, x_gi_int, x_ga_ref, x_ga_null, List.getElem?_cons_zero, List.getElem?_cons_succ, List.length_cons, List.length_nil, List.set_cons_zero, List.set_cons_succ, Nat.reduceAdd, Nat.reduceLT, xr_lt, xr_eq, xr_toInt, xr_0, xi_add, xi_sub, xi_mul, xr_div, xr_rm, Int.toNat_natCast, bd_t, true_and, and_true, not_false_eq_true, ↓reduceIte, ilt_t, ilt_f, ile_t, x_c1i, x_c1r, x_c1n, and_self, Option.toList_some, Option.toList_none, List.cons_append, List.nil_append, xr_01, xr_00, ieq_f, ieq_t]
  refine wK_becomeReady_1 (by simp) rfl rfl (k_leaveLine h hA hI ht hu (fun w1 h1 fr1 ft1 => ?_))
  obtain ⟨⟨t0, t1, t2, t3, t4⟩, f0, f1, f2, f3⟩ := h1.ker
  obtain ⟨z0, z1, z2, z3, z4, z5, z6, -⟩ := h1.thr hu
  rw [Int.toNat_natCast] at z5
  have hz : x_has w1 (A 2 (8 * (t : Int))) [2] := ⟨_, _, z0, by decide⟩
  have hk : x_has w1 (A 12 0) [0] := ⟨_, _, t0, by decide⟩
  have r1 := h1.rls (q := (S 13 t).toNat) (by omega)
  rw [show (((S 13 t).toNat : Nat) : Int) = S 13 t by omega] at r1
  have ec := x_cle (e := S 13 t) (by omega) (by omega)
  have nn := x_nn (e := S 13 t) (by omega) (by omega)
  have nc := x_clt (e := S 13 t) (n := 4) (by omega) (by omega) (by omega)
  have lt : lup ln t (-1) t = -1 := lup_t _ _ _
  have hne : A 12 0 ≠ A 2 (8 * (t : Int)) := fun x => by have := (h1.inj (us_ker (i := 0) (by omega)) hu x).1; omega
  have hne3 : A 12 3 ≠ A 2 (8 * (t : Int)) := fun x => by have := (h1.inj (us_ker (i := 3) (by omega)) hu x).1; omega
  have t3' : x_tg (x_put (x_put w1 (A 2 (8 * (t : Int))) 5 (.int (xi 2))) (A 2 (8 * (t : Int))) 6 (.int (xi 3))) (A 12 3) = some (33, 4) := t3
  simp (disch := first | exact hR _ _ | exact x01a | exact x01b | (unfold x_r; omega) | assumption | omega) only [wK_becomeReady_4, wK_becomeReady_5, wK_becomeReady_6, wK_becomeReady_9, wK_becomeReady_10, wK_becomeReady_11, wK_becomeReady_14, wK_becomeReady_15, wK_becomeReady_16, wK_becomeReady_19, wK_becomeReady_20, wK_becomeReady_23 t3' (by omega) nn nc, x_has_put, x_fd_put, x_f0, hz, hk, f2, z5, ec, r1, hne, hne3, sset_at, Nat.reduceEqDiff, false_and, and_false, eq_self, and_self, reduceCtorEq, x_gi_int, x_ga_ref, x_ga_null, List.getElem?_cons_zero, List.getElem?_cons_succ, List.length_cons, List.length_nil, List.set_cons_zero, List.set_cons_succ, Nat.reduceAdd, Nat.reduceLT, xr_lt, xr_eq, xr_toInt, xr_0, xi_add, xi_sub, xi_mul, xr_div, xr_rm, Int.toNat_natCast, bd_t, true_and, and_true, not_false_eq_true, ↓reduceIte, ilt_t, ilt_f, ile_t, x_c1i, x_c1r, x_c1n, and_self, Option.toList_some, Option.toList_none, List.cons_append, List.nil_append, xr_01, xr_00, ieq_f, ieq_t]
  have h2 : Rel (x_put (x_put w1 (A 2 (8 * (t : Int))) 5 (.int (xi 2))) (A 2 (8 * (t : Int))) 6 (.int (xi 3))) A (s_ready S t) (lup ln t (-1)) := by
    refine Hp.tset (S := S) ((h1.put hu 5 _).put hu 6 _) hA ht lt (fun j hj => ready_o (by omega)) (fun j i j1 j2 hi => ready_i (by omega) hi) h0 (by rw [ready_t.1]; omega) (fun k i f c => ?_) (fun f v q => ?_)
    · rw [fup_n (fun x => c ⟨x.1, x.2.1⟩), fup_n (fun x => c ⟨x.1, x.2.1⟩)]
    · by_cases c6 : f = 6
      · rw [c6, fup_e]
        rw [c6] at q
        have q : some (Value.int (xi (s_ready S t 14 t))) = some v := q
        rw [ready_t.2.1] at q
        exact q
      rw [fup_n (fun x => c6 x.2.2)]
      by_cases c5 : f = 5
      · rw [c5, fup_e]
        rw [c5] at q
        have q : some (Value.int (xi (s_ready S t 10 t))) = some v := q
        rw [ready_t.1] at q
        exact q
      rw [fup_n (fun x => c5 x.2.2), Fv_thr]
      unfold Fthr at q ⊢
      rw [ready_t.1] at q
      simp only [c5, c6, if_false, show ¬ (2 : Int) = 3 by omega, show ¬ (2 : Int) = 4 by omega, or_self] at q ⊢
      rw [ready_o (j := 11) (by omega), ready_o (j := 12) (by omega), ready_o (j := 13) (by omega), ready_o (j := 15) (by omega), ready_o (j := 16) (by omega), ready_o (j := 17) (by omega)] at q
      have nx : ∀ T : xS, nxtL T (lup ln t (-1)) t = -1 := fun T => lv_me
      rw [nx] at q
      rw [nx]
      by_cases g : f = 12 ∨ f = 13 ∨ f = 14 ∨ f = 15
      · exfalso
        have : ¬ f = 0 ∧ ¬ f = 1 ∧ ¬ f = 2 ∧ ¬ f = 3 ∧ ¬ f = 4 ∧ ¬ f = 7 ∧ ¬ f = 8 ∧ ¬ f = 9 ∧ ¬ f = 10 ∧ ¬ f = 11 := by omega
        obtain ⟨a0, a1, a2, a3, a4, a5, a6, a7, a8, a9⟩ := this
        simp only [a0, a1, a2, a3, a4, a5, a6, a7, a8, a9, if_false] at q
        rcases g with g | g | g | g <;> simp [g] at q
      · have : ¬ f = 12 ∧ ¬ f = 13 ∧ ¬ f = 14 ∧ ¬ f = 15 := by omega
        obtain ⟨a0, a1, a2, a3⟩ := this
        simp only [a0, a1, a2, a3, if_false] at q ⊢
        exact q
  have eu := us_cg (S := S) (S' := s_ready S t) (ready_o (by omega)) (ready_o (by omega))
  have hA' : CapA (s_ready S t) := hA.cg (ready_o (by omega)) (ready_o (by omega)) (ready_o (by omega)) (ready_o (by omega)) (ready_o (by omega)) (ready_o (by omega))
  have hI1 := hI.up t
  have hI' : LnI (s_ready S t) (lup ln t (-1)) := by
    refine ⟨hI1.1, fun k hk g => by rw [eu]; exact hI1.2.1 k hk g, fun x y hx hy hne g g' => ?_⟩
    have nx : x ≠ t := fun c => by rw [c, lup_t] at g; omega
    have ny : y ≠ t := fun c => by rw [c, lup_t] at g'; omega
    rw [ready_i (by omega) nx, ready_i (by omega) ny]
    exact hI1.2.2 x y hx hy hne g g'
  refine wK_becomeReady_24 (by simp) rfl rfl (k_joinLine (t := t) h2 hA' hI' ⟨ht, by omega, lt, fun k hk g => ?_, hI'.2.2⟩ (by rw [eu]; exact hu) (by rw [eu]; exact us_lin (Or.inl ⟨by omega, by omega⟩)) (fun w3 h3 fr3 => ?_))
  · have nx : k ≠ t := fun c => by rw [c, lup_t] at g; omega
    rw [lup_o nx] at g
    rw [ready_i (by omega) nx, ready_t.2.2]
    have := hc k hk (by omega)
    omega
  · simp (disch := first | exact hR _ _ | exact x01a | exact x01b | (unfold x_r; omega) | assumption | omega) only [wK_becomeReady_27, x_gi_int, x_ga_ref, x_ga_null, List.getElem?_cons_zero, List.getElem?_cons_succ, List.length_cons, List.length_nil, List.set_cons_zero, List.set_cons_succ, Nat.reduceAdd, Nat.reduceLT, xr_lt, xr_eq, xr_toInt, xr_0, xi_add, xi_sub, xi_mul, xr_div, xr_rm, Int.toNat_natCast, bd_t, true_and, and_true, not_false_eq_true, ↓reduceIte, ilt_t, ilt_f, ile_t, x_c1i, x_c1r, x_c1n, and_self, Option.toList_some, Option.toList_none, List.cons_append, List.nil_append, xr_01, xr_00, ieq_f, ieq_t]
    rw [lup_lup] at h3
    exact hQ w3 h3 (Fr.trans ((h1.put hu 5 _).frp (h1.frp fr1 hu 5 _) hu 6 _) fr3 (by omega))
end KL
