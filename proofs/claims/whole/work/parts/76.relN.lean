theorem x_f2r (a : Nat) : (x_fit 2 (.ref a) = true) = True := eq_true rfl
theorem x_f2n : (x_fit 2 .null = true) = True := eq_true rfl
theorem x_f0 (x : Int32) : (x_fit 0 (.int x) = true) = True := eq_true rfl
theorem x_f2p (a : Int) (b : Nat) : (x_fit 2 (pv a b) = true) = True := by
  refine eq_true ?_
  unfold pv
  split <;> rfl
theorem Fv_ln {A : xA} {S : xS} {ln ln' : Nat → Int} {k i : Int} {f : Nat} (h2 : k ≠ 2) (h9 : k ≠ 9) : xFv A S ln' k i f = xFv A S ln k i f := by
  unfold xFv
  simp only [h2, h9, if_false]
theorem us_9 {S : xS} (hA : CapA S) {l : Int} (h : us S 9 l) : 0 ≤ l := by
  rcases h with h | h | h | h | h | h | h
  · omega
  · omega
  · omega
  · rcases h.2 with g | g | g
    · exact g.1
    · have := (hA.hd g).1; omega
    · have := (hA.hd g).1; omega
  · omega
  · omega
  · omega
theorem us_2 {S : xS} (hA : CapA S) {u : Int} (h : us S 2 u) : ∃ t : Nat, t < 16 ∧ u = 8 * (t : Int) := by
  rcases h with h | h | h | h | h | h | h
  · omega
  · have a := hd_al hA (by omega) h.2.2
    have b := hA.hd h.2.2
    have a1 : u % 8 = 0 := a.1
    exact ⟨(u / 8).toNat, by omega, by omega⟩
  · omega
  · omega
  · omega
  · omega
  · omega
theorem Fv_thr {A : xA} {S : xS} {ln : Nat → Int} (t : Nat) (f : Nat) : xFv A S ln 2 (8 * (t : Int)) f = Fthr A S ln (8 * (t : Int)) t f := by
  show Fthr A S ln (8 * (t : Int)) ((8 * (t : Int)) / 8).toNat f = _
  rw [show ((8 * (t : Int)) / 8).toNat = t by omega]
theorem Fthr_ln {A : xA} {S : xS} {ln ln' : Nat → Int} {u : Int} {t f : Nat} (h1 : f ≠ 10) (h2 : f ≠ 11) : Fthr A S ln' u t f = Fthr A S ln u t f := by
  unfold Fthr
  simp only [h1, h2, if_false]
theorem Hp.linesU {w : xH} {A : xA} {U : Int → Int → Prop} {S : xS} {ln ln' : Nat → Int} {F : Int → Int → Nat → Option Value} (h : Hp w A U F) (hU2 : ∀ u, U 2 u → ∃ t : Nat, t < 16 ∧ u = 8 * (t : Int)) (hU9 : ∀ l, U 9 l → 0 ≤ l) (h1 : ∀ k i f, k ≠ 2 → k ≠ 9 → F k i f = xFv A S ln k i f) (h2 : ∀ t : Nat, t < 16 → ∀ f, f ≠ 10 → f ≠ 11 → F 2 (8 * (t : Int)) f = xFv A S ln 2 (8 * (t : Int)) f)
    (h3 : ∀ t : Nat, t < 16 → U 2 (8 * (t : Int)) → F 2 (8 * (t : Int)) 10 = some (pv (ln' t) (A 9 (ln' t)))) (h4 : ∀ t : Nat, t < 16 → U 2 (8 * (t : Int)) → F 2 (8 * (t : Int)) 11 = some (pv (nxtL S ln' t) (A 2 (8 * nxtL S ln' t))))
    (h5 : ∀ l : Int, 0 ≤ l → U 9 l → F 9 l 0 = some (pv (fstL S ln' l) (A 2 (8 * fstL S ln' l)))) (h6 : ∀ l : Int, 0 ≤ l → U 9 l → F 9 l 1 = some (pv (lstL S ln' l) (A 2 (8 * lstL S ln' l)))) : Hp w A U (xFv A S ln') := by
  refine h.to (fun k i u => ⟨u, rfl⟩) (fun k i f v u e => ?_)
  by_cases c2 : k = 2
  · rw [c2] at u e ⊢
    obtain ⟨t, t1, t2⟩ := hU2 i u
    rw [t2] at u e ⊢
    by_cases c10 : f = 10
    · rw [c10] at e ⊢
      rw [h3 t t1 u]
      rw [Fv_thr] at e
      exact e
    by_cases c11 : f = 11
    · rw [c11] at e ⊢
      rw [h4 t t1 u]
      rw [Fv_thr] at e
      exact e
    rw [h2 t t1 f c10 c11]
    rw [Fv_thr] at e ⊢
    rw [Fthr_ln c10 c11] at e
    exact e
  by_cases c9 : k = 9
  · rw [c9] at u e ⊢
    have l0 := hU9 i u
    have e : Flin A S ln' i f = some v := e
    unfold Flin at e
    by_cases c0 : f = 0
    · rw [if_pos c0] at e
      rw [c0, h5 i l0 u]; exact e
    rw [if_neg c0] at e
    by_cases c1 : f = 1
    · rw [if_pos c1] at e
      rw [c1, h6 i l0 u]; exact e
    · rw [if_neg c1] at e
      exact absurd e (by simp)
  · rw [h1 k i f c2 c9, ← Fv_ln (ln' := ln') c2 c9]
    exact e
theorem Hp.lines {w : xH} {A : xA} {S : xS} {ln ln' : Nat → Int} {F : Int → Int → Nat → Option Value} (h : Hp w A (us S) F) (hA : CapA S) (h1 : ∀ k i f, k ≠ 2 → k ≠ 9 → F k i f = xFv A S ln k i f) (h2 : ∀ t : Nat, t < 16 → ∀ f, f ≠ 10 → f ≠ 11 → F 2 (8 * (t : Int)) f = xFv A S ln 2 (8 * (t : Int)) f)
    (h3 : ∀ t : Nat, t < 16 → us S 2 (8 * (t : Int)) → F 2 (8 * (t : Int)) 10 = some (pv (ln' t) (A 9 (ln' t)))) (h4 : ∀ t : Nat, t < 16 → us S 2 (8 * (t : Int)) → F 2 (8 * (t : Int)) 11 = some (pv (nxtL S ln' t) (A 2 (8 * nxtL S ln' t))))
    (h5 : ∀ l : Int, 0 ≤ l → us S 9 l → F 9 l 0 = some (pv (fstL S ln' l) (A 2 (8 * fstL S ln' l)))) (h6 : ∀ l : Int, 0 ≤ l → us S 9 l → F 9 l 1 = some (pv (lstL S ln' l) (A 2 (8 * lstL S ln' l)))) : Rel w A S ln' :=
  h.linesU (fun _ u => us_2 hA u) (fun _ u => us_9 hA u) h1 h2 h3 h4 h5 h6
theorem fup_e {F : Int → Int → Nat → Option Value} {k i : Int} {f : Nat} {v : Value} : fup F k i f v k i f = some v := if_pos ⟨rfl, rfl, rfl⟩
theorem fup_n {F : Int → Int → Nat → Option Value} {k i k' i' : Int} {f f' : Nat} {v : Value} (h : ¬ (k' = k ∧ i' = i ∧ f' = f)) : fup F k i f v k' i' f' = F k' i' f' := if_neg h
section KJ
variable {P : xP} {w : xH} {Q : Option Value → xH → Prop} {A : xA} {S : xS} {ln : Nat → Int}
theorem lst_us {U : Int → Int → Prop} (h : LnU U S ln) {l : Int} (l0 : 0 ≤ l) (hl : ¬ lstL S ln l < 0) : U 2 (8 * lstL S ln l) ∧ lstL S ln l < 16 ∧ ln (lstL S ln l).toNat = l := by
  rcases mnI (fun k => - S 18 k) (fun k => ln k = l) 16 with g | g
  · exact absurd (show lstL S ln l = -1 from g.1) (by omega)
  · have e : mnL (fun k => - S 18 k) (fun k => ln k = l) 16 = lstL S ln l := rfl
    rw [e] at g
    have k := (h.2.1 (lstL S ln l).toNat (by omega) (by omega)).1
    rw [show (((lstL S ln l).toNat : Nat) : Int) = lstL S ln l by omega] at k
    exact ⟨k, g.2.1, g.2.2.1⟩
set_option maxHeartbeats 4000000 in
theorem k_joinLine (h : Rel w A S ln) (hA : CapA S) (hI : LnI S ln) {t : Nat} {l : Int} (hj : JnI S ln t l) (hu : us S 2 (8 * (t : Int))) (hl : us S 9 l) (hQ : ∀ w', Rel w' A S (lup ln t l) → Fr w w' 0 → Q none w') : WP P 7 0 [some (.ref (A 2 (8 * (t : Int)))), some (.ref (A 9 l))] [] w Q := by
  have hR : RgS s_zero := RgS.zero
  obtain ⟨l0, l1, l2⟩ := h.lin hl
  obtain ⟨u0, u1⟩ := h.thr hu
  have hl9 : x_has w (A 9 l) [3] := ⟨_, _, l0, by decide⟩
  have ht2 : x_has w (A 2 (8 * (t : Int))) [2] := ⟨_, _, u0, by decide⟩
  have j0 := hj.2.1
  have j1 := hj.2.2.1
  have nj : nxtL S ln t = -1 := by
    refine mnL_no (fun k hk x => ?_)
    omega
  by_cases c : lstL S ln l < 0
  · rw [pv_n c] at l2
    simp (disch := first | exact hR _ _ | exact x01a | exact x01b | (unfold x_r; omega) | assumption | omega) only [wK_joinLine_0, wK_joinLine_1, wK_joinLine_4n, wK_joinLine_4, wK_joinLine_7, wK_joinLine_8, wK_joinLine_9, wK_joinLine_12, wK_joinLine_15, wK_joinLine_16, wK_joinLine_19, wK_joinLine_20, wK_joinLine_23, wK_joinLine_24, wK_joinLine_25, wK_joinLine_28, wK_joinLine_29, wK_joinLine_30, wK_joinLine_33, x_has_put, x_f2r, hl9, ht2, l2, x_gi_int, x_ga_ref, x_ga_null, List.getElem?_cons_zero, List.getElem?_cons_succ, List.length_cons, List.length_nil, List.set_cons_zero, List.set_cons_succ, Nat.reduceAdd, Nat.reduceLT, xr_lt, xr_eq, xr_toInt, xr_0, xi_add, xi_sub, xi_mul, xr_div, xr_rm, Int.toNat_natCast, bd_t, true_and, and_true, not_false_eq_true, ↓reduceIte, ilt_t, ilt_f, ile_t, x_c1i, x_c1r, x_c1n, and_self, Option.toList_some, Option.toList_none, List.cons_append, List.nil_append, xr_01, xr_00, ieq_f, ieq_t]
    refine hQ _ (Hp.lines (ln := ln) (((h.put hl 0 _).put hl 1 _).put hu 10 _) hA (fun k i f c1 c2 => ?_) (fun k hk f c1 c2 => ?_) (fun k hk ku => ?_) (fun k hk ku => ?_) (fun q q0 qu => ?_) (fun q q0 qu => ?_)) (((h.put hl 0 _).put hl 1 _).frp ((h.put hl 0 _).frp (h.frp (Fr.refl w) hl 0 _) hl 1 _) hu 10 _)
    · rw [fup_n (by omega), fup_n (by omega), fup_n (by omega)]
    · rw [fup_n (by omega), fup_n (by omega), fup_n (by omega)]
    · by_cases d : k = t
      · rw [d, fup_e, lup_t, pv_r (by omega)]
      · rw [fup_n (by omega), fup_n (by omega), fup_n (by omega), lup_o d, Fv_thr]; rfl
    · rw [fup_n (by omega), fup_n (by omega), fup_n (by omega), Fv_thr]
      by_cases d : k = t
      · rw [d, jn_me hj]
        show some (pv (nxtL S ln t) _) = _
        rw [nj]
      · rw [jn_nxt hj hk d, if_neg (by omega)]; rfl
    · rw [fup_n (by omega)]
      by_cases d : q = l
      · rw [d, fup_n (by omega), fup_e, jn_fst hj, if_pos c, pv_r (by omega)]
      · rw [fup_n (by omega), fup_n (by omega), (jn_oth j1 d q0).1]; rfl
    · rw [fup_n (by omega)]
      by_cases d : q = l
      · rw [d, fup_e, jn_lst hj, pv_r (by omega)]
      · rw [fup_n (by omega), fup_n (by omega), (jn_oth j1 d q0).2]; rfl
  · rw [pv_r c] at l2
    obtain ⟨lu, lu1, lu2⟩ := lst_us hI j0 c
    obtain ⟨z0, -⟩ := h.thr lu
    have hz : x_has w (A 2 (8 * lstL S ln l)) [2] := ⟨_, _, z0, by decide⟩
    have ne : (lstL S ln l).toNat ≠ t := by
      intro e; rw [e] at lu2; omega
    have hne : ¬ (A 9 l = A 2 (8 * lstL S ln l)) := fun e => by have := (h.inj hl lu e).1; omega
    simp (disch := first | exact hR _ _ | exact x01a | exact x01b | (unfold x_r; omega) | assumption | omega) only [wK_joinLine_0, wK_joinLine_1, wK_joinLine_4n, wK_joinLine_4, wK_joinLine_7, wK_joinLine_8, wK_joinLine_9, wK_joinLine_12, wK_joinLine_15, wK_joinLine_16, wK_joinLine_19, wK_joinLine_20, wK_joinLine_23, wK_joinLine_24, wK_joinLine_25, wK_joinLine_28, wK_joinLine_29, wK_joinLine_30, wK_joinLine_33, x_has_put, x_f2r, hl9, ht2, hz, l2, x_gi_int, x_ga_ref, x_ga_null, List.getElem?_cons_zero, List.getElem?_cons_succ, List.length_cons, List.length_nil, List.set_cons_zero, List.set_cons_succ, Nat.reduceAdd, Nat.reduceLT, xr_lt, xr_eq, xr_toInt, xr_0, xi_add, xi_sub, xi_mul, xr_div, xr_rm, Int.toNat_natCast, bd_t, true_and, and_true, not_false_eq_true, ↓reduceIte, ilt_t, ilt_f, ile_t, x_c1i, x_c1r, x_c1n, and_self, Option.toList_some, Option.toList_none, List.cons_append, List.nil_append, xr_01, xr_00, ieq_f, ieq_t]
    refine hQ _ (Hp.lines (ln := ln) (((h.put lu 11 _).put hl 1 _).put hu 10 _) hA (fun k i f c1 c2 => ?_) (fun k hk f c1 c2 => ?_) (fun k hk ku => ?_) (fun k hk ku => ?_) (fun q q0 qu => ?_) (fun q q0 qu => ?_)) (((h.put lu 11 _).put hl 1 _).frp ((h.put lu 11 _).frp (h.frp (Fr.refl w) lu 11 _) hl 1 _) hu 10 _)
    · rw [fup_n (by omega), fup_n (by omega), fup_n (by omega)]
    · rw [fup_n (by omega), fup_n (by omega), fup_n (by omega)]
    · by_cases d : k = t
      · rw [d, fup_e, lup_t, pv_r (by omega)]
      · rw [fup_n (by omega), fup_n (by omega), fup_n (by omega), lup_o d, Fv_thr]; rfl
    · rw [fup_n (by omega), fup_n (by omega)]
      by_cases d : k = t
      · rw [d, jn_me hj, fup_n (by omega), Fv_thr]
        show some (pv (nxtL S ln t) _) = _
        rw [nj]
      · rw [jn_nxt hj hk d]
        by_cases e : (k : Int) = lstL S ln l
        · rw [e, fup_e, if_pos rfl, pv_r (by omega)]
        · rw [fup_n (by omega), if_neg e, Fv_thr]; rfl
    · rw [fup_n (by omega), fup_n (by omega), fup_n (by omega)]
      by_cases d : q = l
      · rw [d, jn_fst hj, if_neg c]; rfl
      · rw [(jn_oth j1 d q0).1]; rfl
    · rw [fup_n (by omega)]
      by_cases d : q = l
      · rw [d, fup_e, jn_lst hj, pv_r (by omega)]
      · rw [fup_n (by omega), fup_n (by omega), (jn_oth j1 d q0).2]; rfl
end KJ
