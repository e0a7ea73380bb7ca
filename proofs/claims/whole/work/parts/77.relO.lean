section LW
variable {S : xS} {ln : Nat → Int}
theorem nx_pr {U : Int → Int → Prop} (h : LnU U S ln) {c t : Nat} (hc : c < 16) (ht : t < 16) (l0 : 0 ≤ ln c) (e : ln t = ln c) (hs : S 18 c < S 18 t) : 0 ≤ nxtL S ln c ∧ nxtL S ln c < 16 ∧ ln (nxtL S ln c).toNat = ln c ∧ S 18 c < S 18 (nxtL S ln c).toNat ∧ S 18 (nxtL S ln c).toNat ≤ S 18 t ∧ prvL S ln (nxtL S ln c).toNat = (c : Int) := by
  have N := mnI (S 18) (fun k => ln k = ln c ∧ 0 ≤ ln c ∧ S 18 c < S 18 k) 16
  have Ne : mnL (S 18) (fun k => ln k = ln c ∧ 0 ≤ ln c ∧ S 18 c < S 18 k) 16 = nxtL S ln c := rfl
  rw [Ne] at N
  rcases N with N | N
  · exact absurd ⟨e, l0, hs⟩ (N.2 t ht)
  · have n1 := N.2.2.1
    refine ⟨N.1, N.2.1, n1.1, n1.2.2, N.2.2.2 t ht ⟨e, l0, hs⟩, ?_⟩
    refine mnL_eq hc ⟨by omega, by omega, n1.2.2⟩ (fun k hk x hne => ?_)
    have d := h.2.2 k c hk hc hne (by omega) l0
    by_cases y : S 18 c < S 18 k
    · have := N.2.2.2 k hk ⟨by omega, l0, y⟩
      omega
    · omega
theorem fs_pr {U : Int → Int → Prop} (h : LnU U S ln) {t : Nat} {l : Int} (ht : t < 16) (l0 : 0 ≤ l) (e : ln t = l) : 0 ≤ fstL S ln l ∧ fstL S ln l < 16 ∧ ln (fstL S ln l).toNat = l ∧ S 18 (fstL S ln l).toNat ≤ S 18 t ∧ prvL S ln (fstL S ln l).toNat = -1 := by
  have N := mnI (S 18) (fun k => ln k = l) 16
  have Ne : mnL (S 18) (fun k => ln k = l) 16 = fstL S ln l := rfl
  rw [Ne] at N
  rcases N with N | N
  · exact absurd e (N.2 t ht)
  · have n1 := N.2.2.1
    refine ⟨N.1, N.2.1, n1, N.2.2.2 t ht e, ?_⟩
    refine mnL_no (fun k hk x => ?_)
    have := N.2.2.2 k hk (by omega)
    omega
theorem cnt_lt {p p' : Nat → Prop} [DecidablePred p] [DecidablePred p'] (hp : ∀ k, p k → p' k) : ∀ (n z : Nat), z < n → p' z → ¬ p z → cntL p n < cntL p' n := by
  have le : ∀ n, cntL p n ≤ cntL p' n := by
    intro n
    induction n with
    | zero => exact Int.le_refl _
    | succ n ih =>
      unfold cntL
      by_cases c : p n
      · rw [if_pos c, if_pos (hp n c)]; omega
      · rw [if_neg c]; split <;> omega
  intro n
  induction n with
  | zero => intro z hz; omega
  | succ n ih =>
    intro z hz h1 h2
    unfold cntL
    by_cases c : z = n
    · rw [if_neg (c ▸ h2), if_pos (c ▸ h1)]
      have := le n
      omega
    · have := ih z (by omega) h1 h2
      by_cases d : p n
      · rw [if_pos d, if_pos (hp n d)]; omega
      · rw [if_neg d]; split <;> omega
end LW
/-- threads keep all but their line and their next -/
def FrT (w w' : xH) : Prop := ∀ a f, x_tg w a = some (2, 16) → f ≠ 10 → f ≠ 11 → x_fd w' a f = x_fd w a f
theorem FrT.refl (w : xH) : FrT w w := fun _ _ _ _ _ => rfl
theorem FrT.put {w w' : xH} (h : FrT w w') {a f : Nat} {v : Value} (hc : f = 10 ∨ f = 11 ∨ x_tg w a ≠ some (2, 16)) : FrT w (x_put w' a f v) := by
  intro b g e g1 g2
  rw [x_fd_put, if_neg, h b g e g1 g2]
  rintro ⟨rfl, rfl⟩
  rcases hc with c | c | c
  · exact g1 c
  · exact g2 c
  · exact c e
section KK
variable {P : xP} {w : xH} {Q : Option Value → xH → Prop} {A : xA} {S : xS} {ln : Nat → Int}
set_option maxHeartbeats 4000000 in
theorem k_ll_loop {U : Int → Int → Prop} (h : Hp w A U (xFv A S ln)) (hI : LnU U S ln) {t : Nat} {l : Int} (ht : t < 16) (l0 : 0 ≤ l) (hl : ln t = l) (hk : WP P 6 36 [some (.ref (A 2 (8 * (t : Int)))), some (.ref (A 9 l)), some (pv (prvL S ln t) (A 2 (8 * prvL S ln t))), some (.ref (A 2 (8 * (t : Int))))] [] w Q) : ∀ (n c : Nat), c < 16 → ln c = l → S 18 c ≤ S 18 t → cntL (fun k => ln k = l ∧ S 18 c < S 18 k) 16 ≤ n →
    WP P 6 17 [some (.ref (A 2 (8 * (t : Int)))), some (.ref (A 9 l)), some (pv (prvL S ln c) (A 2 (8 * prvL S ln c))), some (.ref (A 2 (8 * (c : Int))))] [] w Q := by
  have hR : RgS s_zero := RgS.zero
  intro n
  induction n with
  | zero =>
    intro c hc e hs hn
    by_cases d : c = t
    · rw [d]
      simp (disch := first | exact hR _ _ | exact x01a | exact x01b | (unfold x_r; omega) | assumption | omega) only [wK_leaveLine_17, wK_leaveLine_18n, wK_leaveLine_18, wK_leaveLine_21, wK_leaveLine_22, wK_leaveLine_23 (x_rv_r _) (x_rv_r _), x_gi_int, x_ga_ref, x_ga_null, List.getElem?_cons_zero, List.getElem?_cons_succ, List.length_cons, List.length_nil, List.set_cons_zero, List.set_cons_succ, Nat.reduceAdd, Nat.reduceLT, xr_lt, xr_eq, xr_toInt, xr_0, xi_add, xi_sub, xi_mul, xr_div, xr_rm, Int.toNat_natCast, bd_t, true_and, and_true, not_false_eq_true, ↓reduceIte, ilt_t, ilt_f, ile_t, x_c1i, x_c1r, x_c1n, and_self, Option.toList_some, Option.toList_none, List.cons_append, List.nil_append, xr_01, xr_00, ieq_f, ieq_t]
      exact hk
    · exfalso
      have := h.1
      have ne := hI.2.2 c t hc ht d (by omega) (by omega)
      have := cntL_of (fun k => ln k = l ∧ S 18 c < S 18 k) 16 t ht ⟨hl, by omega⟩
      omega
  | succ n ih =>
    intro c hc e hs hn
    by_cases d : c = t
    · rw [d]
      simp (disch := first | exact hR _ _ | exact x01a | exact x01b | (unfold x_r; omega) | assumption | omega) only [wK_leaveLine_17, wK_leaveLine_18n, wK_leaveLine_18, wK_leaveLine_21, wK_leaveLine_22, wK_leaveLine_23 (x_rv_r _) (x_rv_r _), x_gi_int, x_ga_ref, x_ga_null, List.getElem?_cons_zero, List.getElem?_cons_succ, List.length_cons, List.length_nil, List.set_cons_zero, List.set_cons_succ, Nat.reduceAdd, Nat.reduceLT, xr_lt, xr_eq, xr_toInt, xr_0, xi_add, xi_sub, xi_mul, xr_div, xr_rm, Int.toNat_natCast, bd_t, true_and, and_true, not_false_eq_true, ↓reduceIte, ilt_t, ilt_f, ile_t, x_c1i, x_c1r, x_c1n, and_self, Option.toList_some, Option.toList_none, List.cons_append, List.nil_append, xr_01, xr_00, ieq_f, ieq_t]
      exact hk
    · have ne := hI.2.2 c t hc ht d (by omega) (by omega)
      obtain ⟨q0, q1, q2, q3, q4, q5⟩ := nx_pr hI hc ht (by omega) (by omega) (by omega)
      have uc := (hI.2.1 c hc (by omega)).1
      have ut := (hI.2.1 t ht (by omega)).1
      obtain ⟨z0, z1, z2, z3, z4, z5, z6, z7, z8, z9, z10, z11, z12⟩ := h.thr uc
      have hz : x_has w (A 2 (8 * (c : Int))) [2] := ⟨_, _, z0, by decide⟩
      rw [Int.toNat_natCast, pv_r (by omega)] at z12
      have nq : ¬ some (A 2 (8 * (c : Int))) = some (A 2 (8 * (t : Int))) := by
        intro x
        have := (h.inj uc ut (Option.some.inj x)).2
        omega
      have i := ih (nxtL S ln c).toNat (by omega) (by omega) (by omega) (by
        have := cnt_lt (p := fun k => ln k = l ∧ S 18 (nxtL S ln c).toNat < S 18 k) (p' := fun k => ln k = l ∧ S 18 c < S 18 k) (fun k x => ⟨x.1, by omega⟩) 16 (nxtL S ln c).toNat (by omega) ⟨by omega, q3⟩ (fun x => by omega)
        omega)
      rw [q5, show (((nxtL S ln c).toNat : Nat) : Int) = nxtL S ln c by omega, pv_r (by omega)] at i
      rw [wK_leaveLine_17]
      simp (disch := first | exact hR _ _ | exact x01a | exact x01b | (unfold x_r; omega) | assumption | omega) only [wK_leaveLine_18n, wK_leaveLine_18, wK_leaveLine_21, wK_leaveLine_22, wK_leaveLine_23 (x_rv_r _) (x_rv_r _), wK_leaveLine_26, wK_leaveLine_27, wK_leaveLine_27n, wK_leaveLine_28, wK_leaveLine_29, wK_leaveLine_32, wK_leaveLine_32n, wK_leaveLine_33, nq, hz, z12, x_gi_int, x_ga_ref, x_ga_null, List.getElem?_cons_zero, List.getElem?_cons_succ, List.length_cons, List.length_nil, List.set_cons_zero, List.set_cons_succ, Nat.reduceAdd, Nat.reduceLT, xr_lt, xr_eq, xr_toInt, xr_0, xi_add, xi_sub, xi_mul, xr_div, xr_rm, Int.toNat_natCast, bd_t, true_and, and_true, not_false_eq_true, ↓reduceIte, ilt_t, ilt_f, ile_t, x_c1i, x_c1r, x_c1n, and_self, Option.toList_some, Option.toList_none, List.cons_append, List.nil_append, xr_01, xr_00, ieq_f, ieq_t]
      exact i
theorem prv_us {U : Int → Int → Prop} (h : LnU U S ln) {t : Nat} (ht : t < 16) (hl : ¬ prvL S ln t < 0) : U 2 (8 * prvL S ln t) ∧ prvL S ln t < 16 ∧ (prvL S ln t).toNat ≠ t := by
  rcases mnI (fun k => - S 18 k) (fun k => ln k = ln t ∧ 0 ≤ ln t ∧ S 18 k < S 18 t) 16 with g | g
  · exact absurd (show prvL S ln t = -1 from g.1) (by omega)
  · have e : mnL (fun k => - S 18 k) (fun k => ln k = ln t ∧ 0 ≤ ln t ∧ S 18 k < S 18 t) 16 = prvL S ln t := rfl
    rw [e] at g
    have k := (h.2.1 (prvL S ln t).toNat (by omega) (by omega)).1
    rw [show (((prvL S ln t).toNat : Nat) : Int) = prvL S ln t by omega] at k
    refine ⟨k, g.2.1, fun x => ?_⟩
    have := g.2.2.1.2.2
    rw [x] at this
    omega
set_option maxHeartbeats 8000000 in
theorem k_leaveLineU {U : Int → Int → Prop} (h : Hp w A U (xFv A S ln)) (hU2 : ∀ u, U 2 u → ∃ t : Nat, t < 16 ∧ u = 8 * (t : Int)) (hU9 : ∀ l, U 9 l → 0 ≤ l) (hI : LnU U S ln) {t : Nat} (ht : t < 16) (hu : U 2 (8 * (t : Int))) {l1 l2 l3 : Option Value} (hQ : ∀ w', Hp w' A U (xFv A S (lup ln t (-1))) → Fr w w' 0 → FrT w w' → Q none w') : WP P 6 0 [some (.ref (A 2 (8 * (t : Int)))), l1, l2, l3] [] w Q := by
  have hR : RgS s_zero := RgS.zero
  obtain ⟨z0, z1, z2, z3, z4, z5, z6, z7, z8, z9, z10, z11, z12⟩ := h.thr hu
  rw [Int.toNat_natCast] at z11 z12
  have hz : x_has w (A 2 (8 * (t : Int))) [2] := ⟨_, _, z0, by decide⟩
  by_cases c0 : ln t < 0
  · rw [pv_n c0] at z11
    have e : lup ln t (-1) = ln := by
      funext k
      by_cases d : k = t
      · rw [d, lup_t]
        have := hI.1 t ht
        omega
      · rw [lup_o d]
    rw [e] at hQ
    simp (disch := first | exact hR _ _ | exact x01a | exact x01b | (unfold x_r; omega) | assumption | omega) only [wK_leaveLine_0, wK_leaveLine_1, wK_leaveLine_4, wK_leaveLine_4n, wK_leaveLine_5, wK_leaveLine_6n, wK_leaveLine_6, wK_leaveLine_9, hz, z11, x_gi_int, x_ga_ref, x_ga_null, List.getElem?_cons_zero, List.getElem?_cons_succ, List.length_cons, List.length_nil, List.set_cons_zero, List.set_cons_succ, Nat.reduceAdd, Nat.reduceLT, xr_lt, xr_eq, xr_toInt, xr_0, xi_add, xi_sub, xi_mul, xr_div, xr_rm, Int.toNat_natCast, bd_t, true_and, and_true, not_false_eq_true, ↓reduceIte, ilt_t, ilt_f, ile_t, x_c1i, x_c1r, x_c1n, and_self, Option.toList_some, Option.toList_none, List.cons_append, List.nil_append, xr_01, xr_00, ieq_f, ieq_t]
    exact hQ w h (Fr.refl w) (FrT.refl w)
  rw [pv_r c0] at z11
  have hl := (hI.2.1 t ht (by omega)).2
  obtain ⟨y0, y1, y2⟩ := h.lin hl
  have hy : x_has w (A 9 (ln t)) [3] := ⟨_, _, y0, by decide⟩
  have yn : x_tg w (A 9 (ln t)) ≠ some (2, 16) := by rw [y0]; simp
  obtain ⟨q0, q1, q2, q3, q4⟩ := fs_pr hI ht (by omega) rfl
  rw [pv_r (by omega)] at y1
  simp (disch := first | exact hR _ _ | exact x01a | exact x01b | (unfold x_r; omega) | assumption | omega) only [wK_leaveLine_0, wK_leaveLine_1, wK_leaveLine_4, wK_leaveLine_4n, wK_leaveLine_5, wK_leaveLine_6n, wK_leaveLine_6, wK_leaveLine_10, wK_leaveLine_11, wK_leaveLine_11n, wK_leaveLine_12, wK_leaveLine_13, wK_leaveLine_16, wK_leaveLine_16n, hz, hy, z11, y1, x_gi_int, x_ga_ref, x_ga_null, List.getElem?_cons_zero, List.getElem?_cons_succ, List.length_cons, List.length_nil, List.set_cons_zero, List.set_cons_succ, Nat.reduceAdd, Nat.reduceLT, xr_lt, xr_eq, xr_toInt, xr_0, xi_add, xi_sub, xi_mul, xr_div, xr_rm, Int.toNat_natCast, bd_t, true_and, and_true, not_false_eq_true, ↓reduceIte, ilt_t, ilt_f, ile_t, x_c1i, x_c1r, x_c1n, and_self, Option.toList_some, Option.toList_none, List.cons_append, List.nil_append, xr_01, xr_00, ieq_f, ieq_t]
  have lp := k_ll_loop (P := P) (Q := Q) h hI ht (by omega) rfl ?_ 16 (fstL S ln (ln t)).toNat (by omega) q2 q3 (cntL_in _ 16).2
  · rw [q4, pv_n (by omega), show (((fstL S ln (ln t)).toNat : Nat) : Int) = fstL S ln (ln t) by omega] at lp
    exact lp
  obtain ⟨l, el⟩ : ∃ l, ln t = l := ⟨_, rfl⟩
  rw [el] at c0 z11 hl y0 y1 y2 hy yn ⊢
  have gl := lv_lst hI ht el (by omega)
  have gf := lv_fst hI ht el (by omega)
  have gn := fun k hk hne => lv_nxt hI ht (by omega) (k := k) hk hne
  have cm : lstL S ln l = (t : Int) ∨ ¬ lstL S ln l = (t : Int) := by omega
  have L0 : 0 ≤ lstL S ln l := by
    rcases mnI (fun k => - S 18 k) (fun k => ln k = l) 16 with g | g
    · exact absurd el (g.2 t ht)
    · exact g.1
  rw [pv_r (by omega)] at y2
  have lu := lst_us hI (by omega) (l := l) (by omega)
  by_cases c1 : prvL S ln t < 0
  · rw [if_pos c1] at gf
    rw [pv_n c1]
    by_cases c2 : lstL S ln l = (t : Int)
    · rw [if_pos c2] at gl
      rw [c2] at y2
      simp (disch := first | exact hR _ _ | exact x01a | exact x01b | (unfold x_r; omega) | assumption | omega) only [wK_leaveLine_36, wK_leaveLine_37n, wK_leaveLine_37, wK_leaveLine_40, wK_leaveLine_41, wK_leaveLine_42, wK_leaveLine_45, wK_leaveLine_48, wK_leaveLine_51, wK_leaveLine_52, wK_leaveLine_53, wK_leaveLine_56, wK_leaveLine_59, wK_leaveLine_60, wK_leaveLine_63, wK_leaveLine_64 (x_rv_r _) (x_rv_r _), wK_leaveLine_67, wK_leaveLine_68, wK_leaveLine_69, wK_leaveLine_72, wK_leaveLine_73, wK_leaveLine_74, wK_leaveLine_77, wK_leaveLine_78, wK_leaveLine_79, wK_leaveLine_82, x_has_put, x_fd_put, x_f2p, x_f2n, z12, y2, hz, hy, sset_at, Nat.reduceEqDiff, false_and, and_false, eq_self, and_self, reduceCtorEq, x_gi_int, x_ga_ref, x_ga_null, List.getElem?_cons_zero, List.getElem?_cons_succ, List.length_cons, List.length_nil, List.set_cons_zero, List.set_cons_succ, Nat.reduceAdd, Nat.reduceLT, xr_lt, xr_eq, xr_toInt, xr_0, xi_add, xi_sub, xi_mul, xr_div, xr_rm, Int.toNat_natCast, bd_t, true_and, and_true, not_false_eq_true, ↓reduceIte, ilt_t, ilt_f, ile_t, x_c1i, x_c1r, x_c1n, and_self, Option.toList_some, Option.toList_none, List.cons_append, List.nil_append, xr_01, xr_00, ieq_f, ieq_t]
      refine hQ _ (Hp.linesU (ln := ln) ((((h.put hl 0 _).put hl 1 _).put hu 11 _).put hu 10 _) hU2 hU9 (fun k i f c1 c2 => ?_) (fun k hk f c1 c2 => ?_) (fun k hk ku => ?_) (fun k hk ku => ?_) (fun q q0 qu => ?_) (fun q q0 qu => ?_)) ((((h.put hl 0 _).put hl 1 _).put hu 11 _).frp (((h.put hl 0 _).put hl 1 _).frp ((h.put hl 0 _).frp (h.frp (Fr.refl w) hl 0 _) hl 1 _) hu 11 _) hu 10 _) (((((FrT.refl w).put (Or.inr (Or.inr yn))).put (Or.inr (Or.inr yn))).put (Or.inr (Or.inl rfl))).put (Or.inl rfl))
      · rw [fup_n (by omega), fup_n (by omega), fup_n (by omega), fup_n (by omega)]
      · rw [fup_n (by omega), fup_n (by omega), fup_n (by omega), fup_n (by omega)]
      · by_cases d : k = t
        · rw [d, fup_e, lup_t]; rfl
        · rw [fup_n (by omega), fup_n (by omega), fup_n (by omega), fup_n (by omega), lup_o d, Fv_thr]; rfl
      · rw [fup_n (by omega)]
        by_cases d : k = t
        · rw [d, fup_e, lv_me]; rfl
        · rw [fup_n (by omega), fup_n (by omega), fup_n (by omega), gn k hk d, if_neg (by omega), Fv_thr]; rfl
      · rw [fup_n (by omega), fup_n (by omega)]
        by_cases d : q = l
        · rw [d, fup_n (by omega), fup_e, gf]
        · rw [fup_n (by omega), fup_n (by omega), (lv_oth (by omega) q0).1]; rfl
      · rw [fup_n (by omega), fup_n (by omega)]
        by_cases d : q = l
        · rw [d, fup_e, gl, pv_n c1]
        · rw [fup_n (by omega), fup_n (by omega), (lv_oth (by omega) q0).2]; rfl
    · rw [if_neg c2] at gl
      have nq : ¬ some (A 2 (8 * lstL S ln l)) = some (A 2 (8 * (t : Int))) := by
        intro x
        have := (h.inj lu.1 hu (Option.some.inj x)).2
        omega
      simp (disch := first | exact hR _ _ | exact x01a | exact x01b | (unfold x_r; omega) | assumption | omega) only [wK_leaveLine_36, wK_leaveLine_37n, wK_leaveLine_37, wK_leaveLine_40, wK_leaveLine_41, wK_leaveLine_42, wK_leaveLine_45, wK_leaveLine_48, wK_leaveLine_51, wK_leaveLine_52, wK_leaveLine_53, wK_leaveLine_56, wK_leaveLine_59, wK_leaveLine_60, wK_leaveLine_63, wK_leaveLine_64 (x_rv_r _) (x_rv_r _), wK_leaveLine_72, wK_leaveLine_73, wK_leaveLine_74, wK_leaveLine_77, wK_leaveLine_78, wK_leaveLine_79, wK_leaveLine_82, x_has_put, x_fd_put, x_f2p, x_f2n, z12, y2, nq, hz, hy, sset_at, Nat.reduceEqDiff, false_and, and_false, eq_self, and_self, reduceCtorEq, x_gi_int, x_ga_ref, x_ga_null, List.getElem?_cons_zero, List.getElem?_cons_succ, List.length_cons, List.length_nil, List.set_cons_zero, List.set_cons_succ, Nat.reduceAdd, Nat.reduceLT, xr_lt, xr_eq, xr_toInt, xr_0, xi_add, xi_sub, xi_mul, xr_div, xr_rm, Int.toNat_natCast, bd_t, true_and, and_true, not_false_eq_true, ↓reduceIte, ilt_t, ilt_f, ile_t, x_c1i, x_c1r, x_c1n, and_self, Option.toList_some, Option.toList_none, List.cons_append, List.nil_append, xr_01, xr_00, ieq_f, ieq_t]
      refine hQ _ (Hp.linesU (ln := ln) (((h.put hl 0 _).put hu 11 _).put hu 10 _) hU2 hU9 (fun k i f c1 c2 => ?_) (fun k hk f c1 c2 => ?_) (fun k hk ku => ?_) (fun k hk ku => ?_) (fun q q0 qu => ?_) (fun q q0 qu => ?_)) (((h.put hl 0 _).put hu 11 _).frp ((h.put hl 0 _).frp (h.frp (Fr.refl w) hl 0 _) hu 11 _) hu 10 _) ((((FrT.refl w).put (Or.inr (Or.inr yn))).put (Or.inr (Or.inl rfl))).put (Or.inl rfl))
      · rw [fup_n (by omega), fup_n (by omega), fup_n (by omega)]
      · rw [fup_n (by omega), fup_n (by omega), fup_n (by omega)]
      · by_cases d : k = t
        · rw [d, fup_e, lup_t]; rfl
        · rw [fup_n (by omega), fup_n (by omega), fup_n (by omega), lup_o d, Fv_thr]; rfl
      · rw [fup_n (by omega)]
        by_cases d : k = t
        · rw [d, fup_e, lv_me]; rfl
        · rw [fup_n (by omega), fup_n (by omega), gn k hk d, if_neg (by omega), Fv_thr]; rfl
      · rw [fup_n (by omega), fup_n (by omega)]
        by_cases d : q = l
        · rw [d, fup_e, gf]
        · rw [fup_n (by omega), (lv_oth (by omega) q0).1]; rfl
      · rw [fup_n (by omega), fup_n (by omega), fup_n (by omega)]
        by_cases d : q = l
        · rw [d, gl]; rfl
        · rw [(lv_oth (by omega) q0).2]; rfl
  · rw [if_neg c1] at gf
    rw [pv_r c1]
    obtain ⟨pu, p1, p2⟩ := prv_us hI ht c1
    obtain ⟨b0, -⟩ := h.thr pu
    have hb : x_has w (A 2 (8 * prvL S ln t)) [2] := ⟨_, _, b0, by decide⟩
    by_cases c2 : lstL S ln l = (t : Int)
    · rw [if_pos c2] at gl
      rw [c2] at y2
      simp (disch := first | exact hR _ _ | exact x01a | exact x01b | (unfold x_r; omega) | assumption | omega) only [wK_leaveLine_36, wK_leaveLine_37n, wK_leaveLine_37, wK_leaveLine_40, wK_leaveLine_41, wK_leaveLine_42, wK_leaveLine_45, wK_leaveLine_48, wK_leaveLine_51, wK_leaveLine_52, wK_leaveLine_53, wK_leaveLine_56, wK_leaveLine_59, wK_leaveLine_60, wK_leaveLine_63, wK_leaveLine_64 (x_rv_r _) (x_rv_r _), wK_leaveLine_67, wK_leaveLine_68, wK_leaveLine_69, wK_leaveLine_72, wK_leaveLine_73, wK_leaveLine_74, wK_leaveLine_77, wK_leaveLine_78, wK_leaveLine_79, wK_leaveLine_82, x_has_put, x_fd_put, x_f2p, x_f2n, x_f2r, z12, y2, hz, hy, hb, sset_at, Nat.reduceEqDiff, false_and, and_false, eq_self, and_self, reduceCtorEq, x_gi_int, x_ga_ref, x_ga_null, List.getElem?_cons_zero, List.getElem?_cons_succ, List.length_cons, List.length_nil, List.set_cons_zero, List.set_cons_succ, Nat.reduceAdd, Nat.reduceLT, xr_lt, xr_eq, xr_toInt, xr_0, xi_add, xi_sub, xi_mul, xr_div, xr_rm, Int.toNat_natCast, bd_t, true_and, and_true, not_false_eq_true, ↓reduceIte, ilt_t, ilt_f, ile_t, x_c1i, x_c1r, x_c1n, and_self, Option.toList_some, Option.toList_none, List.cons_append, List.nil_append, xr_01, xr_00, ieq_f, ieq_t]
      refine hQ _ (Hp.linesU (ln := ln) ((((h.put pu 11 _).put hl 1 _).put hu 11 _).put hu 10 _) hU2 hU9 (fun k i f c1 c2 => ?_) (fun k hk f c1 c2 => ?_) (fun k hk ku => ?_) (fun k hk ku => ?_) (fun q q0 qu => ?_) (fun q q0 qu => ?_)) ((((h.put pu 11 _).put hl 1 _).put hu 11 _).frp (((h.put pu 11 _).put hl 1 _).frp ((h.put pu 11 _).frp (h.frp (Fr.refl w) pu 11 _) hl 1 _) hu 11 _) hu 10 _) (((((FrT.refl w).put (Or.inr (Or.inl rfl))).put (Or.inr (Or.inr yn))).put (Or.inr (Or.inl rfl))).put (Or.inl rfl))
      · rw [fup_n (by omega), fup_n (by omega), fup_n (by omega), fup_n (by omega)]
      · rw [fup_n (by omega), fup_n (by omega), fup_n (by omega), fup_n (by omega)]
      · by_cases d : k = t
        · rw [d, fup_e, lup_t]; rfl
        · rw [fup_n (by omega), fup_n (by omega), fup_n (by omega), fup_n (by omega), lup_o d, Fv_thr]; rfl
      · rw [fup_n (by omega)]
        by_cases d : k = t
        · rw [d, fup_e, lv_me]; rfl
        · rw [fup_n (by omega), fup_n (by omega), gn k hk d]
          by_cases e : (k : Int) = prvL S ln t
          · rw [e, fup_e, if_pos rfl]
          · rw [fup_n (by omega), if_neg e, Fv_thr]; rfl
      · rw [fup_n (by omega), fup_n (by omega), fup_n (by omega), fup_n (by omega)]
        by_cases d : q = l
        · rw [d, gf]; rfl
        · rw [(lv_oth (by omega) q0).1]; rfl
      · rw [fup_n (by omega), fup_n (by omega)]
        by_cases d : q = l
        · rw [d, fup_e, gl, pv_r c1]
        · rw [fup_n (by omega), fup_n (by omega), (lv_oth (by omega) q0).2]; rfl
    · rw [if_neg c2] at gl
      have nq : ¬ some (A 2 (8 * lstL S ln l)) = some (A 2 (8 * (t : Int))) := by
        intro x
        have := (h.inj lu.1 hu (Option.some.inj x)).2
        omega
      simp (disch := first | exact hR _ _ | exact x01a | exact x01b | (unfold x_r; omega) | assumption | omega) only [wK_leaveLine_36, wK_leaveLine_37n, wK_leaveLine_37, wK_leaveLine_40, wK_leaveLine_41, wK_leaveLine_42, wK_leaveLine_45, wK_leaveLine_48, wK_leaveLine_51, wK_leaveLine_52, wK_leaveLine_53, wK_leaveLine_56, wK_leaveLine_59, wK_leaveLine_60, wK_leaveLine_63, wK_leaveLine_64 (x_rv_r _) (x_rv_r _), wK_leaveLine_72, wK_leaveLine_73, wK_leaveLine_74, wK_leaveLine_77, wK_leaveLine_78, wK_leaveLine_79, wK_leaveLine_82, x_has_put, x_fd_put, x_f2p, x_f2n, x_f2r, z12, y2, nq, hz, hy, hb, sset_at, Nat.reduceEqDiff, false_and, and_false, eq_self, and_self, reduceCtorEq, x_gi_int, x_ga_ref, x_ga_null, List.getElem?_cons_zero, List.getElem?_cons_succ, List.length_cons, List.length_nil, List.set_cons_zero, List.set_cons_succ, Nat.reduceAdd, Nat.reduceLT, xr_lt, xr_eq, xr_toInt, xr_0, xi_add, xi_sub, xi_mul, xr_div, xr_rm, Int.toNat_natCast, bd_t, true_and, and_true, not_false_eq_true, ↓reduceIte, ilt_t, ilt_f, ile_t, x_c1i, x_c1r, x_c1n, and_self, Option.toList_some, Option.toList_none, List.cons_append, List.nil_append, xr_01, xr_00, ieq_f, ieq_t]
      refine hQ _ (Hp.linesU (ln := ln) (((h.put pu 11 _).put hu 11 _).put hu 10 _) hU2 hU9 (fun k i f c1 c2 => ?_) (fun k hk f c1 c2 => ?_) (fun k hk ku => ?_) (fun k hk ku => ?_) (fun q q0 qu => ?_) (fun q q0 qu => ?_)) (((h.put pu 11 _).put hu 11 _).frp ((h.put pu 11 _).frp (h.frp (Fr.refl w) pu 11 _) hu 11 _) hu 10 _) ((((FrT.refl w).put (Or.inr (Or.inl rfl))).put (Or.inr (Or.inl rfl))).put (Or.inl rfl))
      · rw [fup_n (by omega), fup_n (by omega), fup_n (by omega)]
      · rw [fup_n (by omega), fup_n (by omega), fup_n (by omega)]
      · by_cases d : k = t
        · rw [d, fup_e, lup_t]; rfl
        · rw [fup_n (by omega), fup_n (by omega), fup_n (by omega), lup_o d, Fv_thr]; rfl
      · rw [fup_n (by omega)]
        by_cases d : k = t
        · rw [d, fup_e, lv_me]; rfl
        · rw [fup_n (by omega), gn k hk d]
          by_cases e : (k : Int) = prvL S ln t
          · rw [e, fup_e, if_pos rfl]
          · rw [fup_n (by omega), if_neg e, Fv_thr]; rfl
      · rw [fup_n (by omega), fup_n (by omega), fup_n (by omega)]
        by_cases d : q = l
        · rw [d, gf]; rfl
        · rw [(lv_oth (by omega) q0).1]; rfl
      · rw [fup_n (by omega), fup_n (by omega), fup_n (by omega)]
        by_cases d : q = l
        · rw [d, gl]; rfl
        · rw [(lv_oth (by omega) q0).2]; rfl
theorem k_leaveLine (h : Rel w A S ln) (hA : CapA S) (hI : LnI S ln) {t : Nat} (ht : t < 16) (hu : us S 2 (8 * (t : Int))) {l1 l2 l3 : Option Value} (hQ : ∀ w', Rel w' A S (lup ln t (-1)) → Fr w w' 0 → FrT w w' → Q none w') : WP P 6 0 [some (.ref (A 2 (8 * (t : Int)))), l1, l2, l3] [] w Q :=
  k_leaveLineU h (fun _ u => us_2 hA u) (fun _ u => us_9 hA u) hI ht hu hQ
end KK
