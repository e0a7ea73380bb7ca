/-! ===== removing ===== -/
section RA
variable {P : xP} {w : xH} {Q : Option Value → xH → Prop} {A : xA} {S : xS} {ln : Nat → Int}
/-- what loops over the slots ask for -/
def SlH (w : xH) (A : xA) (S : xS) : Prop := x_tg w (A 12 0) = some (0, 4) ∧ x_tg w (A 12 1) = some (31, 128) ∧ x_fd w (A 12 0) 0 = .ref (A 12 1) ∧ ∀ q : Nat, q < 128 → x_fd w (A 12 1) q = pv (S 0 q) (A 8 (q : Int)) ∧ (0 ≤ S 0 q → x_tg w (A 8 (q : Int)) = some (1, 8))
set_option maxHeartbeats 4000000 in
theorem k_cfor_loop (h : SlH w A S) (hc0 : ∀ q : Nat, q < 128 → 0 ≤ S 0 q → x_fd w (A 8 (q : Int)) 0 = .ref (thA A S (q : Int))) {T : Nat} (p : Nat → Prop) [DecidablePred p] (hx : ∀ q : Nat, q < 128 → 0 ≤ S 0 q → (thA A S (q : Int) = T ↔ p q)) (hQ : Q (some (.int (xi (cntL (fun q => 0 ≤ S 0 q ∧ p q) 128)))) w) : ∀ (d i : Nat), i + d = 128 → ∀ l4 : Option Value,
    WP P 31 4 [some (.ref (A 12 0)), some (.ref T), some (.int (xi (cntL (fun q => 0 ≤ S 0 q ∧ p q) i))), some (.int (xi i)), l4] [] w Q := by
  obtain ⟨t0, t1, f0, hs⟩ := h
  have hk : x_has w (A 12 0) [0] := ⟨_, _, t0, by decide⟩
  have hR : RgS s_zero := RgS.zero
  intro d
  induction d with
  | zero =>
    intro i hi l4
    obtain rfl : i = 128 := by omega
    have cb := cntL_in (fun q => 0 ≤ S 0 q ∧ p q) 128
    simp (disch := first | exact hR _ _ | exact x01a | exact x01b | (unfold x_r; omega) | assumption | omega) only [wK_capabilitiesFor_4, wK_capabilitiesFor_5, wK_capabilitiesFor_8, wK_capabilitiesFor_42, wK_capabilitiesFor_43, x_gi_int, x_ga_ref, x_ga_null, List.getElem?_cons_zero, List.getElem?_cons_succ, List.length_cons, List.length_nil, List.set_cons_zero, List.set_cons_succ, Nat.reduceAdd, Nat.reduceLT, xr_lt, xr_eq, xr_toInt, xr_0, xi_add, xi_sub, xi_mul, xr_div, xr_rm, Int.toNat_natCast, bd_t, true_and, and_true, not_false_eq_true, ↓reduceIte, ilt_t, ilt_f, ile_t, x_c1i, x_c1r, x_c1n, and_self, Option.toList_some, Option.toList_none, List.cons_append, List.nil_append, xr_01, xr_00, ieq_f, ieq_t]
    exact hQ
  | succ d ih =>
    intro i hi l4
    obtain ⟨sl, tg⟩ := hs i (by omega)
    have ec : (xi (i : Int)).toNatClampNeg = i := by rw [x_cle (by omega) (by omega), Int.toNat_natCast]
    have nn := x_nn (e := (i : Int)) (by omega) (by omega)
    have nc := x_clt (e := (i : Int)) (n := 128) (by omega) (by omega) (by omega)
    have cb := cntL_in (fun q => 0 ≤ S 0 q ∧ p q) i
    have e1 : (i : Int) + 1 = ((i + 1 : Nat) : Int) := by omega
    rw [wK_capabilitiesFor_4]
    by_cases c1 : S 0 i < 0
    · rw [pv_n c1] at sl
      have ce : cntL (fun q => 0 ≤ S 0 q ∧ p q) (i + 1) = cntL (fun q => 0 ≤ S 0 q ∧ p q) i := by
        conv => lhs; unfold cntL
        rw [if_neg (fun x => by omega)]
        omega
      have i1 := ih (i + 1) (by omega) (some .null)
      rw [ce] at i1
      simp (disch := first | exact hR _ _ | exact x01a | exact x01b | (unfold x_r; omega) | assumption | omega) only [wK_capabilitiesFor_5, wK_capabilitiesFor_8, wK_capabilitiesFor_11, wK_capabilitiesFor_12, wK_capabilitiesFor_15, wK_capabilitiesFor_16 t1 (by omega) nn nc, wK_capabilitiesFor_17, wK_capabilitiesFor_17n, wK_capabilitiesFor_19, wK_capabilitiesFor_21n, wK_capabilitiesFor_21, wK_capabilitiesFor_36, wK_capabilitiesFor_39, hk, f0, ec, sl, e1, x_gi_int, x_ga_ref, x_ga_null, List.getElem?_cons_zero, List.getElem?_cons_succ, List.length_cons, List.length_nil, List.set_cons_zero, List.set_cons_succ, Nat.reduceAdd, Nat.reduceLT, xr_lt, xr_eq, xr_toInt, xr_0, xi_add, xi_sub, xi_mul, xr_div, xr_rm, Int.toNat_natCast, bd_t, true_and, and_true, not_false_eq_true, ↓reduceIte, ilt_t, ilt_f, ile_t, x_c1i, x_c1r, x_c1n, and_self, Option.toList_some, Option.toList_none, List.cons_append, List.nil_append, xr_01, xr_00, ieq_f, ieq_t]
      exact i1
    · rw [pv_r c1] at sl
      have ct := tg (by omega)
      have c0 := hc0 i (by omega) (by omega)
      have hc : x_has w (A 8 (i : Int)) [1] := ⟨_, _, ct, by decide⟩
      have hx1 := hx i (by omega) (by omega)
      have hqe : some (thA A S (i : Int)) = some T ↔ p i := by rw [← hx1]; exact ⟨fun e => Option.some.inj e, fun e => by rw [e]⟩
      by_cases c2 : p i
      · have ce : cntL (fun q => 0 ≤ S 0 q ∧ p q) (i + 1) = cntL (fun q => 0 ≤ S 0 q ∧ p q) i + 1 := by
          conv => lhs; unfold cntL
          rw [if_pos ⟨by omega, c2⟩]
        have i1 := ih (i + 1) (by omega) (some (.ref (A 8 (i : Int))))
        rw [ce] at i1
        have hq2 := hqe.2 c2
        simp (disch := first | exact hR _ _ | exact x01a | exact x01b | (unfold x_r; omega) | assumption | omega) only [wK_capabilitiesFor_5, wK_capabilitiesFor_8, wK_capabilitiesFor_11, wK_capabilitiesFor_12, wK_capabilitiesFor_15, wK_capabilitiesFor_16 t1 (by omega) nn nc, wK_capabilitiesFor_17, wK_capabilitiesFor_17n, wK_capabilitiesFor_19, wK_capabilitiesFor_21n, wK_capabilitiesFor_21, wK_capabilitiesFor_24, wK_capabilitiesFor_26, wK_capabilitiesFor_29, wK_capabilitiesFor_30 (x_rv_r _) (x_rv_r T), wK_capabilitiesFor_33, wK_capabilitiesFor_36, wK_capabilitiesFor_39, hk, hc, f0, ec, sl, c0, e1, hq2, x_gi_int, x_ga_ref, x_ga_null, List.getElem?_cons_zero, List.getElem?_cons_succ, List.length_cons, List.length_nil, List.set_cons_zero, List.set_cons_succ, Nat.reduceAdd, Nat.reduceLT, xr_lt, xr_eq, xr_toInt, xr_0, xi_add, xi_sub, xi_mul, xr_div, xr_rm, Int.toNat_natCast, bd_t, true_and, and_true, not_false_eq_true, ↓reduceIte, ilt_t, ilt_f, ile_t, x_c1i, x_c1r, x_c1n, and_self, Option.toList_some, Option.toList_none, List.cons_append, List.nil_append, xr_01, xr_00, ieq_f, ieq_t]
        exact i1
      · have ce : cntL (fun q => 0 ≤ S 0 q ∧ p q) (i + 1) = cntL (fun q => 0 ≤ S 0 q ∧ p q) i := by
          conv => lhs; unfold cntL
          rw [if_neg (fun x => c2 x.2)]
          omega
        have i1 := ih (i + 1) (by omega) (some (.ref (A 8 (i : Int))))
        rw [ce] at i1
        have hq2 : ¬ some (thA A S (i : Int)) = some T := fun x => c2 (hqe.1 x)
        simp (disch := first | exact hR _ _ | exact x01a | exact x01b | (unfold x_r; omega) | assumption | omega) only [wK_capabilitiesFor_5, wK_capabilitiesFor_8, wK_capabilitiesFor_11, wK_capabilitiesFor_12, wK_capabilitiesFor_15, wK_capabilitiesFor_16 t1 (by omega) nn nc, wK_capabilitiesFor_17, wK_capabilitiesFor_17n, wK_capabilitiesFor_19, wK_capabilitiesFor_21n, wK_capabilitiesFor_21, wK_capabilitiesFor_24, wK_capabilitiesFor_26, wK_capabilitiesFor_29, wK_capabilitiesFor_30 (x_rv_r _) (x_rv_r T), wK_capabilitiesFor_36, wK_capabilitiesFor_39, hk, hc, f0, ec, sl, c0, e1, hq2, x_gi_int, x_ga_ref, x_ga_null, List.getElem?_cons_zero, List.getElem?_cons_succ, List.length_cons, List.length_nil, List.set_cons_zero, List.set_cons_succ, Nat.reduceAdd, Nat.reduceLT, xr_lt, xr_eq, xr_toInt, xr_0, xi_add, xi_sub, xi_mul, xr_div, xr_rm, Int.toNat_natCast, bd_t, true_and, and_true, not_false_eq_true, ↓reduceIte, ilt_t, ilt_f, ile_t, x_c1i, x_c1r, x_c1n, and_self, Option.toList_some, Option.toList_none, List.cons_append, List.nil_append, xr_01, xr_00, ieq_f, ieq_t]
        exact i1
theorem k_cfor (h : SlH w A S) (hc0 : ∀ q : Nat, q < 128 → 0 ≤ S 0 q → x_fd w (A 8 (q : Int)) 0 = .ref (thA A S (q : Int))) {T : Nat} (p : Nat → Prop) [DecidablePred p] (hx : ∀ q : Nat, q < 128 → 0 ≤ S 0 q → (thA A S (q : Int) = T ↔ p q)) (hQ : Q (some (.int (xi (cntL (fun q => 0 ≤ S 0 q ∧ p q) 128)))) w) {l2 l3 l4 : Option Value} : WP P 31 0 [some (.ref (A 12 0)), some (.ref T), l2, l3, l4] [] w Q := by
  simp (disch := first | exact hR _ _ | exact x01a | exact x01b | (unfold x_r; omega) | assumption | omega) only [wK_capabilitiesFor_0, wK_capabilitiesFor_1, wK_capabilitiesFor_2, wK_capabilitiesFor_3, x_gi_int, x_ga_ref, x_ga_null, List.getElem?_cons_zero, List.getElem?_cons_succ, List.length_cons, List.length_nil, List.set_cons_zero, List.set_cons_succ, Nat.reduceAdd, Nat.reduceLT, xr_lt, xr_eq, xr_toInt, xr_0, xi_add, xi_sub, xi_mul, xr_div, xr_rm, Int.toNat_natCast, bd_t, true_and, and_true, not_false_eq_true, ↓reduceIte, ilt_t, ilt_f, ile_t, x_c1i, x_c1r, x_c1n, and_self, Option.toList_some, Option.toList_none, List.cons_append, List.nil_append, xr_01, xr_00, ieq_f, ieq_t]
  exact k_cfor_loop h hc0 p hx hQ 128 0 (by omega) l4
/-- after the slot is empty, with the children below n led on -/
def rmG (A : xA) (S : xS) (ln : Nat → Int) (p : Nat) (n : Nat) : Int → Int → Nat → Option Value := fun k i f => if k = 12 ∧ i = 1 ∧ f = p then some .null else if k = 8 ∧ f = 3 ∧ 0 ≤ i ∧ i < (n : Int) ∧ S 4 i.toNat = (p : Int) then some (pv (S 4 p) (A 8 (S 4 p))) else xFv A S ln k i f
theorem rmG_o {p n : Nat} {k i : Int} {f : Nat} (h1 : ¬ (k = 12 ∧ i = 1 ∧ f = p)) (h2 : ¬ (k = 8 ∧ f = 3)) : rmG A S ln p n k i f = xFv A S ln k i f := by
  unfold rmG
  rw [if_neg h1, if_neg (fun x => h2 ⟨x.1, x.2.1⟩)]
set_option maxHeartbeats 4000000 in
theorem k_rm_loop (hA : CapA S) (hT : TrS S) {p : Nat} (hp : p < 128) (hl : 0 ≤ S 0 p) {w0 : xH} (hQ : ∀ w', Hp w' A (us S) (rmG A S ln p 128) → Fr w0 w' 0 → ∀ l3, WP P 29 52 [some (.ref (A 12 0)), some (.ref (A 8 (p : Int))), some (.int (xi 128)), l3] [] w' Q) : ∀ (d i : Nat), i + d = 128 → ∀ (w : xH) (l3 : Option Value), Hp w A (us S) (rmG A S ln p i) → Fr w0 w 0 →
    WP P 29 12 [some (.ref (A 12 0)), some (.ref (A 8 (p : Int))), some (.int (xi i)), l3] [] w Q := by
  have hR : RgS s_zero := RgS.zero
  have u120 : us S 12 0 := us_ker (by omega)
  have u121 : us S 12 1 := us_ker (by omega)
  have u8 : us S 8 (p : Int) := us_cap (by omega) (by omega) (by rw [Int.toNat_natCast]; exact hl)
  intro d
  induction d with
  | zero =>
    intro i hi w l3 h fr
    obtain rfl : i = 128 := by omega
    simp (disch := first | exact hR _ _ | exact x01a | exact x01b | (unfold x_r; omega) | assumption | omega) only [wK_removeOne_12, wK_removeOne_13, wK_removeOne_16, x_gi_int, x_ga_ref, x_ga_null, List.getElem?_cons_zero, List.getElem?_cons_succ, List.length_cons, List.length_nil, List.set_cons_zero, List.set_cons_succ, Nat.reduceAdd, Nat.reduceLT, xr_lt, xr_eq, xr_toInt, xr_0, xi_add, xi_sub, xi_mul, xr_div, xr_rm, Int.toNat_natCast, bd_t, true_and, and_true, not_false_eq_true, ↓reduceIte, ilt_t, ilt_f, ile_t, x_c1i, x_c1r, x_c1n, and_self, Option.toList_some, Option.toList_none, List.cons_append, List.nil_append, xr_01, xr_00, ieq_f, ieq_t]
    exact hQ w h fr l3
  | succ d ih =>
    intro i hi w l3 h fr
    have t0 : x_tg w (A 12 0) = some (0, 4) := h.tg u120
    have t1 : x_tg w (A 12 1) = some (31, 128) := h.tg u121
    have hk : x_has w (A 12 0) [0] := ⟨_, _, t0, by decide⟩
    have f0 : x_fd w (A 12 0) 0 = .ref (A 12 1) := h.fd u120 (by rw [rmG_o (by omega) (by omega)]; rfl)
    have ec : (xi (i : Int)).toNatClampNeg = i := by rw [x_cle (by omega) (by omega), Int.toNat_natCast]
    have nn := x_nn (e := (i : Int)) (by omega) (by omega)
    have nc := x_clt (e := (i : Int)) (n := 128) (by omega) (by omega) (by omega)
    have e1 : (i : Int) + 1 = ((i + 1 : Nat) : Int) := by omega
    have mono : ∀ w', Hp w' A (us S) (rmG A S ln p i) → (¬ (0 ≤ S 0 i ∧ S 4 i = (p : Int))) → Hp w' A (us S) (rmG A S ln p (i + 1)) := by
      intro w' h' hn
      refine h'.to (fun k i u => ⟨u, rfl⟩) (fun k j f v u q => ?_)
      unfold rmG at q ⊢
      by_cases c1 : k = 12 ∧ j = 1 ∧ f = p
      · rw [if_pos c1] at q ⊢; exact q
      rw [if_neg c1] at q ⊢
      by_cases c2 : k = 8 ∧ f = 3 ∧ 0 ≤ j ∧ j < ((i + 1 : Nat) : Int) ∧ S 4 j.toNat = (p : Int)
      · by_cases c3 : j = (i : Int)
        · exfalso
          rw [c2.1, c3] at u
          unfold us at u
          rw [Int.toNat_natCast] at u
          rw [c3, Int.toNat_natCast] at c2
          exact hn ⟨by omega, c2.2.2.2.2⟩
        · rw [if_pos c2] at q
          rw [if_pos ⟨c2.1, c2.2.1, c2.2.2.1, by omega, c2.2.2.2.2⟩]; exact q
      · rw [if_neg c2] at q
        rw [if_neg (fun x => c2 ⟨x.1, x.2.1, x.2.2.1, by omega, x.2.2.2.2⟩)]; exact q
    rw [wK_removeOne_12]
    by_cases cp : i = p
    · have sl : x_fd w (A 12 1) i = .null := h.fd u121 (by unfold rmG; rw [if_pos ⟨rfl, rfl, cp⟩])
      have np : ¬ (0 ≤ S 0 i ∧ S 4 i = (p : Int)) := by
        rintro ⟨x1, x2⟩
        obtain ⟨rho, g⟩ := hT
        rcases g p hp with y | y
        · rw [cp] at x2; omega
        · rw [cp] at x2
          have := y.2.2.2
          rw [x2, Int.toNat_natCast] at this
          omega
      have i1 := ih (i + 1) (by omega) w (some .null) (mono w h np) fr
      simp (disch := first | exact hR _ _ | exact x01a | exact x01b | (unfold x_r; omega) | assumption | omega) only [wK_removeOne_13, wK_removeOne_16, wK_removeOne_19, wK_removeOne_20, wK_removeOne_23, wK_removeOne_24 t1 (by omega) nn nc, wK_removeOne_25, wK_removeOne_25n, wK_removeOne_26, wK_removeOne_27n, wK_removeOne_27, wK_removeOne_46, wK_removeOne_49, hk, f0, ec, sl, e1, x_gi_int, x_ga_ref, x_ga_null, List.getElem?_cons_zero, List.getElem?_cons_succ, List.length_cons, List.length_nil, List.set_cons_zero, List.set_cons_succ, Nat.reduceAdd, Nat.reduceLT, xr_lt, xr_eq, xr_toInt, xr_0, xi_add, xi_sub, xi_mul, xr_div, xr_rm, Int.toNat_natCast, bd_t, true_and, and_true, not_false_eq_true, ↓reduceIte, ilt_t, ilt_f, ile_t, x_c1i, x_c1r, x_c1n, and_self, Option.toList_some, Option.toList_none, List.cons_append, List.nil_append, xr_01, xr_00, ieq_f, ieq_t]
      exact i1
    have slv : x_fd w (A 12 1) i = pv (S 0 i) (A 8 (i : Int)) := h.fd u121 (by
      rw [rmG_o (by omega) (by omega)]
      show (if i < 128 then some (pv (S 0 i) (A 8 (i : Int))) else none) = _
      rw [if_pos (by omega)])
    by_cases c1 : S 0 i < 0
    · rw [pv_n c1] at slv
      have i1 := ih (i + 1) (by omega) w (some .null) (mono w h (by omega)) fr
      simp (disch := first | exact hR _ _ | exact x01a | exact x01b | (unfold x_r; omega) | assumption | omega) only [wK_removeOne_13, wK_removeOne_16, wK_removeOne_19, wK_removeOne_20, wK_removeOne_23, wK_removeOne_24 t1 (by omega) nn nc, wK_removeOne_25, wK_removeOne_25n, wK_removeOne_26, wK_removeOne_27n, wK_removeOne_27, wK_removeOne_46, wK_removeOne_49, hk, f0, ec, slv, e1, x_gi_int, x_ga_ref, x_ga_null, List.getElem?_cons_zero, List.getElem?_cons_succ, List.length_cons, List.length_nil, List.set_cons_zero, List.set_cons_succ, Nat.reduceAdd, Nat.reduceLT, xr_lt, xr_eq, xr_toInt, xr_0, xi_add, xi_sub, xi_mul, xr_div, xr_rm, Int.toNat_natCast, bd_t, true_and, and_true, not_false_eq_true, ↓reduceIte, ilt_t, ilt_f, ile_t, x_c1i, x_c1r, x_c1n, and_self, Option.toList_some, Option.toList_none, List.cons_append, List.nil_append, xr_01, xr_00, ieq_f, ieq_t]
      exact i1
    rw [pv_r c1] at slv
    have ui : us S 8 (i : Int) := us_cap (by omega) (by omega) (by rw [Int.toNat_natCast]; omega)
    have hc : x_has w (A 8 (i : Int)) [1] := ⟨_, _, h.tg ui, by decide⟩
    have hcp : x_has w (A 8 (p : Int)) [1] := ⟨_, _, h.tg u8, by decide⟩
    have c3 : x_fd w (A 8 (i : Int)) 3 = pv (S 4 i) (A 8 (S 4 i)) := h.fd ui (by
      unfold rmG
      rw [if_neg (by omega), if_neg (by omega)]
      show some (pv (S 4 (i : Int).toNat) (A 8 (S 4 (i : Int).toNat))) = _
      rw [Int.toNat_natCast])
    by_cases c2 : S 4 i = (p : Int)
    · rw [c2, pv_r (by omega)] at c3
      have np : ¬ S 4 p = (p : Int) := by
        intro x
        obtain ⟨rho, g⟩ := hT
        rcases g p hp with y | y
        · omega
        · have := y.2.2.2
          rw [x, Int.toNat_natCast] at this
          omega
      have p3 : x_fd w (A 8 (p : Int)) 3 = pv (S 4 p) (A 8 (S 4 p)) := h.fd u8 (by
        unfold rmG
        rw [if_neg (by omega), if_neg (fun x => by rw [Int.toNat_natCast] at x; exact np x.2.2.2.2)]
        show some (pv (S 4 (p : Int).toNat) (A 8 (S 4 (p : Int).toNat))) = _
        rw [Int.toNat_natCast])
      have h2 : Hp (x_put w (A 8 (i : Int)) 3 (pv (S 4 p) (A 8 (S 4 p)))) A (us S) (rmG A S ln p (i + 1)) := by
        refine (h.put ui 3 (pv (S 4 p) (A 8 (S 4 p)))).to (fun k i u => ⟨u, rfl⟩) (fun k j f v u q => ?_)
        by_cases z : k = 8 ∧ j = (i : Int) ∧ f = 3
        · rw [z.1, z.2.1, z.2.2, fup_e]
          rw [z.1, z.2.1, z.2.2] at q
          unfold rmG at q
          rw [if_neg (by omega), if_pos ⟨rfl, rfl, by omega, by omega, by rw [Int.toNat_natCast]; exact c2⟩] at q
          exact q
        · rw [fup_n z]
          unfold rmG at q ⊢
          by_cases c1 : k = 12 ∧ j = 1 ∧ f = p
          · rw [if_pos c1] at q ⊢; exact q
          rw [if_neg c1] at q ⊢
          by_cases c2 : k = 8 ∧ f = 3 ∧ 0 ≤ j ∧ j < ((i + 1 : Nat) : Int) ∧ S 4 j.toNat = (p : Int)
          · rw [if_pos c2] at q
            have : j ≠ (i : Int) := fun x => z ⟨c2.1, x, c2.2.1⟩
            rw [if_pos ⟨c2.1, c2.2.1, c2.2.2.1, by omega, c2.2.2.2.2⟩]; exact q
          · rw [if_neg c2] at q
            rw [if_neg (fun x => c2 ⟨x.1, x.2.1, x.2.2.1, by omega, x.2.2.2.2⟩)]; exact q
      have i1 := ih (i + 1) (by omega) _ (some (.ref (A 8 (i : Int)))) h2 (h.frp fr ui 3 _)
      simp (disch := first | exact hR _ _ | exact x01a | exact x01b | (unfold x_r; omega) | assumption | omega) only [wK_removeOne_13, wK_removeOne_16, wK_removeOne_19, wK_removeOne_20, wK_removeOne_23, wK_removeOne_24 t1 (by omega) nn nc, wK_removeOne_25, wK_removeOne_25n, wK_removeOne_26, wK_removeOne_27n, wK_removeOne_27, wK_removeOne_30, wK_removeOne_31, wK_removeOne_34, wK_removeOne_35 (x_rv_r _) (x_rv_r _), wK_removeOne_38, wK_removeOne_39, wK_removeOne_40, wK_removeOne_43, wK_removeOne_46, wK_removeOne_49, x_f2p, hk, hc, hcp, f0, ec, slv, c3, p3, e1, x_gi_int, x_ga_ref, x_ga_null, List.getElem?_cons_zero, List.getElem?_cons_succ, List.length_cons, List.length_nil, List.set_cons_zero, List.set_cons_succ, Nat.reduceAdd, Nat.reduceLT, xr_lt, xr_eq, xr_toInt, xr_0, xi_add, xi_sub, xi_mul, xr_div, xr_rm, Int.toNat_natCast, bd_t, true_and, and_true, not_false_eq_true, ↓reduceIte, ilt_t, ilt_f, ile_t, x_c1i, x_c1r, x_c1n, and_self, Option.toList_some, Option.toList_none, List.cons_append, List.nil_append, xr_01, xr_00, ieq_f, ieq_t]
      exact i1
    · obtain ⟨qv, hqv⟩ : ∃ o, x_rv (pv (S 4 i) (A 8 (S 4 i))) = some o := by unfold pv; split <;> exact ⟨_, rfl⟩
      have nq : ¬ qv = some (A 8 (p : Int)) := by
        intro x
        rw [x] at hqv
        by_cases y : S 4 i < 0
        · rw [pv_n y] at hqv; cases hqv
        · rw [pv_r y] at hqv
          have pl := par_lv hT (by omega) y
          have e := Option.some.inj (Option.some.inj hqv)
          exact c2 (h.inj (us_cap pl.1 pl.2.1 pl.2.2) u8 e).2
      have i1 := ih (i + 1) (by omega) w (some (.ref (A 8 (i : Int)))) (mono w h (by omega)) fr
      simp (disch := first | exact hR _ _ | exact x01a | exact x01b | (unfold x_r; omega) | assumption | omega) only [wK_removeOne_13, wK_removeOne_16, wK_removeOne_19, wK_removeOne_20, wK_removeOne_23, wK_removeOne_24 t1 (by omega) nn nc, wK_removeOne_25, wK_removeOne_25n, wK_removeOne_26, wK_removeOne_27n, wK_removeOne_27, wK_removeOne_30, wK_removeOne_31, wK_removeOne_34, wK_removeOne_35 hqv (x_rv_r _), wK_removeOne_46, wK_removeOne_49, hk, hc, f0, ec, slv, c3, nq, e1, x_gi_int, x_ga_ref, x_ga_null, List.getElem?_cons_zero, List.getElem?_cons_succ, List.length_cons, List.length_nil, List.set_cons_zero, List.set_cons_succ, Nat.reduceAdd, Nat.reduceLT, xr_lt, xr_eq, xr_toInt, xr_0, xi_add, xi_sub, xi_mul, xr_div, xr_rm, Int.toNat_natCast, bd_t, true_and, and_true, not_false_eq_true, ↓reduceIte, ilt_t, ilt_f, ile_t, x_c1i, x_c1r, x_c1n, and_self, Option.toList_some, Option.toList_none, List.cons_append, List.nil_append, xr_01, xr_00, ieq_f, ieq_t]
      exact i1
end RA
