theorem Hp.cgU {w : xH} {A : xA} {U : Int → Int → Prop} {S S' : xS} {ln : Nat → Int} (h : Hp w A U (xFv A S ln)) (e : ∀ j, j < 28 → S' j = S j) : Hp w A U (xFv A S' ln) := by
  refine h.to (fun k i q => ⟨q, rfl⟩) (fun k i f x q g => ?_)
  rw [← g]
  exact (Fv_dep (fun j hj => e j (dep_lt hj))).symm
theorem us_rm {S : xS} {p : Nat} (hp : p < 128) {k i : Int} (h : us (s_rmA S (p : Int)) k i) : U1 S p k i := by
  have r0 := fun i => rmA_0 (S := S) (s := p) i
  have rh : ∀ {k u : Int}, 1 ≤ k → hd (s_rmA S (p : Int)) k u → hd S k u := fun hk g => rmA_hd hk g
  unfold us at h
  unfold U1
  rcases h with h | h | h | h | h | h | h
  · rw [r0] at h
    have np : i.toNat ≠ p := fun x => by rw [if_pos x] at h; omega
    rw [if_neg np] at h
    exact ⟨by rw [h.1]; exact us_unt h.2.1 h.2.2.1 h.2.2.2, by omega, by omega⟩
  · exact ⟨us_thi h.1 h.2.1 (rh h.1 h.2.2), by omega, by omega⟩
  · rw [r0] at h
    have np : i.toNat ≠ p := fun x => by rw [if_pos x] at h; omega
    rw [if_neg np] at h
    exact ⟨by rw [h.1]; exact us_cap h.2.1 h.2.2.1 h.2.2.2, by omega, by omega⟩
  · refine ⟨by rw [h.1]; exact us_lin (h.2.imp id (fun x => x.imp (rh (by omega)) (rh (by omega)))), by omega, by omega⟩
  · exact ⟨by rw [h.1]; exact us_lvs (rh (by omega) h.2), by omega, by omega⟩
  · exact ⟨by rw [h.1]; exact us_frs (rh (by omega) h.2), by omega, by omega⟩
  · exact ⟨by rw [h.1]; exact us_ker h.2, by omega, by omega⟩
theorem lid_mem {S : xS} (tB : ThB S) {t : Nat} (ht : t < 16) {u : Int} (hu : 0 ≤ u) : lid S t = u + 4 ↔ (3 ≤ S 10 t ∧ S 19 t = u) := by
  unfold lid
  by_cases c : S 10 t < 2
  · rw [if_pos c]; omega
  · have b := tB t ht (by omega)
    rw [if_neg c]
    split <;> omega
section RC
variable {P : xP} {w : xH} {Q : Option Value → xH → Prop} {A : xA} {S : xS} {ln : Nat → Int} {U : Int → Int → Prop}
/-- what loops over the threads ask for -/
def stS (X : xS) (u : Int) (n : Nat) : xS := mapA X 10 n (fun t => if 3 ≤ X 10 t ∧ X 19 t = u then 1 else X 10 t)
def stL (ln : Nat → Int) (u : Int) (n : Nat) : Nat → Int := fun t => if t < n ∧ ln t = u + 4 then -1 else ln t
theorem stS_o {X : xS} {u : Int} {n j : Nat} (h : j ≠ 10) : stS X u n j = X j := mapA_o h
theorem stS_10 {X : xS} {u : Int} {n i : Nat} : stS X u n 10 i = if i < n then (if 3 ≤ X 10 i ∧ X 19 i = u then 1 else X 10 i) else X 10 i := by
  unfold stS
  rw [mapA_at]
  by_cases c : i < n
  · rw [if_pos ⟨rfl, c⟩, if_pos c]
  · rw [if_neg (fun x => c x.2), if_neg c]
set_option maxHeartbeats 8000000 in
theorem k_stopAll_loop {X : xS} {u : Int} (hX : RgS X) (hu : 0 ≤ u) (h12 : U 12 0) (h122 : U 12 2) (h9 : U 9 (u + 4)) (hU2 : ∀ u, U 2 u → ∃ t : Nat, t < 16 ∧ u = 8 * (t : Int)) (hU9 : ∀ l, U 9 l → 0 ≤ l) (hth : ∀ t : Nat, t < 16 → X 10 t ≠ 0 → U 2 (8 * (t : Int))) (hL : LnU U X ln) (hm : ∀ t, t < 16 → (ln t = u + 4 ↔ (3 ≤ X 10 t ∧ X 19 t = u))) {w0 : xH} (hQ : ∀ w', Hp w' A U (xFv A (stS X u 16) (stL ln u 16)) → Fr w0 w' 0 → Q none w') :
    ∀ (d n : Nat), n + d = 16 → ∀ (w : xH) (l3 : Option Value), Hp w A U (xFv A (stS X u n) (stL ln u n)) → Fr w0 w 0 → WP P 34 2 [some (.ref (A 12 0)), some (.ref (A 9 (u + 4))), some (.int (xi n)), l3] [] w Q := by
  have hR : RgS s_zero := RgS.zero
  intro d
  induction d with
  | zero =>
    intro n hn w l3 h fr
    obtain rfl : n = 16 := by omega
    simp (disch := first | exact hR _ _ | exact x01a | exact x01b | (unfold x_r; omega) | assumption | omega) only [wK_stopAllAt_2, wK_stopAllAt_3, wK_stopAllAt_5, wK_stopAllAt_37, x_gi_int, x_ga_ref, x_ga_null, List.getElem?_cons_zero, List.getElem?_cons_succ, List.length_cons, List.length_nil, List.set_cons_zero, List.set_cons_succ, Nat.reduceAdd, Nat.reduceLT, xr_lt, xr_eq, xr_toInt, xr_0, xi_add, xi_sub, xi_mul, xr_div, xr_rm, Int.toNat_natCast, bd_t, true_and, and_true, not_false_eq_true, ↓reduceIte, ilt_t, ilt_f, ile_t, x_c1i, x_c1r, x_c1n, and_self, Option.toList_some, Option.toList_none, List.cons_append, List.nil_append, xr_01, xr_00, ieq_f, ieq_t]
    exact hQ w h fr
  | succ d ih =>
    intro n hn w l3 h fr
    have t0 : x_tg w (A 12 0) = some (0, 4) := h.tg h12
    have t2 : x_tg w (A 12 2) = some (32, 16) := h.tg h122
    have hk : x_has w (A 12 0) [0] := ⟨_, _, t0, by decide⟩
    have f1 : x_fd w (A 12 0) 1 = .ref (A 12 2) := h.fd h12 rfl
    have ec : (xi (n : Int)).toNatClampNeg = n := by rw [x_cle (by omega) (by omega), Int.toNat_natCast]
    have nn := x_nn (e := (n : Int)) (by omega) (by omega)
    have nc := x_clt (e := (n : Int)) (n := 16) (by omega) (by omega) (by omega)
    have e1 : (n : Int) + 1 = ((n + 1 : Nat) : Int) := by omega
    have xn : stS X u n 10 n = X 10 n := by rw [stS_10, if_neg (by omega)]
    have sl : x_fd w (A 12 2) n = if X 10 n = 0 then .null else .ref (A 2 (8 * (n : Int))) := h.fd h122 (by
      show (if n < 16 then some (if stS X u n 10 n = 0 then Value.null else .ref (A 2 (8 * (n : Int)))) else none) = _
      rw [if_pos (by omega), xn])
    have lnn : stL ln u n n = ln n := if_neg (fun x => by omega)
    have same : ¬ ln n = u + 4 → stS X u (n + 1) = stS X u n ∧ stL ln u (n + 1) = stL ln u n := by
      intro c
      constructor
      · funext j i
        by_cases cj : j = 10
        · rw [cj, stS_10, stS_10]
          by_cases ci : i = n
          · rw [ci, if_pos (by omega), if_neg (fun x => c ((hm n (by omega)).2 x)), if_neg (by omega)]
          · by_cases cl : i < n
            · rw [if_pos (by omega), if_pos cl]
            · rw [if_neg (by omega), if_neg cl]
        · rw [stS_o cj, stS_o cj]
      · funext i
        unfold stL
        by_cases ci : i = n
        · rw [ci, if_neg (fun x => c x.2), if_neg (fun x => c x.2)]
        · by_cases cl : i < n ∧ ln i = u + 4
          · rw [if_pos ⟨by omega, cl.2⟩, if_pos cl]
          · rw [if_neg (fun x => cl ⟨by omega, x.2⟩), if_neg cl]
    rw [wK_stopAllAt_2]
    by_cases c0 : X 10 n = 0
    · rw [if_pos c0] at sl
      have cl : ¬ ln n = u + 4 := fun x => by have := (hm n (by omega)).1 x; omega
      have i1 := ih (n + 1) (by omega) w (some .null) (by rw [(same cl).1, (same cl).2]; exact h) fr
      simp (disch := first | exact hR _ _ | exact x01a | exact x01b | (unfold x_r; omega) | assumption | omega) only [wK_stopAllAt_3, wK_stopAllAt_5, wK_stopAllAt_8, wK_stopAllAt_9, wK_stopAllAt_12, wK_stopAllAt_13 t2 (by omega) nn nc, wK_stopAllAt_14, wK_stopAllAt_14n, wK_stopAllAt_15, wK_stopAllAt_16n, wK_stopAllAt_16, wK_stopAllAt_31, wK_stopAllAt_34, hk, f1, ec, sl, e1, x_gi_int, x_ga_ref, x_ga_null, List.getElem?_cons_zero, List.getElem?_cons_succ, List.length_cons, List.length_nil, List.set_cons_zero, List.set_cons_succ, Nat.reduceAdd, Nat.reduceLT, xr_lt, xr_eq, xr_toInt, xr_0, xi_add, xi_sub, xi_mul, xr_div, xr_rm, Int.toNat_natCast, bd_t, true_and, and_true, not_false_eq_true, ↓reduceIte, ilt_t, ilt_f, ile_t, x_c1i, x_c1r, x_c1n, and_self, Option.toList_some, Option.toList_none, List.cons_append, List.nil_append, xr_01, xr_00, ieq_f, ieq_t]
      exact i1
    rw [if_neg c0] at sl
    have un := hth n (by omega) c0
    obtain ⟨z0, z1, z2, z3, z4, z5, z6, z7, z8, z9, z10, z11, z12⟩ := h.thr (t := (n : Int)) un
    rw [Int.toNat_natCast, lnn] at z11
    have hz : x_has w (A 2 (8 * (n : Int))) [2] := ⟨_, _, z0, by decide⟩
    by_cases cl : ln n = u + 4
    · rw [cl, pv_r (by omega)] at z11
      have hLn : LnU U (stS X u n) (stL ln u n) := by
        refine ⟨fun t ht => ?_, fun t ht g => ?_, fun t t' ht ht' hne g g' => ?_⟩
        · unfold stL; have := hL.1 t ht; split <;> omega
        · unfold stL at g ⊢
          by_cases c : t < n ∧ ln t = u + 4
          · rw [if_pos c] at g; omega
          · rw [if_neg c] at g ⊢
            exact hL.2.1 t ht g
        · rw [stS_o (by omega)]
          have a : 0 ≤ ln t := by unfold stL at g; split at g <;> omega
          have b : 0 ≤ ln t' := by unfold stL at g'; split at g' <;> omega
          exact hL.2.2 t t' ht ht' hne a b
      have hRn : RgS (stS X u n) := hX.map (fun i hi => by
        split
        · exact ⟨by omega, by omega⟩
        · exact hX _ _)
      simp (disch := first | exact hR _ _ | exact x01a | exact x01b | (unfold x_r; omega) | assumption | omega) only [wK_stopAllAt_3, wK_stopAllAt_5, wK_stopAllAt_8, wK_stopAllAt_9, wK_stopAllAt_12, wK_stopAllAt_13 t2 (by omega) nn nc, wK_stopAllAt_14, wK_stopAllAt_14n, wK_stopAllAt_15, wK_stopAllAt_16n, wK_stopAllAt_16, wK_stopAllAt_19, wK_stopAllAt_20, wK_stopAllAt_23, wK_stopAllAt_24 (x_rv_r _) (x_rv_r _), wK_stopAllAt_27, hk, hz, f1, ec, sl, z11, x_gi_int, x_ga_ref, x_ga_null, List.getElem?_cons_zero, List.getElem?_cons_succ, List.length_cons, List.length_nil, List.set_cons_zero, List.set_cons_succ, Nat.reduceAdd, Nat.reduceLT, xr_lt, xr_eq, xr_toInt, xr_0, xi_add, xi_sub, xi_mul, xr_div, xr_rm, Int.toNat_natCast, bd_t, true_and, and_true, not_false_eq_true, ↓reduceIte, ilt_t, ilt_f, ile_t, x_c1i, x_c1r, x_c1n, and_self, Option.toList_some, Option.toList_none, List.cons_append, List.nil_append, xr_01, xr_00, ieq_f, ieq_t]
      refine wK_stopAllAt_28 (by simp) rfl rfl (k_becomeStoppedU h hU2 hU9 hRn hLn (by omega) un (by rw [xn]; exact c0) (fun w' h' fr' => ?_))
      have es : sset (stS X u n) 10 n 1 = stS X u (n + 1) := by
        funext j i
        by_cases cj : j = 10
        · rw [cj, sset_at, stS_10, stS_10]
          by_cases ci : i = n
          · rw [if_pos ⟨rfl, ci⟩, ci, if_pos (by omega), if_pos ((hm n (by omega)).1 cl)]
          · rw [if_neg (fun x => ci x.2)]
            by_cases c : i < n
            · rw [if_pos c, if_pos (show i < n + 1 by omega)]
            · rw [if_neg c, if_neg (show ¬ i < n + 1 by omega)]
        · rw [sset_o cj, stS_o cj, stS_o cj]
      have el : lup (stL ln u n) n (-1) = stL ln u (n + 1) := by
        funext i
        by_cases ci : i = n
        · rw [ci, lup_t]
          unfold stL
          rw [if_pos ⟨by omega, cl⟩]
        · rw [lup_o ci]
          unfold stL
          by_cases c : i < n ∧ ln i = u + 4
          · rw [if_pos c, if_pos ⟨by omega, c.2⟩]
          · rw [if_neg c, if_neg (fun x => c ⟨by omega, x.2⟩)]
      rw [es, el] at h'
      have i1 := ih (n + 1) (by omega) w' (some (.ref (A 2 (8 * (n : Int))))) h' (fr.trans (k := 0) fr' (by omega))
      simp (disch := first | exact hR _ _ | exact x01a | exact x01b | (unfold x_r; omega) | assumption | omega) only [wK_stopAllAt_31, wK_stopAllAt_34, e1, x_gi_int, x_ga_ref, x_ga_null, List.getElem?_cons_zero, List.getElem?_cons_succ, List.length_cons, List.length_nil, List.set_cons_zero, List.set_cons_succ, Nat.reduceAdd, Nat.reduceLT, xr_lt, xr_eq, xr_toInt, xr_0, xi_add, xi_sub, xi_mul, xr_div, xr_rm, Int.toNat_natCast, bd_t, true_and, and_true, not_false_eq_true, ↓reduceIte, ilt_t, ilt_f, ile_t, x_c1i, x_c1r, x_c1n, and_self, Option.toList_some, Option.toList_none, List.cons_append, List.nil_append, xr_01, xr_00, ieq_f, ieq_t]
      exact i1
    · obtain ⟨qv, hqv⟩ : ∃ o, x_rv (pv (ln n) (A 9 (ln n))) = some o := by unfold pv; split <;> exact ⟨_, rfl⟩
      have nq : ¬ qv = some (A 9 (u + 4)) := by
        intro x
        rw [x] at hqv
        by_cases y : ln n < 0
        · rw [pv_n y] at hqv; cases hqv
        · rw [pv_r y] at hqv
          have e := Option.some.inj (Option.some.inj hqv)
          exact cl (h.inj (hL.2.1 n (by omega) (by omega)).2 h9 e).2
      have i1 := ih (n + 1) (by omega) w (some (.ref (A 2 (8 * (n : Int))))) (by rw [(same cl).1, (same cl).2]; exact h) fr
      simp (disch := first | exact hR _ _ | exact x01a | exact x01b | (unfold x_r; omega) | assumption | omega) only [wK_stopAllAt_3, wK_stopAllAt_5, wK_stopAllAt_8, wK_stopAllAt_9, wK_stopAllAt_12, wK_stopAllAt_13 t2 (by omega) nn nc, wK_stopAllAt_14, wK_stopAllAt_14n, wK_stopAllAt_15, wK_stopAllAt_16n, wK_stopAllAt_16, wK_stopAllAt_19, wK_stopAllAt_20, wK_stopAllAt_23, wK_stopAllAt_24 hqv (x_rv_r _), wK_stopAllAt_31, wK_stopAllAt_34, hk, hz, f1, ec, sl, z11, nq, e1, x_gi_int, x_ga_ref, x_ga_null, List.getElem?_cons_zero, List.getElem?_cons_succ, List.length_cons, List.length_nil, List.set_cons_zero, List.set_cons_succ, Nat.reduceAdd, Nat.reduceLT, xr_lt, xr_eq, xr_toInt, xr_0, xi_add, xi_sub, xi_mul, xr_div, xr_rm, Int.toNat_natCast, bd_t, true_and, and_true, not_false_eq_true, ↓reduceIte, ilt_t, ilt_f, ile_t, x_c1i, x_c1r, x_c1n, and_self, Option.toList_some, Option.toList_none, List.cons_append, List.nil_append, xr_01, xr_00, ieq_f, ieq_t]
      exact i1
theorem k_stopAllAt {X : xS} {u : Int} (h : Hp w A U (xFv A X ln)) (hX : RgS X) (hu : 0 ≤ u) (h12 : U 12 0) (h122 : U 12 2) (h9 : U 9 (u + 4)) (hU2 : ∀ u, U 2 u → ∃ t : Nat, t < 16 ∧ u = 8 * (t : Int)) (hU9 : ∀ l, U 9 l → 0 ≤ l) (hth : ∀ t : Nat, t < 16 → X 10 t ≠ 0 → U 2 (8 * (t : Int))) (hL : LnU U X ln) (hm : ∀ t, t < 16 → (ln t = u + 4 ↔ (3 ≤ X 10 t ∧ X 19 t = u))) {l2 l3 : Option Value} (hQ : ∀ w', Hp w' A U (xFv A (stS X u 16) (stL ln u 16)) → Fr w w' 0 → Q none w') : WP P 34 0 [some (.ref (A 12 0)), some (.ref (A 9 (u + 4))), l2, l3] [] w Q := by
  have hR : RgS s_zero := RgS.zero
  simp (disch := first | exact hR _ _ | exact x01a | exact x01b | (unfold x_r; omega) | assumption | omega) only [wK_stopAllAt_0, wK_stopAllAt_1, x_gi_int, x_ga_ref, x_ga_null, List.getElem?_cons_zero, List.getElem?_cons_succ, List.length_cons, List.length_nil, List.set_cons_zero, List.set_cons_succ, Nat.reduceAdd, Nat.reduceLT, xr_lt, xr_eq, xr_toInt, xr_0, xi_add, xi_sub, xi_mul, xr_div, xr_rm, Int.toNat_natCast, bd_t, true_and, and_true, not_false_eq_true, ↓reduceIte, ilt_t, ilt_f, ile_t, x_c1i, x_c1r, x_c1n, and_self, Option.toList_some, Option.toList_none, List.cons_append, List.nil_append, xr_01, xr_00, ieq_f, ieq_t]
  have e0 : stS X u 0 = X := by
    funext j i
    by_cases cj : j = 10
    · rw [cj, stS_10, if_neg (by omega)]
    · rw [stS_o cj]
  have l0 : stL ln u 0 = ln := by
    funext i
    exact if_neg (fun x => by omega)
  exact k_stopAll_loop hX hu h12 h122 h9 hU2 hU9 hth hL hm hQ 16 0 (by omega) w l3 (by rw [e0, l0]; exact h) (Fr.refl w)
def ubS (X : xS) (u : Int) (n : Nat) : xS := mapA X 27 n (fun q => if X 27 q = u then -1 else X 27 q)
theorem ubS_o {X : xS} {u : Int} {n j : Nat} (h : j ≠ 27) : ubS X u n j = X j := mapA_o h
theorem ubS_27 {X : xS} {u : Int} {n i : Nat} : ubS X u n 27 i = if i < n then (if X 27 i = u then -1 else X 27 i) else X 27 i := by
  unfold ubS
  rw [mapA_at]
  by_cases c : i < n
  · rw [if_pos ⟨rfl, c⟩, if_pos c]
  · rw [if_neg (fun x => c x.2), if_neg c]
theorem Hp.bndU {X : xS} (h : Hp w A U (xFv A X ln)) (h12 : U 12 4) (hU12 : ∀ i, U 12 i → 0 ≤ i ∧ i ≤ 4) (hUk : ∀ k i, U k i → k ≤ 12) {n : Nat} {v : Int} : Hp (x_put w (A 12 4) n (pv v (A 4 v))) A U (xFv A (sset X 27 n v) ln) := by
  have e : ∀ j, j ≠ 27 → sset X 27 n v j = X j := fun j hj => sset_o hj
  refine Hp.to (h.put h12 n (pv v (A 4 v))) (fun k i q => ⟨q, rfl⟩) (fun k i f x q g => ?_)
  by_cases c : k = 12
  · rw [c] at q g ⊢
    have i4 := hU12 i q
    by_cases d : i = 4
    · rw [d] at g ⊢
      by_cases ef : f = n
      · rw [ef, fup_e]
        rw [ef] at g
        have g : (if n < 4 then some (pv (sset X 27 n v 27 n) (A 4 (sset X 27 n v 27 n))) else none) = some x := g
        rw [show sset X 27 n v 27 n = v by rw [sset_at, if_pos ⟨rfl, rfl⟩]] at g
        split at g
        · exact g
        · cases g
      · rw [fup_n (fun x => ef x.2.2), ← g]
        show Fker A X 4 f = Fker A (sset X 27 n v) 4 f
        unfold Fker
        rw [e 0 (by omega), e 10 (by omega), show sset X 27 n v 27 f = X 27 f by rw [sset_at, if_neg (fun x => ef x.2)]]
    · rw [fup_n (fun x => d x.2.1), ← g]
      show Fker A X i f = Fker A (sset X 27 n v) i f
      unfold Fker
      rw [e 0 (by omega), e 10 (by omega)]
      by_cases i0 : i = 0
      · simp only [if_pos i0]
      by_cases i1 : i = 1
      · simp only [if_neg i0, if_pos i1]
      by_cases i2 : i = 2
      · simp only [if_neg i0, if_neg i1, if_pos i2]
      by_cases i3 : i = 3
      · simp only [if_neg i0, if_neg i1, if_neg i2, if_pos i3]
      omega
  · rw [fup_n (fun x => c x.1), ← g]
    refine (Fv_dep (fun j hj => e j (fun z => ?_))).symm
    have := dep_no.1 z hj
    have := hUk k i q
    omega
set_option maxHeartbeats 4000000 in
theorem k_unbind_loop {X : xS} {u : Int} (hu : 0 ≤ u) (h12 : U 12 0) (h124 : U 12 4) (hU12 : ∀ i, U 12 i → 0 ≤ i ∧ i ≤ 4) (hUk : ∀ k i, U k i → k ≤ 12) (h4 : U 4 u) (hb : ∀ q, q < 4 → X 27 q = -1 ∨ (0 ≤ X 27 q ∧ U 4 (X 27 q))) {w0 : xH} (hQ : ∀ w', Hp w' A U (xFv A (ubS X u 4) ln) → Fr w0 w' 0 → Q none w') :
    ∀ (d n : Nat), n + d = 4 → ∀ (w : xH), Hp w A U (xFv A (ubS X u n) ln) → Fr w0 w 0 → WP P 36 2 [some (.ref (A 12 0)), some (.ref (A 4 u)), some (.int (xi n))] [] w Q := by
  have hR : RgS s_zero := RgS.zero
  intro d
  induction d with
  | zero =>
    intro n hn w h fr
    obtain rfl : n = 4 := by omega
    simp (disch := first | exact hR _ _ | exact x01a | exact x01b | (unfold x_r; omega) | assumption | omega) only [wK_unbindAll_2, wK_unbindAll_3, wK_unbindAll_4, wK_unbindAll_30, x_gi_int, x_ga_ref, x_ga_null, List.getElem?_cons_zero, List.getElem?_cons_succ, List.length_cons, List.length_nil, List.set_cons_zero, List.set_cons_succ, Nat.reduceAdd, Nat.reduceLT, xr_lt, xr_eq, xr_toInt, xr_0, xi_add, xi_sub, xi_mul, xr_div, xr_rm, Int.toNat_natCast, bd_t, true_and, and_true, not_false_eq_true, ↓reduceIte, ilt_t, ilt_f, ile_t, x_c1i, x_c1r, x_c1n, and_self, Option.toList_some, Option.toList_none, List.cons_append, List.nil_append, xr_01, xr_00, ieq_f, ieq_t]
    exact hQ w h fr
  | succ d ih =>
    intro n hn w h fr
    have t0 : x_tg w (A 12 0) = some (0, 4) := h.tg h12
    have t4 : x_tg w (A 12 4) = some (37, 4) := h.tg h124
    have hk : x_has w (A 12 0) [0] := ⟨_, _, t0, by decide⟩
    have f3 : x_fd w (A 12 0) 3 = .ref (A 12 4) := h.fd h12 rfl
    have ec : (xi (n : Int)).toNatClampNeg = n := by rw [x_cle (by omega) (by omega), Int.toNat_natCast]
    have nn := x_nn (e := (n : Int)) (by omega) (by omega)
    have nc := x_clt (e := (n : Int)) (n := 4) (by omega) (by omega) (by omega)
    have e1 : (n : Int) + 1 = ((n + 1 : Nat) : Int) := by omega
    have xn : ubS X u n 27 n = X 27 n := by rw [ubS_27, if_neg (by omega)]
    have sl : x_fd w (A 12 4) n = pv (X 27 n) (A 4 (X 27 n)) := h.fd h124 (by
      show (if n < 4 then some (pv (ubS X u n 27 n) (A 4 (ubS X u n 27 n))) else none) = _
      rw [if_pos (by omega), xn])
    have hbn := hb n (by omega)
    rw [wK_unbindAll_2]
    by_cases c : X 27 n = u
    · rw [c, pv_r (by omega)] at sl
      have h2 := h.bndU h124 hU12 hUk (n := n) (v := -1)
      rw [pv_n (by omega)] at h2
      have es : sset (ubS X u n) 27 n (-1) = ubS X u (n + 1) := by
        funext j i
        by_cases cj : j = 27
        · rw [cj, sset_at, ubS_27, ubS_27]
          by_cases ci : i = n
          · rw [if_pos ⟨rfl, ci⟩, ci, if_pos (by omega), if_pos c]
          · rw [if_neg (fun x => ci x.2)]
            by_cases c' : i < n
            · rw [if_pos c', if_pos (show i < n + 1 by omega)]
            · rw [if_neg c', if_neg (show ¬ i < n + 1 by omega)]
        · rw [sset_o cj, ubS_o cj, ubS_o cj]
      rw [es] at h2
      have i1 := ih (n + 1) (by omega) _ h2 (h.frp fr h124 n .null)
      simp (disch := first | exact hR _ _ | exact x01a | exact x01b | (unfold x_r; omega) | assumption | omega) only [wK_unbindAll_3, wK_unbindAll_4, wK_unbindAll_7, wK_unbindAll_8, wK_unbindAll_11, wK_unbindAll_12 t4 (by omega) nn nc, wK_unbindAll_13, wK_unbindAll_14 (x_rv_r _) (x_rv_r _), wK_unbindAll_17, wK_unbindAll_18, wK_unbindAll_21, wK_unbindAll_22, wK_unbindAll_23n t4 (by omega) nn nc, wK_unbindAll_24, wK_unbindAll_27, hk, f3, ec, sl, e1, x_gi_int, x_ga_ref, x_ga_null, List.getElem?_cons_zero, List.getElem?_cons_succ, List.length_cons, List.length_nil, List.set_cons_zero, List.set_cons_succ, Nat.reduceAdd, Nat.reduceLT, xr_lt, xr_eq, xr_toInt, xr_0, xi_add, xi_sub, xi_mul, xr_div, xr_rm, Int.toNat_natCast, bd_t, true_and, and_true, not_false_eq_true, ↓reduceIte, ilt_t, ilt_f, ile_t, x_c1i, x_c1r, x_c1n, and_self, Option.toList_some, Option.toList_none, List.cons_append, List.nil_append, xr_01, xr_00, ieq_f, ieq_t]
      exact i1
    · obtain ⟨qv, hqv⟩ : ∃ o, x_rv (pv (X 27 n) (A 4 (X 27 n))) = some o := by unfold pv; split <;> exact ⟨_, rfl⟩
      have nq : ¬ qv = some (A 4 u) := by
        intro x
        rw [x] at hqv
        by_cases y : X 27 n < 0
        · rw [pv_n y] at hqv; cases hqv
        · rw [pv_r y] at hqv
          have e := Option.some.inj (Option.some.inj hqv)
          exact c (h.inj (hbn.resolve_left (by omega)).2 h4 e).2
      have es : ubS X u (n + 1) = ubS X u n := by
        funext j i
        by_cases cj : j = 27
        · rw [cj, ubS_27, ubS_27]
          by_cases ci : i = n
          · rw [ci, if_pos (by omega), if_neg c, if_neg (by omega)]
          · by_cases c' : i < n
            · rw [if_pos (show i < n + 1 by omega), if_pos c']
            · rw [if_neg (show ¬ i < n + 1 by omega), if_neg c']
        · rw [ubS_o cj, ubS_o cj]
      have i1 := ih (n + 1) (by omega) w (by rw [es]; exact h) fr
      simp (disch := first | exact hR _ _ | exact x01a | exact x01b | (unfold x_r; omega) | assumption | omega) only [wK_unbindAll_3, wK_unbindAll_4, wK_unbindAll_7, wK_unbindAll_8, wK_unbindAll_11, wK_unbindAll_12 t4 (by omega) nn nc, wK_unbindAll_13, wK_unbindAll_14 hqv (x_rv_r _), wK_unbindAll_24, wK_unbindAll_27, hk, f3, ec, sl, nq, e1, x_gi_int, x_ga_ref, x_ga_null, List.getElem?_cons_zero, List.getElem?_cons_succ, List.length_cons, List.length_nil, List.set_cons_zero, List.set_cons_succ, Nat.reduceAdd, Nat.reduceLT, xr_lt, xr_eq, xr_toInt, xr_0, xi_add, xi_sub, xi_mul, xr_div, xr_rm, Int.toNat_natCast, bd_t, true_and, and_true, not_false_eq_true, ↓reduceIte, ilt_t, ilt_f, ile_t, x_c1i, x_c1r, x_c1n, and_self, Option.toList_some, Option.toList_none, List.cons_append, List.nil_append, xr_01, xr_00, ieq_f, ieq_t]
      exact i1
theorem k_unbindAll {X : xS} {u : Int} (h : Hp w A U (xFv A X ln)) (hu : 0 ≤ u) (h12 : U 12 0) (h124 : U 12 4) (hU12 : ∀ i, U 12 i → 0 ≤ i ∧ i ≤ 4) (hUk : ∀ k i, U k i → k ≤ 12) (h4 : U 4 u) (hb : ∀ q, q < 4 → X 27 q = -1 ∨ (0 ≤ X 27 q ∧ U 4 (X 27 q))) {l2 : Option Value} (hQ : ∀ w', Hp w' A U (xFv A (ubS X u 4) ln) → Fr w w' 0 → Q none w') : WP P 36 0 [some (.ref (A 12 0)), some (.ref (A 4 u)), l2] [] w Q := by
  have hR : RgS s_zero := RgS.zero
  simp (disch := first | exact hR _ _ | exact x01a | exact x01b | (unfold x_r; omega) | assumption | omega) only [wK_unbindAll_0, wK_unbindAll_1, x_gi_int, x_ga_ref, x_ga_null, List.getElem?_cons_zero, List.getElem?_cons_succ, List.length_cons, List.length_nil, List.set_cons_zero, List.set_cons_succ, Nat.reduceAdd, Nat.reduceLT, xr_lt, xr_eq, xr_toInt, xr_0, xi_add, xi_sub, xi_mul, xr_div, xr_rm, Int.toNat_natCast, bd_t, true_and, and_true, not_false_eq_true, ↓reduceIte, ilt_t, ilt_f, ile_t, x_c1i, x_c1r, x_c1n, and_self, Option.toList_some, Option.toList_none, List.cons_append, List.nil_append, xr_01, xr_00, ieq_f, ieq_t]
  have e0 : ubS X u 0 = X := by
    funext j i
    by_cases cj : j = 27
    · rw [cj, ubS_27, if_neg (by omega)]
    · rw [ubS_o cj]
  exact k_unbind_loop hu h12 h124 hU12 hUk h4 hb hQ 4 0 (by omega) w (by rw [e0]; exact h) (Fr.refl w)
end RC
