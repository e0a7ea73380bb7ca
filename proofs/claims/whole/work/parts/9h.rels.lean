section RD2
variable {P : xP} {w : xH} {Q : Option Value → xH → Prop} {A : xA} {X : xS} {ln : Nat → Int} {U : Int → Int → Prop}
def tbG (A : xA) (X : xS) (ln : Nat → Int) (u : Int) (n : Nat) : Int → Int → Nat → Option Value := fun k i f => if k = 8 ∧ f = 7 ∧ u ≤ i ∧ i < u + (n : Int) then some (.int (xi 1)) else xFv A X ln k i f
/-- threads lose a table (j = 11, g = 2) or a space (j = 12, g = 3) -/
def tbH (F : Int → Int → Nat → Option Value) (X : xS) (u : Int) (j g : Nat) (n : Nat) : Int → Int → Nat → Option Value := fun k i f => if k = 2 ∧ f = g ∧ 0 ≤ i ∧ i < 8 * (n : Int) ∧ X j (i / 8).toNat = u then some .null else F k i f
set_option maxHeartbeats 4000000 in
theorem k_dt_loop1 {u : Int} (hu : 0 ≤ u ∧ u ≤ 112) (h12 : U 12 0) (h121 : U 12 1) (h1 : U 1 u) (hU8 : ∀ i, U 8 i → 0 ≤ i ∧ i < 128 ∧ 0 ≤ X 0 i.toNat) (hU8' : ∀ q : Nat, q < 128 → 0 ≤ X 0 q → U 8 (q : Int)) {w0 : xH} (hQ : ∀ w', Hp w' A U (tbG A X ln u 16) → Fr w0 w' 0 → ∀ l3, WP P 33 35 [some (.ref (A 12 0)), some (.ref (A 1 u)), some (.int (xi 16)), l3] [] w' Q) :
    ∀ (d n : Nat), n + d = 16 → ∀ (w : xH) (l3 : Option Value), Hp w A U (tbG A X ln u n) → Fr w0 w 0 → WP P 33 2 [some (.ref (A 12 0)), some (.ref (A 1 u)), some (.int (xi n)), l3] [] w Q := by
  have hR : RgS s_zero := RgS.zero
  have xf : x_fit 1 (.int (xi 1)) = true := rfl
  intro d
  induction d with
  | zero =>
    intro n hn w l3 h fr
    obtain rfl : n = 16 := by omega
    simp (disch := first | exact hR _ _ | exact x01a | exact x01b | (unfold x_r; omega) | assumption | omega) only [wK_destroyTable_2, wK_destroyTable_3, wK_destroyTable_5, x_gi_int, x_ga_ref, x_ga_null, List.getElem?_cons_zero, List.getElem?_cons_succ, List.length_cons, List.length_nil, List.set_cons_zero, List.set_cons_succ, Nat.reduceAdd, Nat.reduceLT, xr_lt, xr_eq, xr_toInt, xr_0, xi_add, xi_sub, xi_mul, xr_div, xr_rm, Int.toNat_natCast, bd_t, true_and, and_true, not_false_eq_true, ↓reduceIte, ilt_t, ilt_f, ile_t, x_c1i, x_c1r, x_c1n, and_self, Option.toList_some, Option.toList_none, List.cons_append, List.nil_append, xr_01, xr_00, ieq_f, ieq_t]
    exact hQ w h fr l3
  | succ d ih =>
    intro n hn w l3 h fr
    have t0 : x_tg w (A 12 0) = some (0, 4) := h.tg h12
    have t1 : x_tg w (A 12 1) = some (31, 128) := h.tg h121
    have hk : x_has w (A 12 0) [0] := ⟨_, _, t0, by decide⟩
    have ht : x_has w (A 1 u) [5] := ⟨_, _, h.tg h1, by show (5 : Nat) ∈ [5]; decide⟩
    have gn : ∀ k i f, ¬ (k = 8 ∧ f = 7) → tbG A X ln u n k i f = xFv A X ln k i f := fun k i f c => if_neg (fun x => c ⟨x.1, x.2.1⟩)
    have f0 : x_fd w (A 12 0) 0 = .ref (A 12 1) := h.fd h12 (by rw [gn _ _ _ (by omega)]; rfl)
    have v1 : x_fd w (A 1 u) 1 = .int (xi u) := h.fd h1 (by rw [gn _ _ _ (by omega)]; rfl)
    have ec : (xi (u + (n : Int))).toNatClampNeg = (u + (n : Int)).toNat := x_cle (by omega) (by omega)
    have nn := x_nn (e := u + (n : Int)) (by omega) (by omega)
    have nc := x_clt (e := u + (n : Int)) (n := 128) (by omega) (by omega) (by omega)
    have e1 : (n : Int) + 1 = ((n + 1 : Nat) : Int) := by omega
    have eq : (((u + (n : Int)).toNat : Nat) : Int) = u + (n : Int) := by omega
    have sl : x_fd w (A 12 1) (u + (n : Int)).toNat = pv (X 0 (u + (n : Int)).toNat) (A 8 (u + (n : Int))) := h.fd h121 (by
      rw [gn _ _ _ (by omega)]
      show (if (u + (n : Int)).toNat < 128 then some (pv (X 0 (u + (n : Int)).toNat) (A 8 (((u + (n : Int)).toNat : Nat) : Int))) else none) = _
      rw [if_pos (by omega), eq])
    rw [wK_destroyTable_2]
    by_cases c : X 0 (u + (n : Int)).toNat < 0
    · rw [pv_n c] at sl
      have h2 : Hp w A U (tbG A X ln u (n + 1)) := by
        refine h.to (fun k i q => ⟨q, rfl⟩) (fun k i f v q g => ?_)
        unfold tbG at g ⊢
        by_cases z : k = 8 ∧ f = 7 ∧ u ≤ i ∧ i < u + ((n + 1 : Nat) : Int)
        · rw [if_pos z] at g
          rw [z.1] at q
          have := hU8 i q
          have ne : i ≠ u + (n : Int) := fun x => by rw [x] at this; omega
          rw [if_pos ⟨z.1, z.2.1, z.2.2.1, by omega⟩]; exact g
        · rw [if_neg z] at g
          rw [if_neg (fun x => z ⟨x.1, x.2.1, x.2.2.1, by omega⟩)]; exact g
      have i1 := ih (n + 1) (by omega) w (some .null) h2 fr
      simp (disch := first | exact hR _ _ | exact x01a | exact x01b | (unfold x_r; omega) | assumption | omega) only [wK_destroyTable_3, wK_destroyTable_5, wK_destroyTable_8, wK_destroyTable_9, wK_destroyTable_12, wK_destroyTable_13, wK_destroyTable_16, wK_destroyTable_17, wK_destroyTable_18 t1 (by omega) nn nc, wK_destroyTable_19, wK_destroyTable_19n, wK_destroyTable_20, wK_destroyTable_21n, wK_destroyTable_21, wK_destroyTable_29, wK_destroyTable_32, hk, ht, f0, v1, ec, sl, e1, x_gi_int, x_ga_ref, x_ga_null, List.getElem?_cons_zero, List.getElem?_cons_succ, List.length_cons, List.length_nil, List.set_cons_zero, List.set_cons_succ, Nat.reduceAdd, Nat.reduceLT, xr_lt, xr_eq, xr_toInt, xr_0, xi_add, xi_sub, xi_mul, xr_div, xr_rm, Int.toNat_natCast, bd_t, true_and, and_true, not_false_eq_true, ↓reduceIte, ilt_t, ilt_f, ile_t, x_c1i, x_c1r, x_c1n, and_self, Option.toList_some, Option.toList_none, List.cons_append, List.nil_append, xr_01, xr_00, ieq_f, ieq_t]
      exact i1
    · rw [pv_r c] at sl
      have u8 := hU8' (u + (n : Int)).toNat (by omega) (by omega)
      rw [eq] at u8
      have hc : x_has w (A 8 (u + (n : Int))) [1] := ⟨_, _, h.tg u8, by decide⟩
      have h2 : Hp (x_put w (A 8 (u + (n : Int))) 7 (.int (xi 1))) A U (tbG A X ln u (n + 1)) := by
        refine (h.put u8 7 (.int (xi 1))).to (fun k i q => ⟨q, rfl⟩) (fun k i f v q g => ?_)
        unfold tbG at g
        by_cases z0 : k = 8 ∧ i = u + (n : Int) ∧ f = 7
        · rw [z0.1, z0.2.1, z0.2.2, fup_e]
          rw [if_pos ⟨z0.1, z0.2.2, by omega, by omega⟩] at g
          exact g
        · rw [fup_n z0]
          unfold tbG
          by_cases z : k = 8 ∧ f = 7 ∧ u ≤ i ∧ i < u + ((n + 1 : Nat) : Int)
          · rw [if_pos z] at g
            have ne : i ≠ u + (n : Int) := fun x => z0 ⟨z.1, x, z.2.1⟩
            rw [if_pos ⟨z.1, z.2.1, z.2.2.1, by omega⟩]; exact g
          · rw [if_neg z] at g
            rw [if_neg (fun x => z ⟨x.1, x.2.1, x.2.2.1, by omega⟩)]; exact g
      have i1 := ih (n + 1) (by omega) _ (some (.ref (A 8 (u + (n : Int))))) h2 (h.frp fr u8 7 _)
      simp (disch := first | exact hR _ _ | exact x01a | exact x01b | (unfold x_r; omega) | assumption | omega) only [wK_destroyTable_3, wK_destroyTable_5, wK_destroyTable_8, wK_destroyTable_9, wK_destroyTable_12, wK_destroyTable_13, wK_destroyTable_16, wK_destroyTable_17, wK_destroyTable_18 t1 (by omega) nn nc, wK_destroyTable_19, wK_destroyTable_19n, wK_destroyTable_20, wK_destroyTable_21n, wK_destroyTable_21, wK_destroyTable_24, wK_destroyTable_25, wK_destroyTable_26, wK_destroyTable_29, wK_destroyTable_32, hk, ht, hc, f0, v1, ec, sl, xf, e1, x_gi_int, x_ga_ref, x_ga_null, List.getElem?_cons_zero, List.getElem?_cons_succ, List.length_cons, List.length_nil, List.set_cons_zero, List.set_cons_succ, Nat.reduceAdd, Nat.reduceLT, xr_lt, xr_eq, xr_toInt, xr_0, xi_add, xi_sub, xi_mul, xr_div, xr_rm, Int.toNat_natCast, bd_t, true_and, and_true, not_false_eq_true, ↓reduceIte, ilt_t, ilt_f, ile_t, x_c1i, x_c1r, x_c1n, and_self, Option.toList_some, Option.toList_none, List.cons_append, List.nil_append, xr_01, xr_00, ieq_f, ieq_t]
      exact i1
set_option maxHeartbeats 4000000 in
theorem k_destroyTable_thr {F : Int → Int → Nat → Option Value} {u : Int} (hu : 0 ≤ u) (h12 : U 12 0) (h122 : U 12 2) (hk1 : U 1 u) (hth : ∀ t : Nat, t < 16 → X 10 t ≠ 0 → U 2 (8 * (t : Int))) (hth' : ∀ t : Nat, t < 16 → U 2 (8 * (t : Int)) → X 10 t ≠ 0) (hU2 : ∀ u, U 2 u → ∃ t : Nat, t < 16 ∧ u = 8 * (t : Int)) (hF : ∀ k i f, k ≠ 8 → F k i f = xFv A X ln k i f) (hpt : ∀ t : Nat, t < 16 → X 10 t ≠ 0 → X 11 t = -1 ∨ (0 ≤ X 11 t ∧ U 1 (X 11 t))) {w0 : xH} (hQ : ∀ w', Hp w' A U (tbH F X u 11 2 16) → Fr w0 w' 0 → ∀ l3, WP P 33 73 [some (.ref (A 12 0)), some (.ref (A 1 u)), some (.int (xi 16)), l3] [] w' Q) :
    ∀ (d n : Nat), n + d = 16 → ∀ (w : xH) (l3 : Option Value), Hp w A U (tbH F X u 11 2 n) → Fr w0 w 0 → WP P 33 37 [some (.ref (A 12 0)), some (.ref (A 1 u)), some (.int (xi n)), l3] [] w Q := by
  have hR : RgS s_zero := RgS.zero
  intro d
  induction d with
  | zero =>
    intro n hn w l3 h fr
    obtain rfl : n = 16 := by omega
    simp (disch := first | exact hR _ _ | exact x01a | exact x01b | (unfold x_r; omega) | assumption | omega) only [wK_destroyTable_37, wK_destroyTable_38, wK_destroyTable_40, x_gi_int, x_ga_ref, x_ga_null, List.getElem?_cons_zero, List.getElem?_cons_succ, List.length_cons, List.length_nil, List.set_cons_zero, List.set_cons_succ, Nat.reduceAdd, Nat.reduceLT, xr_lt, xr_eq, xr_toInt, xr_0, xi_add, xi_sub, xi_mul, xr_div, xr_rm, Int.toNat_natCast, bd_t, true_and, and_true, not_false_eq_true, ↓reduceIte, ilt_t, ilt_f, ile_t, x_c1i, x_c1r, x_c1n, and_self, Option.toList_some, Option.toList_none, List.cons_append, List.nil_append, xr_01, xr_00, ieq_f, ieq_t]
    exact hQ w h fr l3
  | succ d ih =>
    intro n hn w l3 h fr
    have t0 : x_tg w (A 12 0) = some (0, 4) := h.tg h12
    have t2 : x_tg w (A 12 2) = some (32, 16) := h.tg h122
    have hk : x_has w (A 12 0) [0] := ⟨_, _, t0, by decide⟩
    have gn : ∀ k i f, k ≠ 2 → tbH F X u 11 2 n k i f = F k i f := fun k i f c => if_neg (fun x => c x.1)
    have f1 : x_fd w (A 12 0) 1 = .ref (A 12 2) := h.fd h12 (by rw [gn _ _ _ (by omega), hF _ _ _ (by omega)]; rfl)
    have ec : (xi (n : Int)).toNatClampNeg = n := by rw [x_cle (by omega) (by omega), Int.toNat_natCast]
    have nn := x_nn (e := (n : Int)) (by omega) (by omega)
    have nc := x_clt (e := (n : Int)) (n := 16) (by omega) (by omega) (by omega)
    have e1 : (n : Int) + 1 = ((n + 1 : Nat) : Int) := by omega
    have sl : x_fd w (A 12 2) n = if X 10 n = 0 then .null else .ref (A 2 (8 * (n : Int))) := h.fd h122 (by
      rw [gn _ _ _ (by omega), hF _ _ _ (by omega)]
      show (if n < 16 then some (if X 10 n = 0 then Value.null else .ref (A 2 (8 * (n : Int)))) else none) = _
      rw [if_pos (by omega)])
    have mono : (¬ (X 10 n ≠ 0 ∧ X 11 n = u)) → Hp w A U (tbH F X u 11 2 (n + 1)) := by
      intro hn'
      refine h.to (fun k i q => ⟨q, rfl⟩) (fun k i f v q z => ?_)
      unfold tbH at z ⊢
      by_cases c : k = 2 ∧ f = 2 ∧ 0 ≤ i ∧ i < 8 * ((n + 1 : Nat) : Int) ∧ X 11 (i / 8).toNat = u
      · rw [if_pos c] at z
        rw [c.1] at q
        obtain ⟨t, t1, t3⟩ := hU2 i q
        have ne : t ≠ n := fun x => hn' ⟨by rw [← x]; exact hth' t t1 (by rw [← t3]; exact q), by
          have := c.2.2.2.2
          rw [t3, show (8 * (t : Int) / 8).toNat = n by omega] at this
          exact this⟩
        rw [if_pos ⟨c.1, c.2.1, c.2.2.1, by omega, c.2.2.2.2⟩]; exact z
      · rw [if_neg c] at z
        rw [if_neg (fun x => c ⟨x.1, x.2.1, x.2.2.1, by omega, x.2.2.2.2⟩)]; exact z
    rw [wK_destroyTable_37]
    by_cases c0 : X 10 n = 0
    · rw [if_pos c0] at sl
      have i1 := ih (n + 1) (by omega) w (some .null) (mono (by omega)) fr
      simp (disch := first | exact hR _ _ | exact x01a | exact x01b | (unfold x_r; omega) | assumption | omega) only [wK_destroyTable_38, wK_destroyTable_40, wK_destroyTable_43, wK_destroyTable_44, wK_destroyTable_47, wK_destroyTable_48 t2 (by omega) nn nc, wK_destroyTable_49, wK_destroyTable_49n, wK_destroyTable_50, wK_destroyTable_51n, wK_destroyTable_51, wK_destroyTable_67, wK_destroyTable_70, hk, f1, ec, sl, e1, x_gi_int, x_ga_ref, x_ga_null, List.getElem?_cons_zero, List.getElem?_cons_succ, List.length_cons, List.length_nil, List.set_cons_zero, List.set_cons_succ, Nat.reduceAdd, Nat.reduceLT, xr_lt, xr_eq, xr_toInt, xr_0, xi_add, xi_sub, xi_mul, xr_div, xr_rm, Int.toNat_natCast, bd_t, true_and, and_true, not_false_eq_true, ↓reduceIte, ilt_t, ilt_f, ile_t, x_c1i, x_c1r, x_c1n, and_self, Option.toList_some, Option.toList_none, List.cons_append, List.nil_append, xr_01, xr_00, ieq_f, ieq_t]
      exact i1
    rw [if_neg c0] at sl
    have un := hth n (by omega) c0
    have hz : x_has w (A 2 (8 * (n : Int))) [2] := ⟨_, _, h.tg un, by decide⟩
    have zt : x_fd w (A 2 (8 * (n : Int))) 2 = pv (X 11 n) (A 1 (X 11 n)) := h.fd un (by
      unfold tbH
      rw [if_neg (by omega), hF _ _ _ (by omega), Fv_thr]; rfl)
    by_cases c : X 11 n = u
    · rw [c, pv_r (by omega)] at zt
      have h2 : Hp (x_put w (A 2 (8 * (n : Int))) 2 .null) A U (tbH F X u 11 2 (n + 1)) := by
        refine (h.put un 2 .null).to (fun k i q => ⟨q, rfl⟩) (fun k i f v q z => ?_)
        unfold tbH at z
        by_cases z0 : k = 2 ∧ i = 8 * (n : Int) ∧ f = 2
        · rw [z0.1, z0.2.1, z0.2.2, fup_e]
          rw [if_pos ⟨z0.1, z0.2.2, by omega, by omega, by rw [z0.2.1, show (8 * (n : Int) / 8).toNat = n by omega]; exact c⟩] at z
          exact z
        · rw [fup_n z0]
          unfold tbH
          by_cases c : k = 2 ∧ f = 2 ∧ 0 ≤ i ∧ i < 8 * ((n + 1 : Nat) : Int) ∧ X 11 (i / 8).toNat = u
          · rw [if_pos c] at z
            rw [c.1] at q
            obtain ⟨t, t1, t3⟩ := hU2 i q
            have ne : t ≠ n := fun x => z0 ⟨c.1, by omega, c.2.1⟩
            rw [if_pos ⟨c.1, c.2.1, c.2.2.1, by omega, c.2.2.2.2⟩]; exact z
          · rw [if_neg c] at z
            rw [if_neg (fun x => c ⟨x.1, x.2.1, x.2.2.1, by omega, x.2.2.2.2⟩)]; exact z
      have i1 := ih (n + 1) (by omega) _ (some (.ref (A 2 (8 * (n : Int))))) h2 (h.frp fr un 2 _)
      simp (disch := first | exact hR _ _ | exact x01a | exact x01b | (unfold x_r; omega) | assumption | omega) only [wK_destroyTable_38, wK_destroyTable_40, wK_destroyTable_43, wK_destroyTable_44, wK_destroyTable_47, wK_destroyTable_48 t2 (by omega) nn nc, wK_destroyTable_49, wK_destroyTable_49n, wK_destroyTable_50, wK_destroyTable_51n, wK_destroyTable_51, wK_destroyTable_54, wK_destroyTable_55, wK_destroyTable_58, wK_destroyTable_59 (x_rv_r _) (x_rv_r _), wK_destroyTable_62, wK_destroyTable_63, wK_destroyTable_64, wK_destroyTable_67, wK_destroyTable_70, x_f2n, hk, hz, f1, ec, sl, zt, e1, x_gi_int, x_ga_ref, x_ga_null, List.getElem?_cons_zero, List.getElem?_cons_succ, List.length_cons, List.length_nil, List.set_cons_zero, List.set_cons_succ, Nat.reduceAdd, Nat.reduceLT, xr_lt, xr_eq, xr_toInt, xr_0, xi_add, xi_sub, xi_mul, xr_div, xr_rm, Int.toNat_natCast, bd_t, true_and, and_true, not_false_eq_true, ↓reduceIte, ilt_t, ilt_f, ile_t, x_c1i, x_c1r, x_c1n, and_self, Option.toList_some, Option.toList_none, List.cons_append, List.nil_append, xr_01, xr_00, ieq_f, ieq_t]
      exact i1
    · obtain ⟨qv, hqv⟩ : ∃ o, x_rv (pv (X 11 n) (A 1 (X 11 n))) = some o := by unfold pv; split <;> exact ⟨_, rfl⟩
      have nq : ¬ qv = some (A 1 u) := by
        intro x
        rw [x] at hqv
        by_cases y : X 11 n < 0
        · rw [pv_n y] at hqv; cases hqv
        · rw [pv_r y] at hqv
          have e := Option.some.inj (Option.some.inj hqv)
          exact c (h.inj ((hpt n (by omega) c0).resolve_left (by omega)).2 hk1 e).2
      have i1 := ih (n + 1) (by omega) w (some (.ref (A 2 (8 * (n : Int))))) (mono (by omega)) fr
      simp (disch := first | exact hR _ _ | exact x01a | exact x01b | (unfold x_r; omega) | assumption | omega) only [wK_destroyTable_38, wK_destroyTable_40, wK_destroyTable_43, wK_destroyTable_44, wK_destroyTable_47, wK_destroyTable_48 t2 (by omega) nn nc, wK_destroyTable_49, wK_destroyTable_49n, wK_destroyTable_50, wK_destroyTable_51n, wK_destroyTable_51, wK_destroyTable_54, wK_destroyTable_55, wK_destroyTable_58, wK_destroyTable_59 hqv (x_rv_r _), wK_destroyTable_67, wK_destroyTable_70, hk, hz, f1, ec, sl, zt, nq, e1, x_gi_int, x_ga_ref, x_ga_null, List.getElem?_cons_zero, List.getElem?_cons_succ, List.length_cons, List.length_nil, List.set_cons_zero, List.set_cons_succ, Nat.reduceAdd, Nat.reduceLT, xr_lt, xr_eq, xr_toInt, xr_0, xi_add, xi_sub, xi_mul, xr_div, xr_rm, Int.toNat_natCast, bd_t, true_and, and_true, not_false_eq_true, ↓reduceIte, ilt_t, ilt_f, ile_t, x_c1i, x_c1r, x_c1n, and_self, Option.toList_some, Option.toList_none, List.cons_append, List.nil_append, xr_01, xr_00, ieq_f, ieq_t]
      exact i1
set_option maxHeartbeats 4000000 in
theorem k_destroySpace_thr {F : Int → Int → Nat → Option Value} {u : Int} (hu : 0 ≤ u) (h12 : U 12 0) (h122 : U 12 2) (hk1 : U 5 u) (hth : ∀ t : Nat, t < 16 → X 10 t ≠ 0 → U 2 (8 * (t : Int))) (hth' : ∀ t : Nat, t < 16 → U 2 (8 * (t : Int)) → X 10 t ≠ 0) (hU2 : ∀ u, U 2 u → ∃ t : Nat, t < 16 ∧ u = 8 * (t : Int)) (hF : ∀ k i f, k ≠ 8 → F k i f = xFv A X ln k i f) (hpt : ∀ t : Nat, t < 16 → X 10 t ≠ 0 → X 12 t = -1 ∨ (0 ≤ X 12 t ∧ U 5 (X 12 t))) {w0 : xH} (hQ : ∀ w', Hp w' A U (tbH F X u 12 3 16) → Fr w0 w' 0 → ∀ l3, WP P 37 38 [some (.ref (A 12 0)), some (.ref (A 5 u)), some (.int (xi 16)), l3] [] w' Q) :
    ∀ (d n : Nat), n + d = 16 → ∀ (w : xH) (l3 : Option Value), Hp w A U (tbH F X u 12 3 n) → Fr w0 w 0 → WP P 37 2 [some (.ref (A 12 0)), some (.ref (A 5 u)), some (.int (xi n)), l3] [] w Q := by
  have hR : RgS s_zero := RgS.zero
  intro d
  induction d with
  | zero =>
    intro n hn w l3 h fr
    obtain rfl : n = 16 := by omega
    simp (disch := first | exact hR _ _ | exact x01a | exact x01b | (unfold x_r; omega) | assumption | omega) only [wK_destroySpace_2, wK_destroySpace_3, wK_destroySpace_5, x_gi_int, x_ga_ref, x_ga_null, List.getElem?_cons_zero, List.getElem?_cons_succ, List.length_cons, List.length_nil, List.set_cons_zero, List.set_cons_succ, Nat.reduceAdd, Nat.reduceLT, xr_lt, xr_eq, xr_toInt, xr_0, xi_add, xi_sub, xi_mul, xr_div, xr_rm, Int.toNat_natCast, bd_t, true_and, and_true, not_false_eq_true, ↓reduceIte, ilt_t, ilt_f, ile_t, x_c1i, x_c1r, x_c1n, and_self, Option.toList_some, Option.toList_none, List.cons_append, List.nil_append, xr_01, xr_00, ieq_f, ieq_t]
    exact hQ w h fr l3
  | succ d ih =>
    intro n hn w l3 h fr
    have t0 : x_tg w (A 12 0) = some (0, 4) := h.tg h12
    have t2 : x_tg w (A 12 2) = some (32, 16) := h.tg h122
    have hk : x_has w (A 12 0) [0] := ⟨_, _, t0, by decide⟩
    have gn : ∀ k i f, k ≠ 2 → tbH F X u 12 3 n k i f = F k i f := fun k i f c => if_neg (fun x => c x.1)
    have f1 : x_fd w (A 12 0) 1 = .ref (A 12 2) := h.fd h12 (by rw [gn _ _ _ (by omega), hF _ _ _ (by omega)]; rfl)
    have ec : (xi (n : Int)).toNatClampNeg = n := by rw [x_cle (by omega) (by omega), Int.toNat_natCast]
    have nn := x_nn (e := (n : Int)) (by omega) (by omega)
    have nc := x_clt (e := (n : Int)) (n := 16) (by omega) (by omega) (by omega)
    have e1 : (n : Int) + 1 = ((n + 1 : Nat) : Int) := by omega
    have sl : x_fd w (A 12 2) n = if X 10 n = 0 then .null else .ref (A 2 (8 * (n : Int))) := h.fd h122 (by
      rw [gn _ _ _ (by omega), hF _ _ _ (by omega)]
      show (if n < 16 then some (if X 10 n = 0 then Value.null else .ref (A 2 (8 * (n : Int)))) else none) = _
      rw [if_pos (by omega)])
    have mono : (¬ (X 10 n ≠ 0 ∧ X 12 n = u)) → Hp w A U (tbH F X u 12 3 (n + 1)) := by
      intro hn'
      refine h.to (fun k i q => ⟨q, rfl⟩) (fun k i f v q z => ?_)
      unfold tbH at z ⊢
      by_cases c : k = 2 ∧ f = 3 ∧ 0 ≤ i ∧ i < 8 * ((n + 1 : Nat) : Int) ∧ X 12 (i / 8).toNat = u
      · rw [if_pos c] at z
        rw [c.1] at q
        obtain ⟨t, t1, t3⟩ := hU2 i q
        have ne : t ≠ n := fun x => hn' ⟨by rw [← x]; exact hth' t t1 (by rw [← t3]; exact q), by
          have := c.2.2.2.2
          rw [t3, show (8 * (t : Int) / 8).toNat = n by omega] at this
          exact this⟩
        rw [if_pos ⟨c.1, c.2.1, c.2.2.1, by omega, c.2.2.2.2⟩]; exact z
      · rw [if_neg c] at z
        rw [if_neg (fun x => c ⟨x.1, x.2.1, x.2.2.1, by omega, x.2.2.2.2⟩)]; exact z
    rw [wK_destroySpace_2]
    by_cases c0 : X 10 n = 0
    · rw [if_pos c0] at sl
      have i1 := ih (n + 1) (by omega) w (some .null) (mono (by omega)) fr
      simp (disch := first | exact hR _ _ | exact x01a | exact x01b | (unfold x_r; omega) | assumption | omega) only [wK_destroySpace_3, wK_destroySpace_5, wK_destroySpace_8, wK_destroySpace_9, wK_destroySpace_12, wK_destroySpace_13 t2 (by omega) nn nc, wK_destroySpace_14, wK_destroySpace_14n, wK_destroySpace_15, wK_destroySpace_16n, wK_destroySpace_16, wK_destroySpace_32, wK_destroySpace_35, hk, f1, ec, sl, e1, x_gi_int, x_ga_ref, x_ga_null, List.getElem?_cons_zero, List.getElem?_cons_succ, List.length_cons, List.length_nil, List.set_cons_zero, List.set_cons_succ, Nat.reduceAdd, Nat.reduceLT, xr_lt, xr_eq, xr_toInt, xr_0, xi_add, xi_sub, xi_mul, xr_div, xr_rm, Int.toNat_natCast, bd_t, true_and, and_true, not_false_eq_true, ↓reduceIte, ilt_t, ilt_f, ile_t, x_c1i, x_c1r, x_c1n, and_self, Option.toList_some, Option.toList_none, List.cons_append, List.nil_append, xr_01, xr_00, ieq_f, ieq_t]
      exact i1
    rw [if_neg c0] at sl
    have un := hth n (by omega) c0
    have hz : x_has w (A 2 (8 * (n : Int))) [2] := ⟨_, _, h.tg un, by decide⟩
    have zt : x_fd w (A 2 (8 * (n : Int))) 3 = pv (X 12 n) (A 5 (X 12 n)) := h.fd un (by
      unfold tbH
      rw [if_neg (by omega), hF _ _ _ (by omega), Fv_thr]; rfl)
    by_cases c : X 12 n = u
    · rw [c, pv_r (by omega)] at zt
      have h2 : Hp (x_put w (A 2 (8 * (n : Int))) 3 .null) A U (tbH F X u 12 3 (n + 1)) := by
        refine (h.put un 3 .null).to (fun k i q => ⟨q, rfl⟩) (fun k i f v q z => ?_)
        unfold tbH at z
        by_cases z0 : k = 2 ∧ i = 8 * (n : Int) ∧ f = 3
        · rw [z0.1, z0.2.1, z0.2.2, fup_e]
          rw [if_pos ⟨z0.1, z0.2.2, by omega, by omega, by rw [z0.2.1, show (8 * (n : Int) / 8).toNat = n by omega]; exact c⟩] at z
          exact z
        · rw [fup_n z0]
          unfold tbH
          by_cases c : k = 2 ∧ f = 3 ∧ 0 ≤ i ∧ i < 8 * ((n + 1 : Nat) : Int) ∧ X 12 (i / 8).toNat = u
          · rw [if_pos c] at z
            rw [c.1] at q
            obtain ⟨t, t1, t3⟩ := hU2 i q
            have ne : t ≠ n := fun x => z0 ⟨c.1, by omega, c.2.1⟩
            rw [if_pos ⟨c.1, c.2.1, c.2.2.1, by omega, c.2.2.2.2⟩]; exact z
          · rw [if_neg c] at z
            rw [if_neg (fun x => c ⟨x.1, x.2.1, x.2.2.1, by omega, x.2.2.2.2⟩)]; exact z
      have i1 := ih (n + 1) (by omega) _ (some (.ref (A 2 (8 * (n : Int))))) h2 (h.frp fr un 3 _)
      simp (disch := first | exact hR _ _ | exact x01a | exact x01b | (unfold x_r; omega) | assumption | omega) only [wK_destroySpace_3, wK_destroySpace_5, wK_destroySpace_8, wK_destroySpace_9, wK_destroySpace_12, wK_destroySpace_13 t2 (by omega) nn nc, wK_destroySpace_14, wK_destroySpace_14n, wK_destroySpace_15, wK_destroySpace_16n, wK_destroySpace_16, wK_destroySpace_19, wK_destroySpace_20, wK_destroySpace_23, wK_destroySpace_24 (x_rv_r _) (x_rv_r _), wK_destroySpace_27, wK_destroySpace_28, wK_destroySpace_29, wK_destroySpace_32, wK_destroySpace_35, x_f2n, hk, hz, f1, ec, sl, zt, e1, x_gi_int, x_ga_ref, x_ga_null, List.getElem?_cons_zero, List.getElem?_cons_succ, List.length_cons, List.length_nil, List.set_cons_zero, List.set_cons_succ, Nat.reduceAdd, Nat.reduceLT, xr_lt, xr_eq, xr_toInt, xr_0, xi_add, xi_sub, xi_mul, xr_div, xr_rm, Int.toNat_natCast, bd_t, true_and, and_true, not_false_eq_true, ↓reduceIte, ilt_t, ilt_f, ile_t, x_c1i, x_c1r, x_c1n, and_self, Option.toList_some, Option.toList_none, List.cons_append, List.nil_append, xr_01, xr_00, ieq_f, ieq_t]
      exact i1
    · obtain ⟨qv, hqv⟩ : ∃ o, x_rv (pv (X 12 n) (A 5 (X 12 n))) = some o := by unfold pv; split <;> exact ⟨_, rfl⟩
      have nq : ¬ qv = some (A 5 u) := by
        intro x
        rw [x] at hqv
        by_cases y : X 12 n < 0
        · rw [pv_n y] at hqv; cases hqv
        · rw [pv_r y] at hqv
          have e := Option.some.inj (Option.some.inj hqv)
          exact c (h.inj ((hpt n (by omega) c0).resolve_left (by omega)).2 hk1 e).2
      have i1 := ih (n + 1) (by omega) w (some (.ref (A 2 (8 * (n : Int))))) (mono (by omega)) fr
      simp (disch := first | exact hR _ _ | exact x01a | exact x01b | (unfold x_r; omega) | assumption | omega) only [wK_destroySpace_3, wK_destroySpace_5, wK_destroySpace_8, wK_destroySpace_9, wK_destroySpace_12, wK_destroySpace_13 t2 (by omega) nn nc, wK_destroySpace_14, wK_destroySpace_14n, wK_destroySpace_15, wK_destroySpace_16n, wK_destroySpace_16, wK_destroySpace_19, wK_destroySpace_20, wK_destroySpace_23, wK_destroySpace_24 hqv (x_rv_r _), wK_destroySpace_32, wK_destroySpace_35, hk, hz, f1, ec, sl, zt, nq, e1, x_gi_int, x_ga_ref, x_ga_null, List.getElem?_cons_zero, List.getElem?_cons_succ, List.length_cons, List.length_nil, List.set_cons_zero, List.set_cons_succ, Nat.reduceAdd, Nat.reduceLT, xr_lt, xr_eq, xr_toInt, xr_0, xi_add, xi_sub, xi_mul, xr_div, xr_rm, Int.toNat_natCast, bd_t, true_and, and_true, not_false_eq_true, ↓reduceIte, ilt_t, ilt_f, ile_t, x_c1i, x_c1r, x_c1n, and_self, Option.toList_some, Option.toList_none, List.cons_append, List.nil_append, xr_01, xr_00, ieq_f, ieq_t]
      exact i1
def spG (F : Int → Int → Nat → Option Value) (X : xS) (u : Int) (n : Nat) : Int → Int → Nat → Option Value := fun k i f => if k = 10 ∧ i = u ∧ f < n then some .null else if k = 6 ∧ f = 2 ∧ X 25 (i / 4).toNat = u ∧ X 26 (i / 4).toNat < (n : Int) then some .null else F k i f
set_option maxHeartbeats 8000000 in
theorem k_ds_loop2 {F : Int → Int → Nat → Option Value} {u : Int} (hu : 0 ≤ u) (h5 : U 5 u) (h10 : U 10 u) (hF : ∀ k i f, k ≠ 2 → F k i f = xFv A X ln k i f) (mA : ∀ l l' : Nat, l < 32 → l' < 32 → l ≠ l' → hd X 6 (4 * (l : Int)) → hd X 6 (4 * (l' : Int)) → X 25 l ≠ -1 → X 25 l = X 25 l' → X 26 l ≠ X 26 l') (hU6 : ∀ i, U 6 i → ∃ l : Nat, l < 32 ∧ i = 4 * (l : Int) ∧ hd X 6 i) (hU6' : ∀ l : Nat, l < 32 → hd X 6 (4 * (l : Int)) → U 6 (4 * (l : Int))) (hX26 : ∀ l : Nat, l < 32 → hd X 6 (4 * (l : Int)) → X 25 l = u → 0 ≤ X 26 l ∧ X 26 l < 4) {w0 : xH} {l0 : Option Value} (hQ : ∀ w', Hp w' A U (spG F X u 4) → Fr w0 w' 0 → Q none w') :
    ∀ (d n : Nat), n + d = 4 → ∀ (w : xH) (l3 : Option Value), Hp w A U (spG F X u n) → Fr w0 w 0 → WP P 37 40 [l0, some (.ref (A 5 u)), some (.int (xi n)), l3] [] w Q := by
  have hR : RgS s_zero := RgS.zero
  intro d
  induction d with
  | zero =>
    intro n hn w l3 h fr
    obtain rfl : n = 4 := by omega
    simp (disch := first | exact hR _ _ | exact x01a | exact x01b | (unfold x_r; omega) | assumption | omega) only [wK_destroySpace_40, wK_destroySpace_41, wK_destroySpace_42, wK_destroySpace_66, x_gi_int, x_ga_ref, x_ga_null, List.getElem?_cons_zero, List.getElem?_cons_succ, List.length_cons, List.length_nil, List.set_cons_zero, List.set_cons_succ, Nat.reduceAdd, Nat.reduceLT, xr_lt, xr_eq, xr_toInt, xr_0, xi_add, xi_sub, xi_mul, xr_div, xr_rm, Int.toNat_natCast, bd_t, true_and, and_true, not_false_eq_true, ↓reduceIte, ilt_t, ilt_f, ile_t, x_c1i, x_c1r, x_c1n, and_self, Option.toList_some, Option.toList_none, List.cons_append, List.nil_append, xr_01, xr_00, ieq_f, ieq_t]
    exact hQ w h fr
  | succ d ih =>
    intro n hn w l3 h fr
    have hs : x_has w (A 5 u) [8] := ⟨_, _, h.tg h5, by show (8 : Nat) ∈ [8]; decide⟩
    have t10 : x_tg w (A 10 u) = some (39, 4) := h.tg h10
    have gn : ∀ k i f, ¬ (k = 10) → ¬ (k = 6 ∧ f = 2) → spG F X u n k i f = F k i f := by
      intro k i f a b
      unfold spG
      rw [if_neg (fun x => a x.1), if_neg (fun x => b ⟨x.1, x.2.1⟩)]
    have f2 : x_fd w (A 5 u) 2 = .ref (A 10 u) := h.fd h5 (by rw [gn _ _ _ (by omega) (by omega), hF _ _ _ (by omega)]; rfl)
    have ec : (xi (n : Int)).toNatClampNeg = n := by rw [x_cle (by omega) (by omega), Int.toNat_natCast]
    have nn := x_nn (e := (n : Int)) (by omega) (by omega)
    have nc := x_clt (e := (n : Int)) (n := 4) (by omega) (by omega) (by omega)
    have e1 : (n : Int) + 1 = ((n + 1 : Nat) : Int) := by omega
    have sl : x_fd w (A 10 u) n = pv (s_leafOf X u n) (A 6 (s_leafOf X u n)) := h.fd h10 (by
      unfold spG
      rw [if_neg (by omega), if_neg (by omega), hF _ _ _ (by omega)]
      show (if n < 4 then some (pv (s_leafOf X u n) (A 6 (s_leafOf X u n))) else none) = _
      rw [if_pos (by omega)])
    rw [wK_destroySpace_40]
    by_cases c : s_leafOf X u n < 0
    · rw [pv_n c] at sl
      have h2 : Hp w A U (spG F X u (n + 1)) := by
        refine h.to (fun k i q => ⟨q, rfl⟩) (fun k i f v q z => ?_)
        unfold spG at z ⊢
        by_cases c1 : k = 10 ∧ i = u ∧ f < n + 1
        · rw [if_pos c1] at z
          by_cases c2 : f = n
          · rw [if_neg (by omega), if_neg (by omega), hF _ _ _ (by omega), c1.1, c1.2.1, c2]
            show (if n < 4 then some (pv (s_leafOf X u n) (A 6 (s_leafOf X u n))) else none) = some v
            rw [if_pos (by omega), pv_n c]; exact z
          · rw [if_pos ⟨c1.1, c1.2.1, by omega⟩]; exact z
        rw [if_neg c1] at z
        rw [if_neg (fun x => c1 ⟨x.1, x.2.1, by omega⟩)]
        by_cases c3 : k = 6 ∧ f = 2 ∧ X 25 (i / 4).toNat = u ∧ X 26 (i / 4).toNat < ((n + 1 : Nat) : Int)
        · rw [if_pos c3] at z
          rw [c3.1] at q
          obtain ⟨l, l1, l2, l4⟩ := hU6 i q
          have el : (i / 4).toNat = l := by omega
          rw [el] at c3 ⊢
          have ne : X 26 l ≠ (n : Int) := fun x => by
            have := leafOf_eq2 (u := u) (e := (n : Int)) mA l1 (by rw [← l2]; exact l4) c3.2.2.1 x (by omega)
            omega
          rw [if_pos ⟨c3.1, c3.2.1, c3.2.2.1, by omega⟩]; exact z
        · rw [if_neg c3] at z
          rw [if_neg (fun x => c3 ⟨x.1, x.2.1, x.2.2.1, by omega⟩)]; exact z
      have i1 := ih (n + 1) (by omega) w (some .null) h2 fr
      simp (disch := first | exact hR _ _ | exact x01a | exact x01b | (unfold x_r; omega) | assumption | omega) only [wK_destroySpace_41, wK_destroySpace_42, wK_destroySpace_45, wK_destroySpace_46, wK_destroySpace_49, wK_destroySpace_50 t10 (by omega) nn nc, wK_destroySpace_51, wK_destroySpace_51n, wK_destroySpace_52, wK_destroySpace_53n, wK_destroySpace_53, wK_destroySpace_60, wK_destroySpace_63, hs, f2, ec, sl, e1, x_gi_int, x_ga_ref, x_ga_null, List.getElem?_cons_zero, List.getElem?_cons_succ, List.length_cons, List.length_nil, List.set_cons_zero, List.set_cons_succ, Nat.reduceAdd, Nat.reduceLT, xr_lt, xr_eq, xr_toInt, xr_0, xi_add, xi_sub, xi_mul, xr_div, xr_rm, Int.toNat_natCast, bd_t, true_and, and_true, not_false_eq_true, ↓reduceIte, ilt_t, ilt_f, ile_t, x_c1i, x_c1r, x_c1n, and_self, Option.toList_some, Option.toList_none, List.cons_append, List.nil_append, xr_01, xr_00, ieq_f, ieq_t]
      exact i1
    · rw [pv_r c] at sl
      obtain ⟨l, l1, l2, l4, l5, l6⟩ := leafOf_is (show 0 ≤ s_leafOf X u n by omega)
      rw [l2] at sl
      have u6 := hU6' l l1 l4
      have el : ((4 * (l : Int)) / 4).toNat = l := by omega
      simp (disch := first | exact hR _ _ | exact x01a | exact x01b | (unfold x_r; omega) | assumption | omega) only [wK_destroySpace_41, wK_destroySpace_42, wK_destroySpace_45, wK_destroySpace_46, wK_destroySpace_49, wK_destroySpace_50 t10 (by omega) nn nc, wK_destroySpace_51, wK_destroySpace_51n, wK_destroySpace_52, wK_destroySpace_53n, wK_destroySpace_53, wK_destroySpace_56, hs, f2, ec, sl, x_gi_int, x_ga_ref, x_ga_null, List.getElem?_cons_zero, List.getElem?_cons_succ, List.length_cons, List.length_nil, List.set_cons_zero, List.set_cons_succ, Nat.reduceAdd, Nat.reduceLT, xr_lt, xr_eq, xr_toInt, xr_0, xi_add, xi_sub, xi_mul, xr_div, xr_rm, Int.toNat_natCast, bd_t, true_and, and_true, not_false_eq_true, ↓reduceIte, ilt_t, ilt_f, ile_t, x_c1i, x_c1r, x_c1n, and_self, Option.toList_some, Option.toList_none, List.cons_append, List.nil_append, xr_01, xr_00, ieq_f, ieq_t]
      have f2v : spG F X u n 6 (4 * (l : Int)) 2 = some (pv u (A 5 u)) := by
        unfold spG
        rw [if_neg (by omega), el, if_neg (by omega), hF _ _ _ (by omega)]
        show some (pv (X 25 ((4 * (l : Int)) / 4).toNat) (A 5 (X 25 ((4 * (l : Int)) / 4).toNat))) = _
        rw [el, l5]
      have f3v : spG F X u n 6 (4 * (l : Int)) 3 = some (.int (xi (n : Int))) := by
        rw [gn _ _ _ (by omega) (by omega), hF _ _ _ (by omega)]
        show (if X 25 ((4 * (l : Int)) / 4).toNat < 0 then none else some (Value.int (xi (X 26 ((4 * (l : Int)) / 4).toNat)))) = _
        rw [el, l5, l6, if_neg (by omega)]
      refine wK_destroySpace_57 (by simp) rfl rfl (k_leaveSpaceF h (e := (n : Int)) u6 f2v (fun _ => ⟨f3v, h5, by rw [gn _ _ _ (by omega) (by omega), hF _ _ _ (by omega)]; rfl, h10, by omega, by omega⟩) (fun w' h' fr' => ?_))
      rw [if_neg (by omega), Int.toNat_natCast] at h'
      have h2 : Hp w' A U (spG F X u (n + 1)) := by
        refine h'.to (fun k i q => ⟨q, rfl⟩) (fun k i f v q z => ?_)
        unfold spG at z
        by_cases c1 : k = 10 ∧ i = u ∧ f < n + 1
        · rw [if_pos c1] at z
          rw [fup_n (by omega)]
          by_cases c2 : f = n
          · rw [c1.1, c1.2.1, c2, fup_e]; exact z
          · rw [fup_n (by omega)]
            unfold spG
            rw [if_pos ⟨c1.1, c1.2.1, by omega⟩]; exact z
        rw [if_neg c1] at z
        by_cases c3 : k = 6 ∧ f = 2 ∧ X 25 (i / 4).toNat = u ∧ X 26 (i / 4).toNat < ((n + 1 : Nat) : Int)
        · rw [if_pos c3] at z
          by_cases c4 : i = 4 * (l : Int)
          · rw [c3.1, c4, c3.2.1, fup_e]; exact z
          · rw [fup_n (fun x => c4 x.2.1), fup_n (by omega)]
            unfold spG
            rw [c3.1] at q
            obtain ⟨m, m1, m2, m4⟩ := hU6 i q
            have em : (i / 4).toNat = m := by omega
            rw [em] at c3 ⊢
            have ne : X 26 m ≠ (n : Int) := fun x => by
              have := leafOf_eq2 (u := u) (e := (n : Int)) mA m1 (by rw [← m2]; exact m4) c3.2.2.1 x (by omega)
              omega
            rw [if_neg (by omega), if_pos ⟨c3.1, c3.2.1, c3.2.2.1, by omega⟩]; exact z
        · rw [if_neg c3] at z
          have n4 : ¬ (k = 6 ∧ i = 4 * (l : Int) ∧ f = 2) := by
            intro x
            apply c3
            rw [x.2.1, el]
            exact ⟨x.1, x.2.2, l5, by omega⟩
          rw [fup_n n4, fup_n (fun x => c1 ⟨x.1, x.2.1, by omega⟩)]
          unfold spG
          rw [if_neg (fun x => c1 ⟨x.1, x.2.1, by omega⟩), if_neg (fun x => c3 ⟨x.1, x.2.1, x.2.2.1, by omega⟩)]
          exact z
      have i1 := ih (n + 1) (by omega) w' (some (.ref (A 6 (4 * (l : Int))))) h2 (fr.trans (k := 0) fr' (by omega))
      simp (disch := first | exact hR _ _ | exact x01a | exact x01b | (unfold x_r; omega) | assumption | omega) only [wK_destroySpace_60, wK_destroySpace_63, e1, x_gi_int, x_ga_ref, x_ga_null, List.getElem?_cons_zero, List.getElem?_cons_succ, List.length_cons, List.length_nil, List.set_cons_zero, List.set_cons_succ, Nat.reduceAdd, Nat.reduceLT, xr_lt, xr_eq, xr_toInt, xr_0, xi_add, xi_sub, xi_mul, xr_div, xr_rm, Int.toNat_natCast, bd_t, true_and, and_true, not_false_eq_true, ↓reduceIte, ilt_t, ilt_f, ile_t, x_c1i, x_c1r, x_c1n, and_self, Option.toList_some, Option.toList_none, List.cons_append, List.nil_append, xr_01, xr_00, ieq_f, ieq_t]
      exact i1
def lfG (F : Int → Int → Nat → Option Value) (X : xS) (u : Int) (n : Nat) : Int → Int → Nat → Option Value := fun k i f => if k = 11 ∧ i = u ∧ f < n then some .null else if k = 8 ∧ f = 5 ∧ X 7 i.toNat = u ∧ X 8 i.toNat < (n : Int) then some .null else F k i f
set_option maxHeartbeats 8000000 in
theorem k_dl_loop {F : Int → Int → Nat → Option Value} {u : Int} (hu : 0 ≤ u) (h6 : U 6 u) (h11 : U 11 u) (hF : ∀ k i f, k ≠ 10 → ¬ (k = 6 ∧ f = 2) → F k i f = xFv A X ln k i f) (mB1 : ∀ x, x < 128 → 0 ≤ X 0 x → X 7 x = u → X 0 x = 7) (mB : ∀ p p' : Nat, p < 128 → p' < 128 → p ≠ p' → 0 ≤ X 0 p → 0 ≤ X 0 p' → X 7 p ≠ -1 → X 7 p = X 7 p' → X 8 p ≠ X 8 p') (hU8 : ∀ i, U 8 i → 0 ≤ i ∧ i < 128 ∧ 0 ≤ X 0 i.toNat) (hU8' : ∀ q : Nat, q < 128 → 0 ≤ X 0 q → U 8 (q : Int)) {w0 : xH} (hQ : ∀ w', Hp w' A U (lfG F X u 4) → Fr w0 w' 0 → Q none w') :
    ∀ (d n : Nat), n + d = 4 → ∀ (w : xH) (l3 : Option Value), Hp w A U (lfG F X u n) → Fr w0 w 0 → WP P 39 6 [some (.ref (A 6 u)), some (.int (xi n)), l3] [] w Q := by
  have hR : RgS s_zero := RgS.zero
  intro d
  induction d with
  | zero =>
    intro n hn w l3 h fr
    obtain rfl : n = 4 := by omega
    simp (disch := first | exact hR _ _ | exact x01a | exact x01b | (unfold x_r; omega) | assumption | omega) only [wK_destroyLeaf_6, wK_destroyLeaf_7, wK_destroyLeaf_8, wK_destroyLeaf_32, x_gi_int, x_ga_ref, x_ga_null, List.getElem?_cons_zero, List.getElem?_cons_succ, List.length_cons, List.length_nil, List.set_cons_zero, List.set_cons_succ, Nat.reduceAdd, Nat.reduceLT, xr_lt, xr_eq, xr_toInt, xr_0, xi_add, xi_sub, xi_mul, xr_div, xr_rm, Int.toNat_natCast, bd_t, true_and, and_true, not_false_eq_true, ↓reduceIte, ilt_t, ilt_f, ile_t, x_c1i, x_c1r, x_c1n, and_self, Option.toList_some, Option.toList_none, List.cons_append, List.nil_append, xr_01, xr_00, ieq_f, ieq_t]
    exact hQ w h fr
  | succ d ih =>
    intro n hn w l3 h fr
    have hs : x_has w (A 6 u) [9] := ⟨_, _, h.tg h6, by show (9 : Nat) ∈ [9]; decide⟩
    have t11 : x_tg w (A 11 u) = some (31, 4) := h.tg h11
    have gn : ∀ k i f, ¬ (k = 11) → ¬ (k = 8 ∧ f = 5) → lfG F X u n k i f = F k i f := by
      intro k i f a b
      unfold lfG
      rw [if_neg (fun x => a x.1), if_neg (fun x => b ⟨x.1, x.2.1⟩)]
    have f4 : x_fd w (A 6 u) 4 = .ref (A 11 u) := h.fd h6 (by rw [gn _ _ _ (by omega) (by omega), hF _ _ _ (by omega) (by omega)]; rfl)
    have ec : (xi (n : Int)).toNatClampNeg = n := by rw [x_cle (by omega) (by omega), Int.toNat_natCast]
    have nn := x_nn (e := (n : Int)) (by omega) (by omega)
    have nc := x_clt (e := (n : Int)) (n := 4) (by omega) (by omega) (by omega)
    have e1 : (n : Int) + 1 = ((n + 1 : Nat) : Int) := by omega
    have sl : x_fd w (A 11 u) n = pv (s_frameOf X u n) (A 8 (s_frameOf X u n)) := h.fd h11 (by
      unfold lfG
      rw [if_neg (by omega), if_neg (by omega), hF _ _ _ (by omega) (by omega)]
      show (if n < 4 then some (pv (s_frameOf X u n) (A 8 (s_frameOf X u n))) else none) = _
      rw [if_pos (by omega)])
    have k7 := mB1
    rw [wK_destroyLeaf_6]
    by_cases c : s_frameOf X u n < 0
    · rw [pv_n c] at sl
      have h2 : Hp w A U (lfG F X u (n + 1)) := by
        refine h.to (fun k i q => ⟨q, rfl⟩) (fun k i f v q z => ?_)
        unfold lfG at z ⊢
        by_cases c1 : k = 11 ∧ i = u ∧ f < n + 1
        · rw [if_pos c1] at z
          by_cases c2 : f = n
          · rw [if_neg (by omega), if_neg (by omega), hF _ _ _ (by omega) (by omega), c1.1, c1.2.1, c2]
            show (if n < 4 then some (pv (s_frameOf X u n) (A 8 (s_frameOf X u n))) else none) = some v
            rw [if_pos (by omega), pv_n c]; exact z
          · rw [if_pos ⟨c1.1, c1.2.1, by omega⟩]; exact z
        rw [if_neg c1] at z
        rw [if_neg (fun x => c1 ⟨x.1, x.2.1, by omega⟩)]
        by_cases c3 : k = 8 ∧ f = 5 ∧ X 7 i.toNat = u ∧ X 8 i.toNat < ((n + 1 : Nat) : Int)
        · rw [if_pos c3] at z
          rw [c3.1] at q
          have lv := hU8 i q
          have ne : X 8 i.toNat ≠ (n : Int) := fun x => by
            have := frameOf_eq2 (l := u) (e := (n : Int)) mB (by omega) (k7 _ (by omega) lv.2.2 c3.2.2.1) c3.2.2.1 x (by omega)
            omega
          rw [if_pos ⟨c3.1, c3.2.1, c3.2.2.1, by omega⟩]; exact z
        · rw [if_neg c3] at z
          rw [if_neg (fun x => c3 ⟨x.1, x.2.1, x.2.2.1, by omega⟩)]; exact z
      have i1 := ih (n + 1) (by omega) w (some .null) h2 fr
      simp (disch := first | exact hR _ _ | exact x01a | exact x01b | (unfold x_r; omega) | assumption | omega) only [wK_destroyLeaf_7, wK_destroyLeaf_8, wK_destroyLeaf_11, wK_destroyLeaf_12, wK_destroyLeaf_15, wK_destroyLeaf_16 t11 (by omega) nn nc, wK_destroyLeaf_17, wK_destroyLeaf_17n, wK_destroyLeaf_18, wK_destroyLeaf_19n, wK_destroyLeaf_19, wK_destroyLeaf_26, wK_destroyLeaf_29, hs, f4, ec, sl, e1, x_gi_int, x_ga_ref, x_ga_null, List.getElem?_cons_zero, List.getElem?_cons_succ, List.length_cons, List.length_nil, List.set_cons_zero, List.set_cons_succ, Nat.reduceAdd, Nat.reduceLT, xr_lt, xr_eq, xr_toInt, xr_0, xi_add, xi_sub, xi_mul, xr_div, xr_rm, Int.toNat_natCast, bd_t, true_and, and_true, not_false_eq_true, ↓reduceIte, ilt_t, ilt_f, ile_t, x_c1i, x_c1r, x_c1n, and_self, Option.toList_some, Option.toList_none, List.cons_append, List.nil_append, xr_01, xr_00, ieq_f, ieq_t]
      exact i1
    · rw [pv_r c] at sl
      obtain ⟨q1, q2, q3, q4⟩ := frameOf_is (show 0 ≤ s_frameOf X u n by omega)
      obtain ⟨p, ep⟩ : ∃ p : Nat, s_frameOf X u n = (p : Int) := ⟨(s_frameOf X u n).toNat, by omega⟩
      rw [ep] at sl q1 q2 q3 q4
      rw [Int.toNat_natCast] at q2 q3 q4
      have u8 := hU8' p (by omega) (by omega)
      simp (disch := first | exact hR _ _ | exact x01a | exact x01b | (unfold x_r; omega) | assumption | omega) only [wK_destroyLeaf_7, wK_destroyLeaf_8, wK_destroyLeaf_11, wK_destroyLeaf_12, wK_destroyLeaf_15, wK_destroyLeaf_16 t11 (by omega) nn nc, wK_destroyLeaf_17, wK_destroyLeaf_17n, wK_destroyLeaf_18, wK_destroyLeaf_19n, wK_destroyLeaf_19, wK_destroyLeaf_22, hs, f4, ec, sl, x_gi_int, x_ga_ref, x_ga_null, List.getElem?_cons_zero, List.getElem?_cons_succ, List.length_cons, List.length_nil, List.set_cons_zero, List.set_cons_succ, Nat.reduceAdd, Nat.reduceLT, xr_lt, xr_eq, xr_toInt, xr_0, xi_add, xi_sub, xi_mul, xr_div, xr_rm, Int.toNat_natCast, bd_t, true_and, and_true, not_false_eq_true, ↓reduceIte, ilt_t, ilt_f, ile_t, x_c1i, x_c1r, x_c1n, and_self, Option.toList_some, Option.toList_none, List.cons_append, List.nil_append, xr_01, xr_00, ieq_f, ieq_t]
      have f5v : lfG F X u n 8 (p : Int) 5 = some (pv u (A 6 u)) := by
        unfold lfG
        rw [if_neg (by omega), Int.toNat_natCast, if_neg (by omega), hF _ _ _ (by omega) (by omega)]
        show some (pv (X 7 (p : Int).toNat) (A 6 (X 7 (p : Int).toNat))) = _
        rw [Int.toNat_natCast, q3]
      have f6v : lfG F X u n 8 (p : Int) 6 = some (.int (xi (n : Int))) := by
        rw [gn _ _ _ (by omega) (by omega), hF _ _ _ (by omega) (by omega)]
        show (if X 7 (p : Int).toNat < 0 then none else some (Value.int (xi (X 8 (p : Int).toNat)))) = _
        rw [Int.toNat_natCast, q3, q4, if_neg (by omega)]
      refine wK_destroyLeaf_23 (by simp) rfl rfl (k_leaveLeafF h (e := (n : Int)) u8 f5v (fun _ => ⟨f6v, h6, by rw [gn _ _ _ (by omega) (by omega), hF _ _ _ (by omega) (by omega)]; rfl, h11, by omega, by omega⟩) (fun w' h' fr' => ?_))
      rw [if_neg (by omega), Int.toNat_natCast] at h'
      have h2 : Hp w' A U (lfG F X u (n + 1)) := by
        refine h'.to (fun k i q => ⟨q, rfl⟩) (fun k i f v q z => ?_)
        unfold lfG at z
        by_cases c1 : k = 11 ∧ i = u ∧ f < n + 1
        · rw [if_pos c1] at z
          rw [fup_n (by omega)]
          by_cases c2 : f = n
          · rw [c1.1, c1.2.1, c2, fup_e]; exact z
          · rw [fup_n (by omega)]
            unfold lfG
            rw [if_pos ⟨c1.1, c1.2.1, by omega⟩]; exact z
        rw [if_neg c1] at z
        by_cases c3 : k = 8 ∧ f = 5 ∧ X 7 i.toNat = u ∧ X 8 i.toNat < ((n + 1 : Nat) : Int)
        · rw [if_pos c3] at z
          by_cases c4 : i = (p : Int)
          · rw [c3.1, c4, c3.2.1, fup_e]; exact z
          · rw [fup_n (fun x => c4 x.2.1), fup_n (by omega)]
            unfold lfG
            rw [c3.1] at q
            have lv := hU8 i q
            have ne : X 8 i.toNat ≠ (n : Int) := fun x => by
              have := frameOf_eq2 (l := u) (e := (n : Int)) mB (by omega) (k7 _ (by omega) lv.2.2 c3.2.2.1) c3.2.2.1 x (by omega)
              omega
            rw [if_neg (by omega), if_pos ⟨c3.1, c3.2.1, c3.2.2.1, by omega⟩]; exact z
        · rw [if_neg c3] at z
          have n4 : ¬ (k = 8 ∧ i = (p : Int) ∧ f = 5) := by
            intro x
            apply c3
            rw [x.2.1, Int.toNat_natCast]
            exact ⟨x.1, x.2.2, q3, by omega⟩
          rw [fup_n n4, fup_n (fun x => c1 ⟨x.1, x.2.1, by omega⟩)]
          unfold lfG
          rw [if_neg (fun x => c1 ⟨x.1, x.2.1, by omega⟩), if_neg (fun x => c3 ⟨x.1, x.2.1, x.2.2.1, by omega⟩)]
          exact z
      have i1 := ih (n + 1) (by omega) w' (some (.ref (A 8 (p : Int)))) h2 (fr.trans (k := 0) fr' (by omega))
      simp (disch := first | exact hR _ _ | exact x01a | exact x01b | (unfold x_r; omega) | assumption | omega) only [wK_destroyLeaf_26, wK_destroyLeaf_29, e1, x_gi_int, x_ga_ref, x_ga_null, List.getElem?_cons_zero, List.getElem?_cons_succ, List.length_cons, List.length_nil, List.set_cons_zero, List.set_cons_succ, Nat.reduceAdd, Nat.reduceLT, xr_lt, xr_eq, xr_toInt, xr_0, xi_add, xi_sub, xi_mul, xr_div, xr_rm, Int.toNat_natCast, bd_t, true_and, and_true, not_false_eq_true, ↓reduceIte, ilt_t, ilt_f, ile_t, x_c1i, x_c1r, x_c1n, and_self, Option.toList_some, Option.toList_none, List.cons_append, List.nil_append, xr_01, xr_00, ieq_f, ieq_t]
      exact i1
end RD2
