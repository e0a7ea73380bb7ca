/-! ===== new objects ===== -/
def aup (A : xA) (k i : Int) (a : Nat) : xA := fun k' i' => if k' = k ∧ i' = i then a else A k' i'
theorem aup_e {A : xA} {k i : Int} {a : Nat} : aup A k i a k i = a := if_pos ⟨rfl, rfl⟩
theorem aup_n {A : xA} {k i k' i' : Int} {a : Nat} (h : ¬ (k' = k ∧ i' = i)) : aup A k i a k' i' = A k' i' := if_neg h
theorem aup_k {A : xA} {k i k' : Int} {a : Nat} (h : k' ≠ k) : aup A k i a k' = A k' := by
  funext i'
  exact if_neg (fun x => h x.1)
theorem Hp.lt {w : xH} {A : xA} {U : Int → Int → Prop} {F : Int → Int → Nat → Option Value} (h : Hp w A U F) {k i : Int} (u : U k i) : A k i < x_sz w := by
  by_cases c : x_sz w ≤ A k i
  · have := h.2.2.2 _ c
    rw [h.1 k i u] at this
    cases this
  · omega
def fnw (F : Int → Int → Nat → Option Value) (k i : Int) (G : Nat → Value) : Int → Int → Nat → Option Value := fun k' i' f => if k' = k ∧ i' = i then some (G f) else F k' i' f
theorem fnw_e {F : Int → Int → Nat → Option Value} {k i : Int} {G : Nat → Value} {f : Nat} : fnw F k i G k i f = some (G f) := if_pos ⟨rfl, rfl⟩
theorem fnw_n {F : Int → Int → Nat → Option Value} {k i k' i' : Int} {G : Nat → Value} {f : Nat} (h : ¬ (k' = k ∧ i' = i)) : fnw F k i G k' i' f = F k' i' f := if_neg h
theorem Hp.new {w : xH} {A : xA} {U : Int → Int → Prop} {F : Int → Int → Nat → Option Value} (h : Hp w A U F) {k i : Int} (hu : ¬ U k i) {t n : Nat} (ht : tgK k i = (t, n)) (G : Nat → Value) : Hp (x_new w t n G) (aup A k i (x_sz w)) (fun k' i' => U k' i' ∨ (k' = k ∧ i' = i)) (fnw F k i G) := by
  obtain ⟨h1, h2, h3, h4⟩ := h
  have hlt : ∀ k' i', U k' i' → A k' i' < x_sz w := fun k' i' u => Hp.lt ⟨h1, h2, h3, h4⟩ u
  have ne : ∀ k' i', U k' i' → ¬ (k' = k ∧ i' = i) := fun k' i' u x => hu (x.1 ▸ x.2 ▸ u)
  refine ⟨fun k' i' u => ?_, fun k1 i1 k2 i2 u1 u2 e => ?_, fun k' i' f v u e => ?_, fun a ha => ?_⟩
  · by_cases c : k' = k ∧ i' = i
    · rw [c.1, c.2, aup_e, x_tg_new, if_pos rfl, ht]
    · have u' := u.resolve_right c
      rw [aup_n c, x_tg_new, if_neg (by have := hlt k' i' u'; omega)]
      exact h1 k' i' u'
  · by_cases c1 : k1 = k ∧ i1 = i
    · by_cases c2 : k2 = k ∧ i2 = i
      · exact ⟨by omega, by omega⟩
      · have u' := u2.resolve_right c2
        rw [c1.1, c1.2, aup_e, aup_n c2] at e
        have := hlt k2 i2 u'
        omega
    · have u1' := u1.resolve_right c1
      by_cases c2 : k2 = k ∧ i2 = i
      · rw [c2.1, c2.2, aup_e, aup_n c1] at e
        have := hlt k1 i1 u1'
        omega
      · rw [aup_n c1, aup_n c2] at e
        exact h2 k1 i1 k2 i2 u1' (u2.resolve_right c2) e
  · by_cases c : k' = k ∧ i' = i
    · rw [c.1, c.2, aup_e, x_fd_new, if_pos rfl]
      rw [c.1, c.2, fnw_e] at e
      exact Option.some.inj e
    · have u' := u.resolve_right c
      rw [aup_n c, x_fd_new, if_neg (by have := hlt k' i' u'; omega)]
      rw [fnw_n c] at e
      exact h3 k' i' f v u' e
  · rw [x_sz_new] at ha
    rw [x_tg_new, if_neg (by omega)]
    exact h4 a (by omega)
theorem Fr.new {w w' : xH} {m : Nat} (h : Fr w w' m) (hw : ∀ a, x_sz w' ≤ a → x_tg w' a = none) {t n : Nat} (hn : n ≤ 16) (G : Nat → Value) : Fr w (x_new w' t n G) (m + 1) := by
  obtain ⟨a1, a2, a3, a4, a5, a6⟩ := h
  have ne : ∀ a t' m', x_tg w a = some (t', m') → a ≠ x_sz w' := by
    intro a t' m' e c
    have := a1 a t' m' e
    rw [hw a (by omega)] at this
    cases this
  refine ⟨fun a t' m' e => ?_, fun a t' m' e c => ?_, ?_, ?_, ?_, fun a ha => ?_⟩
  · rw [x_tg_new, if_neg (ne a t' m' e)]
    exact a1 a t' m' e
  · funext j
    rw [x_fd_new, if_neg (ne a t' m' e), a2 a t' m' e c]
  · rw [x_sz_new]; omega
  · rw [x_sz_new]; omega
  · rw [x_sl_new]; omega
  · rw [x_tg_new, if_neg (by omega)]; exact a6 a ha
theorem Fr.le {w w' : xH} {m n : Nat} (h : Fr w w' m) (hm : m ≤ n) : Fr w w' n := h.trans (Fr.refl w') (by omega)
section KU
variable {P : xP} {w : xH} {Q : Option Value → xH → Prop} {A : xA} {S : xS} {ln : Nat → Int}
theorem k_capInit {a : Nat} {th : Nat} {r b p : Int} {pa : Nat} (ha : x_has w a [1]) (hQ : Q none (x_put (x_put (x_put (x_put w a 0 (.ref th)) a 1 (.int (xi r))) a 2 (.int (xi b))) a 3 (pv p pa))) : WP P 8 0 [some (.ref a), some (.ref th), some (.int (xi r)), some (.int (xi b)), some (pv p pa)] [] w Q := by
  have hR : RgS s_zero := RgS.zero
  have ga : ∀ (a : Int) (b : Nat) (k : Value → Prop), x_ga (some (some (pv a b))) k = k (pv a b) := by
    intro a b k
    unfold pv
    split <;> rfl
  simp (disch := first | exact hR _ _ | exact x01a | exact x01b | (unfold x_r; omega) | assumption | omega) only [wCap_init_0, x_gi_int, x_ga_ref, x_ga_null, List.getElem?_cons_zero, List.getElem?_cons_succ, List.length_cons, List.length_nil, List.set_cons_zero, List.set_cons_succ, Nat.reduceAdd, Nat.reduceLT, xr_lt, xr_eq, xr_toInt, xr_0, xi_add, xi_sub, xi_mul, xr_div, xr_rm, Int.toNat_natCast, bd_t, true_and, and_true, not_false_eq_true, ↓reduceIte, ilt_t, ilt_f, ile_t, x_c1i, x_c1r, x_c1n, and_self, Option.toList_some, Option.toList_none, List.cons_append, List.nil_append, xr_01, xr_00, ieq_f, ieq_t]
  rw [wCap_init_1 (by simp) rfl]
  simp (disch := first | exact hR _ _ | exact x01a | exact x01b | (unfold x_r; omega) | assumption | omega) only [wCap_init_4, wCap_init_5, wCap_init_6, wCap_init_9, wCap_init_10, wCap_init_11, wCap_init_14, wCap_init_15, wCap_init_16, wCap_init_19, wCap_init_20, wCap_init_22, wCap_init_25, x_has_put, x_f2r, x_f0, x_f2p, ga, ha, x_gi_int, x_ga_ref, x_ga_null, List.getElem?_cons_zero, List.getElem?_cons_succ, List.length_cons, List.length_nil, List.set_cons_zero, List.set_cons_succ, Nat.reduceAdd, Nat.reduceLT, xr_lt, xr_eq, xr_toInt, xr_0, xi_add, xi_sub, xi_mul, xr_div, xr_rm, Int.toNat_natCast, bd_t, true_and, and_true, not_false_eq_true, ↓reduceIte, ilt_t, ilt_f, ile_t, x_c1i, x_c1r, x_c1n, and_self, Option.toList_some, Option.toList_none, List.cons_append, List.nil_append, xr_01, xr_00, ieq_f, ieq_t]
  exact hQ
theorem k_put {a p m : Nat} (h0 : x_has w (A 12 0) [0]) (h1 : x_fd w (A 12 0) 0 = .ref (A 12 1)) (h2 : x_tg w (A 12 1) = some (31, 128)) (h3 : x_tg w a = some (1, m)) (hp : p < 128) (hQ : Q none (x_put (x_put w (A 12 1) p (.ref a)) a 4 (.int (xi p)))) : WP P 9 0 [some (.ref (A 12 0)), some (.ref a), some (.int (xi (p : Int)))] [] w Q := by
  have hR : RgS s_zero := RgS.zero
  have ec : (xi (p : Int)).toNatClampNeg = p := by rw [x_cle (by omega) (by omega), Int.toNat_natCast]
  have nn := x_nn (e := (p : Int)) (by omega) (by omega)
  have nc := x_clt (e := (p : Int)) (n := 128) (by omega) (by omega) (by omega)
  have ha : x_has w a [1] := ⟨_, _, h3, by decide⟩
  simp (disch := first | exact hR _ _ | exact x01a | exact x01b | (unfold x_r; omega) | assumption | omega) only [wK_put_0, wK_put_1, wK_put_4, wK_put_5, wK_put_6 h2 h3 (by omega) nn nc, wK_put_7, wK_put_8, wK_put_9, wK_put_12, x_has_put, x_f0, h0, h1, ha, ec, x_gi_int, x_ga_ref, x_ga_null, List.getElem?_cons_zero, List.getElem?_cons_succ, List.length_cons, List.length_nil, List.set_cons_zero, List.set_cons_succ, Nat.reduceAdd, Nat.reduceLT, xr_lt, xr_eq, xr_toInt, xr_0, xi_add, xi_sub, xi_mul, xr_div, xr_rm, Int.toNat_natCast, bd_t, true_and, and_true, not_false_eq_true, ↓reduceIte, ilt_t, ilt_f, ile_t, x_c1i, x_c1r, x_c1n, and_self, Option.toList_some, Option.toList_none, List.cons_append, List.nil_append, xr_01, xr_00, ieq_f, ieq_t]
  exact hQ
end KU
