section TB
variable {P : xP} {w : xH} {Q : Option Value → xH → Prop} {A : xA} {S : xS} {ln : Nat → Int}
set_option maxHeartbeats 16000000 in
theorem k_makeThing {U : Int → Int → Prop} {F : Int → Int → Nat → Option Value} (h : Hp w A U F) {k u d z : Int} (hk : 0 ≤ k ∧ k ≤ 7) (hu0 : 0 ≤ u) (hu1 : u < 128) (h12 : U 12 0) (h122 : U 12 2) (f1 : F 12 0 1 = some (.ref (A 12 2))) (nt : ¬ U k (tK k u d)) (nx : 0 ≤ eK k → ¬ U (eK k) (eI k u)) {l4 : Option Value}
    (hQ : ∀ w', Hp w' (thN A k u d (x_sz w)) (thU U k u d) (thF F k u d z (x_sz w)) → Fr w w' 2 → Q (some (.ref (x_sz w))) w') : WP P 19 0 [some (.ref (A 12 0)), some (.int (xi k)), some (.int (xi u)), some (.int (xi z)), l4] [] w Q := by
  have hR : RgS s_zero := RgS.zero
  have hwf := h.2.2.2
  simp (disch := first | exact hR _ _ | exact x01a | exact x01b | (unfold x_r; omega) | assumption | omega) only [wK_makeThing_0, x_gi_int, x_ga_ref, x_ga_null, List.getElem?_cons_zero, List.getElem?_cons_succ, List.length_cons, List.length_nil, List.set_cons_zero, List.set_cons_succ, Nat.reduceAdd, Nat.reduceLT, xr_lt, xr_eq, xr_toInt, xr_0, xi_add, xi_sub, xi_mul, xr_div, xr_rm, Int.toNat_natCast, bd_t, true_and, and_true, not_false_eq_true, ↓reduceIte, ilt_t, ilt_f, ile_t, x_c1i, x_c1r, x_c1n, and_self, Option.toList_some, Option.toList_none, List.cons_append, List.nil_append, xr_01, xr_00, ieq_f, ieq_t]
  rcases (by omega : k = 0 ∨ k = 1 ∨ k = 2 ∨ k = 3 ∨ k = 4 ∨ k = 5 ∨ k = 6 ∨ k = 7) with rfl | rfl | rfl | rfl | rfl | rfl | rfl | rfl
  · rw [W_tsw (o := 43) (tgt := 44) rfl (by decide) (by decide) rfl]
    have H1 := h.new (k := 0) (i := d) nt (t := 4) (n := 4) rfl (x_df 4)
    have ud : (fun k' i' => U k' i' ∨ (k' = 0 ∧ i' = d)) 0 d := Or.inr ⟨rfl, rfl⟩
    have H2 := ((H1.put ud 0 (.int (xi 0))).put ud 1 (.int (xi u))).put ud 2 (.int (xi z))
    have fr := ((h.new (k := 0) (i := d) nt (t := 4) (n := 4) rfl (x_df 4)).put ud 0 (.int (xi 0))).put ud 1 (.int (xi u)) |>.frp (((h.new (k := 0) (i := d) nt (t := 4) (n := 4) rfl (x_df 4)).put ud 0 (.int (xi 0))).frp ((h.new (k := 0) (i := d) nt (t := 4) (n := 4) rfl (x_df 4)).frp ((Fr.refl w).new hwf (by omega) (x_df 4)) ud 0 (.int (xi 0))) ud 1 (.int (xi u))) ud 2 (.int (xi z))
    rw [aup_e] at H2 fr
    simp (disch := first | exact hR _ _ | exact x01a | exact x01b | (unfold x_r; omega) | assumption | omega) only [wK_makeThing_44, wK_makeThing_47, wK_makeThing_48, wK_makeThing_49, x_gi_int, x_ga_ref, x_ga_null, List.getElem?_cons_zero, List.getElem?_cons_succ, List.length_cons, List.length_nil, List.set_cons_zero, List.set_cons_succ, Nat.reduceAdd, Nat.reduceLT, xr_lt, xr_eq, xr_toInt, xr_0, xi_add, xi_sub, xi_mul, xr_div, xr_rm, Int.toNat_natCast, bd_t, true_and, and_true, not_false_eq_true, ↓reduceIte, ilt_t, ilt_f, ile_t, x_c1i, x_c1r, x_c1n, and_self, Option.toList_some, Option.toList_none, List.cons_append, List.nil_append, xr_01, xr_00, ieq_f, ieq_t]
    refine wK_makeThing_50 (by simp) rfl rfl (k_UntInit (has_new (by decide)) ?_)
    simp (disch := first | exact hR _ _ | exact x01a | exact x01b | (unfold x_r; omega) | assumption | omega) only [wK_makeThing_53n, wK_makeThing_53, x_gi_int, x_ga_ref, x_ga_null, List.getElem?_cons_zero, List.getElem?_cons_succ, List.length_cons, List.length_nil, List.set_cons_zero, List.set_cons_succ, Nat.reduceAdd, Nat.reduceLT, xr_lt, xr_eq, xr_toInt, xr_0, xi_add, xi_sub, xi_mul, xr_div, xr_rm, Int.toNat_natCast, bd_t, true_and, and_true, not_false_eq_true, ↓reduceIte, ilt_t, ilt_f, ile_t, x_c1i, x_c1r, x_c1n, and_self, Option.toList_some, Option.toList_none, List.cons_append, List.nil_append, xr_01, xr_00, ieq_f, ieq_t]
    refine hQ _ (H2.to (fun k' i' q => ⟨?_, rfl⟩) (fun k' i' f v q e => ?_)) (fr.le (by omega))
    · exact q.imp id (fun x => x.elim id (fun y => absurd y.1 (by decide)))
    · unfold thF at e
      by_cases c : k' = 0 ∧ i' = d
      · rw [c.1, c.2] at e ⊢
        have e : thV 0 u z (x_sz w) f = some v := by rw [← e]; exact (if_pos ⟨rfl, rfl⟩).symm
        unfold thV at e
        by_cases c2 : f = 2
        · rw [c2, fup_e]; rw [c2] at e; exact e
        by_cases c1 : f = 1
        · rw [c1, fup_n (by omega), fup_e]; rw [c1] at e; exact e
        by_cases c0 : f = 0
        · rw [c0, fup_n (by omega), fup_n (by omega), fup_e]; rw [c0] at e; exact e
        rw [fup_n (fun x => c2 x.2.2), fup_n (fun x => c1 x.2.2), fup_n (fun x => c0 x.2.2), fnw_e, ← e]
        simp [c0, c1, c2]; rfl
      · rw [fup_n (fun x => c ⟨x.1, x.2.1⟩), fup_n (fun x => c ⟨x.1, x.2.1⟩), fup_n (fun x => c ⟨x.1, x.2.1⟩), fnw_n c, ← e]
        have c' : ¬ (k' = 0 ∧ i' = tK 0 u d) := c
        rw [if_neg c', if_neg (fun x => absurd x.1 (by decide)), if_neg (fun x => absurd x.1 (by decide))]
  · rw [W_tsw (o := 53) (tgt := 54) rfl (by decide) (by decide) rfl]
    have H1 := h.new (k := 1) (i := u) nt (t := 5) (n := 2) rfl (x_df 5)
    have ud : (fun k' i' => U k' i' ∨ (k' = 1 ∧ i' = u)) 1 u := Or.inr ⟨rfl, rfl⟩
    have H2 := (H1.put ud 0 (.int (xi 1))).put ud 1 (.int (xi u))
    have fr := (H1.put ud 0 (.int (xi 1))).frp (H1.frp ((Fr.refl w).new hwf (by omega) (x_df 5)) ud 0 (.int (xi 1))) ud 1 (.int (xi u))
    rw [aup_e] at H2 fr
    simp (disch := first | exact hR _ _ | exact x01a | exact x01b | (unfold x_r; omega) | assumption | omega) only [wK_makeThing_54, wK_makeThing_57, wK_makeThing_58, x_gi_int, x_ga_ref, x_ga_null, List.getElem?_cons_zero, List.getElem?_cons_succ, List.length_cons, List.length_nil, List.set_cons_zero, List.set_cons_succ, Nat.reduceAdd, Nat.reduceLT, xr_lt, xr_eq, xr_toInt, xr_0, xi_add, xi_sub, xi_mul, xr_div, xr_rm, Int.toNat_natCast, bd_t, true_and, and_true, not_false_eq_true, ↓reduceIte, ilt_t, ilt_f, ile_t, x_c1i, x_c1r, x_c1n, and_self, Option.toList_some, Option.toList_none, List.cons_append, List.nil_append, xr_01, xr_00, ieq_f, ieq_t]
    refine wK_makeThing_59 (by simp) rfl rfl (k_TabInit (has_new (by decide)) ?_)
    simp (disch := first | exact hR _ _ | exact x01a | exact x01b | (unfold x_r; omega) | assumption | omega) only [wK_makeThing_62n, wK_makeThing_62, x_gi_int, x_ga_ref, x_ga_null, List.getElem?_cons_zero, List.getElem?_cons_succ, List.length_cons, List.length_nil, List.set_cons_zero, List.set_cons_succ, Nat.reduceAdd, Nat.reduceLT, xr_lt, xr_eq, xr_toInt, xr_0, xi_add, xi_sub, xi_mul, xr_div, xr_rm, Int.toNat_natCast, bd_t, true_and, and_true, not_false_eq_true, ↓reduceIte, ilt_t, ilt_f, ile_t, x_c1i, x_c1r, x_c1n, and_self, Option.toList_some, Option.toList_none, List.cons_append, List.nil_append, xr_01, xr_00, ieq_f, ieq_t]
    refine hQ _ (H2.to (fun k' i' q => ⟨?_, rfl⟩) (fun k' i' f v q e => ?_)) (fr.le (by omega))
    · exact q.imp id (fun x => x.elim id (fun y => absurd y.1 (by decide)))
    · unfold thF at e
      by_cases c : k' = 1 ∧ i' = u
      · rw [c.1, c.2] at e ⊢
        have e : thV 1 u z (x_sz w) f = some v := by rw [← e]; exact (if_pos ⟨rfl, rfl⟩).symm
        unfold thV at e
        by_cases c1 : f = 1
        · rw [c1, fup_e]; rw [c1] at e; exact e
        by_cases c0 : f = 0
        · rw [c0, fup_n (by omega), fup_e]; rw [c0] at e; exact e
        rw [fup_n (fun x => c1 x.2.2), fup_n (fun x => c0 x.2.2), fnw_e, ← e]
        simp [c0, c1]; rfl
      · rw [fup_n (fun x => c ⟨x.1, x.2.1⟩), fup_n (fun x => c ⟨x.1, x.2.1⟩), fnw_n c, ← e]
        have c' : ¬ (k' = 1 ∧ i' = tK 1 u d) := c
        rw [if_neg c', if_neg (fun x => absurd x.1 (by decide)), if_neg (fun x => absurd x.1 (by decide))]
  · rw [W_tsw (o := 62) (tgt := 63) rfl (by decide) (by decide) rfl]
    have H1 := h.new (k := 2) (i := u) nt (t := 2) (n := 16) rfl (x_df 2)
    have ud : (fun k' i' => U k' i' ∨ (k' = 2 ∧ i' = u)) 2 u := Or.inr ⟨rfl, rfl⟩
    have u2 : (fun k' i' => U k' i' ∨ (k' = 2 ∧ i' = u)) 12 2 := Or.inl h122
    have H2 := (((H1.put ud 0 (.int (xi 2))).put ud 1 (.int (xi u))).put ud 5 (.int (xi 1))).put u2 (u / 8).toNat (.ref (x_sz w))
    have fr := (((H1.put ud 0 (.int (xi 2))).put ud 1 (.int (xi u))).put ud 5 (.int (xi 1))).frp (((H1.put ud 0 (.int (xi 2))).put ud 1 (.int (xi u))).frp ((H1.put ud 0 (.int (xi 2))).frp (H1.frp ((Fr.refl w).new hwf (by omega) (x_df 2)) ud 0 (.int (xi 2))) ud 1 (.int (xi u))) ud 5 (.int (xi 1))) u2 (u / 8).toNat (.ref (x_sz w))
    have e12 : aup A 2 u (x_sz w) 12 2 = A 12 2 := aup_n (by omega)
    rw [aup_e, e12] at H2 fr
    simp (disch := first | exact hR _ _ | exact x01a | exact x01b | (unfold x_r; omega) | assumption | omega) only [wK_makeThing_63, wK_makeThing_66, wK_makeThing_67, x_gi_int, x_ga_ref, x_ga_null, List.getElem?_cons_zero, List.getElem?_cons_succ, List.length_cons, List.length_nil, List.set_cons_zero, List.set_cons_succ, Nat.reduceAdd, Nat.reduceLT, xr_lt, xr_eq, xr_toInt, xr_0, xi_add, xi_sub, xi_mul, xr_div, xr_rm, Int.toNat_natCast, bd_t, true_and, and_true, not_false_eq_true, ↓reduceIte, ilt_t, ilt_f, ile_t, x_c1i, x_c1r, x_c1n, and_self, Option.toList_some, Option.toList_none, List.cons_append, List.nil_append, xr_01, xr_00, ieq_f, ieq_t]
    refine wK_makeThing_68 (by simp) rfl rfl (k_ThrInit (has_new (by decide)) ?_)
    have l0 := h.lt h12
    have l2 := h.lt h122
    have q0 : x_has (x_put (x_put (x_put (x_new w 2 16 (x_df 2)) (x_sz w) 0 (.int (xi 2))) (x_sz w) 1 (.int (xi u))) (x_sz w) 5 (.int (xi 1))) (A 12 0) [0] := has_old (G := x_df 2) ⟨_, _, h.tg h12, by decide⟩ l0
    have q1 : x_fd (x_put (x_put (x_put (x_new w 2 16 (x_df 2)) (x_sz w) 0 (.int (xi 2))) (x_sz w) 1 (.int (xi u))) (x_sz w) 5 (.int (xi 1))) (A 12 0) 1 = .ref (A 12 2) := by
      rw [x_fd_put, if_neg (by omega), x_fd_put, if_neg (by omega), x_fd_put, if_neg (by omega), x_fd_new, if_neg (by omega)]
      exact h.fd h12 f1
    have q2 : x_tg (x_put (x_put (x_put (x_new w 2 16 (x_df 2)) (x_sz w) 0 (.int (xi 2))) (x_sz w) 1 (.int (xi u))) (x_sz w) 5 (.int (xi 1))) (A 12 2) = some (32, 16) := by
      rw [x_tg_put, x_tg_put, x_tg_put, x_tg_new, if_neg (by omega)]
      exact h.tg h122
    have q3 : x_tg (x_put (x_put (x_put (x_new w 2 16 (x_df 2)) (x_sz w) 0 (.int (xi 2))) (x_sz w) 1 (.int (xi u))) (x_sz w) 5 (.int (xi 1))) (x_sz w) = some (2, 16) := by
      rw [x_tg_put, x_tg_put, x_tg_put, x_tg_new, if_pos rfl]
    have ec := x_cle (e := u / 8) (by omega) (by omega)
    have nn := x_nn (e := u / 8) (by omega) (by omega)
    have nc := x_clt (e := u / 8) (n := 16) (by omega) (by omega) (by omega)
    simp (disch := first | exact hR _ _ | exact x01a | exact x01b | (unfold x_r; omega) | assumption | omega) only [wK_makeThing_71, wK_makeThing_71n, wK_makeThing_73, wK_makeThing_74, wK_makeThing_77, wK_makeThing_78, wK_makeThing_80, wK_makeThing_81, wK_makeThing_83 q2 q3 (by omega) nn nc, wK_makeThing_84, wK_makeThing_86n, wK_makeThing_86, q0, q1, ec, x_gi_int, x_ga_ref, x_ga_null, List.getElem?_cons_zero, List.getElem?_cons_succ, List.length_cons, List.length_nil, List.set_cons_zero, List.set_cons_succ, Nat.reduceAdd, Nat.reduceLT, xr_lt, xr_eq, xr_toInt, xr_0, xi_add, xi_sub, xi_mul, xr_div, xr_rm, Int.toNat_natCast, bd_t, true_and, and_true, not_false_eq_true, ↓reduceIte, ilt_t, ilt_f, ile_t, x_c1i, x_c1r, x_c1n, and_self, Option.toList_some, Option.toList_none, List.cons_append, List.nil_append, xr_01, xr_00, ieq_f, ieq_t]
    refine hQ _ (H2.to (fun k' i' q => ⟨?_, rfl⟩) (fun k' i' f v q e => ?_)) (fr.le (by omega))
    · exact q.imp id (fun x => x.elim id (fun y => absurd y.1 (by decide)))
    · unfold thF at e
      by_cases c : k' = 2 ∧ i' = u
      · rw [c.1, c.2] at e ⊢
        have e : thV 2 u z (x_sz w) f = some v := by rw [← e]; exact (if_pos ⟨rfl, rfl⟩).symm
        unfold thV at e
        rw [fup_n (by omega)]
        by_cases c5 : f = 5
        · rw [c5, fup_e]; rw [c5] at e; exact e
        by_cases c1 : f = 1
        · rw [c1, fup_n (by omega), fup_e]; rw [c1] at e; exact e
        by_cases c0 : f = 0
        · rw [c0, fup_n (by omega), fup_n (by omega), fup_e]; rw [c0] at e; exact e
        rw [fup_n (fun x => c5 x.2.2), fup_n (fun x => c1 x.2.2), fup_n (fun x => c0 x.2.2), fnw_e, ← e]
        simp [c0, c1, c5]; rfl
      · have c' : ¬ (k' = 2 ∧ i' = tK 2 u d) := c
        rw [if_neg c', if_neg (fun x => absurd x.1 (by decide))] at e
        by_cases c2 : k' = 12 ∧ i' = 2 ∧ f = (u / 8).toNat
        · rw [if_pos ⟨rfl, c2⟩] at e
          rw [c2.1, c2.2.1, c2.2.2, fup_e]; exact e
        · rw [if_neg (fun x => c2 x.2)] at e
          rw [fup_n c2, fup_n (fun x => c ⟨x.1, x.2.1⟩), fup_n (fun x => c ⟨x.1, x.2.1⟩), fup_n (fun x => c ⟨x.1, x.2.1⟩), fnw_n c]
          exact e
  · rw [W_tsw (o := 86) (tgt := 87) rfl (by decide) (by decide) rfl]
    have nx : ¬ U 9 (u + 4) := nx (by decide)
    have H1 := h.new (k := 3) (i := u) nt (t := 6) (n := 3) rfl (x_df 6)
    have ud : (fun k' i' => U k' i' ∨ (k' = 3 ∧ i' = u)) 3 u := Or.inr ⟨rfl, rfl⟩
    have nx2 : ¬ (fun k' i' => U k' i' ∨ (k' = 3 ∧ i' = u)) 9 (u + 4) := fun x => x.elim nx (fun y => absurd y.1 (by decide))
    have H2 := ((H1.put ud 0 (.int (xi 3))).put ud 1 (.int (xi u)))
    have H3 := H2.new (k := 9) (i := u + 4) nx2 (t := 3) (n := 2) rfl (x_df 3)
    have ud3 : (fun k' i' => (U k' i' ∨ (k' = 3 ∧ i' = u)) ∨ (k' = 9 ∧ i' = u + 4)) 3 u := Or.inl (Or.inr ⟨rfl, rfl⟩)
    have H4 := H3.put ud3 2 (.ref (x_sz w + 1))
    have fr1 := (H1.put ud 0 (.int (xi 3))).frp (H1.frp ((Fr.refl w).new hwf (by omega) (x_df 6)) ud 0 (.int (xi 3))) ud 1 (.int (xi u))
    have fr := H3.frp (fr1.new H2.2.2.2 (by omega) (x_df 3)) ud3 2 (.ref (x_sz w + 1))
    have ea : aup (aup A 3 u (x_sz w)) 9 (u + 4) (x_sz w + 1) 3 u = x_sz w := by rw [aup_n (by omega), aup_e]
    have es : x_sz (x_put (x_put (x_new w 6 3 (x_df 6)) (aup A 3 u (x_sz w) 3 u) 0 (.int (xi 3))) (aup A 3 u (x_sz w) 3 u) 1 (.int (xi u))) = x_sz w + 1 := rfl
    rw [es] at H4 fr
    rw [ea, aup_e] at H4 fr
    simp (disch := first | exact hR _ _ | exact x01a | exact x01b | (unfold x_r; omega) | assumption | omega) only [wK_makeThing_87, wK_makeThing_90, wK_makeThing_91, x_gi_int, x_ga_ref, x_ga_null, List.getElem?_cons_zero, List.getElem?_cons_succ, List.length_cons, List.length_nil, List.set_cons_zero, List.set_cons_succ, Nat.reduceAdd, Nat.reduceLT, xr_lt, xr_eq, xr_toInt, xr_0, xi_add, xi_sub, xi_mul, xr_div, xr_rm, Int.toNat_natCast, bd_t, true_and, and_true, not_false_eq_true, ↓reduceIte, ilt_t, ilt_f, ile_t, x_c1i, x_c1r, x_c1n, and_self, Option.toList_some, Option.toList_none, List.cons_append, List.nil_append, xr_01, xr_00, ieq_f, ieq_t]
    refine wK_makeThing_92 (by simp) rfl rfl (k_GatInit (has_new (by decide)) (by rw [x_sz_new]; omega) ?_)
    simp (disch := first | exact hR _ _ | exact x01a | exact x01b | (unfold x_r; omega) | assumption | omega) only [wK_makeThing_95n, wK_makeThing_95, x_gi_int, x_ga_ref, x_ga_null, List.getElem?_cons_zero, List.getElem?_cons_succ, List.length_cons, List.length_nil, List.set_cons_zero, List.set_cons_succ, Nat.reduceAdd, Nat.reduceLT, xr_lt, xr_eq, xr_toInt, xr_0, xi_add, xi_sub, xi_mul, xr_div, xr_rm, Int.toNat_natCast, bd_t, true_and, and_true, not_false_eq_true, ↓reduceIte, ilt_t, ilt_f, ile_t, x_c1i, x_c1r, x_c1n, and_self, Option.toList_some, Option.toList_none, List.cons_append, List.nil_append, xr_01, xr_00, ieq_f, ieq_t]
    refine hQ _ (H4.to (fun k' i' q => ⟨?_, rfl⟩) (fun k' i' f v q e => ?_)) (fr.le (by omega))
    · rcases q with q | q | q
      · exact Or.inl (Or.inl q)
      · exact Or.inl (Or.inr q)
      · exact Or.inr q.2
    · unfold thF at e
      by_cases c : k' = 3 ∧ i' = u
      · rw [c.1, c.2] at e ⊢
        have e : thV 3 u z (x_sz w) f = some v := by rw [← e]; exact (if_pos ⟨rfl, rfl⟩).symm
        unfold thV at e
        by_cases cf : f = 2
        · rw [cf, fup_e]; rw [cf] at e; exact e
        rw [fup_n (fun x => cf x.2.2), fnw_n (by omega)]
        by_cases c1 : f = 1
        · rw [c1, fup_e]; rw [c1] at e; exact e
        by_cases c0 : f = 0
        · rw [c0, fup_n (by omega), fup_e]; rw [c0] at e; exact e
        rw [fup_n (fun x => c1 x.2.2), fup_n (fun x => c0 x.2.2), fnw_e, ← e]
        simp [c0, c1, cf]; rfl
      · have c' : ¬ (k' = 3 ∧ i' = tK 3 u d) := c
        rw [if_neg c'] at e
        rw [fup_n (fun x => c ⟨x.1, x.2.1⟩)]
        by_cases c2 : k' = 9 ∧ i' = u + 4
        · have c2' : 0 ≤ eK 3 ∧ k' = eK 3 ∧ i' = eI 3 u := ⟨by decide, c2⟩
          rw [if_pos c2'] at e
          rw [c2.1, c2.2, fnw_e, ← e]; rfl
        · have c2' : ¬ (0 ≤ eK 3 ∧ k' = eK 3 ∧ i' = eI 3 u) := fun x => c2 x.2
          rw [if_neg c2', if_neg (fun x => absurd x.1 (by decide))] at e
          rw [fnw_n c2, fup_n (fun x => c ⟨x.1, x.2.1⟩), fup_n (fun x => c ⟨x.1, x.2.1⟩), fnw_n c]
          exact e
  · rw [W_tsw (o := 95) (tgt := 96) rfl (by decide) (by decide) rfl]
    have nx : ¬ U 9 (u + 4) := nx (by decide)
    have H1 := h.new (k := 4) (i := u) nt (t := 7) (n := 4) rfl (x_df 7)
    have ud : (fun k' i' => U k' i' ∨ (k' = 4 ∧ i' = u)) 4 u := Or.inr ⟨rfl, rfl⟩
    have nx2 : ¬ (fun k' i' => U k' i' ∨ (k' = 4 ∧ i' = u)) 9 (u + 4) := fun x => x.elim nx (fun y => absurd y.1 (by decide))
    have H2 := ((H1.put ud 0 (.int (xi 4))).put ud 1 (.int (xi u)))
    have H3 := H2.new (k := 9) (i := u + 4) nx2 (t := 3) (n := 2) rfl (x_df 3)
    have ud3 : (fun k' i' => (U k' i' ∨ (k' = 4 ∧ i' = u)) ∨ (k' = 9 ∧ i' = u + 4)) 4 u := Or.inl (Or.inr ⟨rfl, rfl⟩)
    have H4 := H3.put ud3 2 (.ref (x_sz w + 1))
    have fr1 := (H1.put ud 0 (.int (xi 4))).frp (H1.frp ((Fr.refl w).new hwf (by omega) (x_df 7)) ud 0 (.int (xi 4))) ud 1 (.int (xi u))
    have fr := H3.frp (fr1.new H2.2.2.2 (by omega) (x_df 3)) ud3 2 (.ref (x_sz w + 1))
    have ea : aup (aup A 4 u (x_sz w)) 9 (u + 4) (x_sz w + 1) 4 u = x_sz w := by rw [aup_n (by omega), aup_e]
    have es : x_sz (x_put (x_put (x_new w 7 4 (x_df 7)) (aup A 4 u (x_sz w) 4 u) 0 (.int (xi 4))) (aup A 4 u (x_sz w) 4 u) 1 (.int (xi u))) = x_sz w + 1 := rfl
    rw [es] at H4 fr
    rw [ea, aup_e] at H4 fr
    simp (disch := first | exact hR _ _ | exact x01a | exact x01b | (unfold x_r; omega) | assumption | omega) only [wK_makeThing_96, wK_makeThing_99, wK_makeThing_100, x_gi_int, x_ga_ref, x_ga_null, List.getElem?_cons_zero, List.getElem?_cons_succ, List.length_cons, List.length_nil, List.set_cons_zero, List.set_cons_succ, Nat.reduceAdd, Nat.reduceLT, xr_lt, xr_eq, xr_toInt, xr_0, xi_add, xi_sub, xi_mul, xr_div, xr_rm, Int.toNat_natCast, bd_t, true_and, and_true, not_false_eq_true, ↓reduceIte, ilt_t, ilt_f, ile_t, x_c1i, x_c1r, x_c1n, and_self, Option.toList_some, Option.toList_none, List.cons_append, List.nil_append, xr_01, xr_00, ieq_f, ieq_t]
    refine wK_makeThing_101 (by simp) rfl rfl (k_BelInit (has_new (by decide)) (by rw [x_sz_new]; omega) ?_)
    simp (disch := first | exact hR _ _ | exact x01a | exact x01b | (unfold x_r; omega) | assumption | omega) only [wK_makeThing_104n, wK_makeThing_104, x_gi_int, x_ga_ref, x_ga_null, List.getElem?_cons_zero, List.getElem?_cons_succ, List.length_cons, List.length_nil, List.set_cons_zero, List.set_cons_succ, Nat.reduceAdd, Nat.reduceLT, xr_lt, xr_eq, xr_toInt, xr_0, xi_add, xi_sub, xi_mul, xr_div, xr_rm, Int.toNat_natCast, bd_t, true_and, and_true, not_false_eq_true, ↓reduceIte, ilt_t, ilt_f, ile_t, x_c1i, x_c1r, x_c1n, and_self, Option.toList_some, Option.toList_none, List.cons_append, List.nil_append, xr_01, xr_00, ieq_f, ieq_t]
    refine hQ _ (H4.to (fun k' i' q => ⟨?_, rfl⟩) (fun k' i' f v q e => ?_)) (fr.le (by omega))
    · rcases q with q | q | q
      · exact Or.inl (Or.inl q)
      · exact Or.inl (Or.inr q)
      · exact Or.inr q.2
    · unfold thF at e
      by_cases c : k' = 4 ∧ i' = u
      · rw [c.1, c.2] at e ⊢
        have e : thV 4 u z (x_sz w) f = some v := by rw [← e]; exact (if_pos ⟨rfl, rfl⟩).symm
        unfold thV at e
        by_cases cf : f = 2
        · rw [cf, fup_e]; rw [cf] at e; exact e
        rw [fup_n (fun x => cf x.2.2), fnw_n (by omega)]
        by_cases c1 : f = 1
        · rw [c1, fup_e]; rw [c1] at e; exact e
        by_cases c0 : f = 0
        · rw [c0, fup_n (by omega), fup_e]; rw [c0] at e; exact e
        rw [fup_n (fun x => c1 x.2.2), fup_n (fun x => c0 x.2.2), fnw_e, ← e]
        simp [c0, c1, cf]; rfl
      · have c' : ¬ (k' = 4 ∧ i' = tK 4 u d) := c
        rw [if_neg c'] at e
        rw [fup_n (fun x => c ⟨x.1, x.2.1⟩)]
        by_cases c2 : k' = 9 ∧ i' = u + 4
        · have c2' : 0 ≤ eK 4 ∧ k' = eK 4 ∧ i' = eI 4 u := ⟨by decide, c2⟩
          rw [if_pos c2'] at e
          rw [c2.1, c2.2, fnw_e, ← e]; rfl
        · have c2' : ¬ (0 ≤ eK 4 ∧ k' = eK 4 ∧ i' = eI 4 u) := fun x => c2 x.2
          rw [if_neg c2', if_neg (fun x => absurd x.1 (by decide))] at e
          rw [fnw_n c2, fup_n (fun x => c ⟨x.1, x.2.1⟩), fup_n (fun x => c ⟨x.1, x.2.1⟩), fnw_n c]
          exact e
  · rw [W_tsw (o := 104) (tgt := 105) rfl (by decide) (by decide) rfl]
    have nx : ¬ U 10 (u) := nx (by decide)
    have H1 := h.new (k := 5) (i := u) nt (t := 8) (n := 3) rfl (x_df 8)
    have ud : (fun k' i' => U k' i' ∨ (k' = 5 ∧ i' = u)) 5 u := Or.inr ⟨rfl, rfl⟩
    have nx2 : ¬ (fun k' i' => U k' i' ∨ (k' = 5 ∧ i' = u)) 10 (u) := fun x => x.elim nx (fun y => absurd y.1 (by decide))
    have H2 := ((H1.put ud 0 (.int (xi 5))).put ud 1 (.int (xi u)))
    have H3 := H2.new (k := 10) (i := u) nx2 (t := 39) (n := 4) rfl (fun _ => .null)
    have ud3 : (fun k' i' => (U k' i' ∨ (k' = 5 ∧ i' = u)) ∨ (k' = 10 ∧ i' = u)) 5 u := Or.inl (Or.inr ⟨rfl, rfl⟩)
    have H4 := H3.put ud3 2 (.ref (x_sz w + 1))
    have fr1 := (H1.put ud 0 (.int (xi 5))).frp (H1.frp ((Fr.refl w).new hwf (by omega) (x_df 8)) ud 0 (.int (xi 5))) ud 1 (.int (xi u))
    have fr := H3.frp (fr1.new H2.2.2.2 (by omega) (fun _ => .null)) ud3 2 (.ref (x_sz w + 1))
    have ea : aup (aup A 5 u (x_sz w)) 10 (u) (x_sz w + 1) 5 u = x_sz w := by rw [aup_n (by omega), aup_e]
    have es : x_sz (x_put (x_put (x_new w 8 3 (x_df 8)) (aup A 5 u (x_sz w) 5 u) 0 (.int (xi 5))) (aup A 5 u (x_sz w) 5 u) 1 (.int (xi u))) = x_sz w + 1 := rfl
    rw [es] at H4 fr
    rw [ea, aup_e] at H4 fr
    simp (disch := first | exact hR _ _ | exact x01a | exact x01b | (unfold x_r; omega) | assumption | omega) only [wK_makeThing_105, wK_makeThing_108, wK_makeThing_109, x_gi_int, x_ga_ref, x_ga_null, List.getElem?_cons_zero, List.getElem?_cons_succ, List.length_cons, List.length_nil, List.set_cons_zero, List.set_cons_succ, Nat.reduceAdd, Nat.reduceLT, xr_lt, xr_eq, xr_toInt, xr_0, xi_add, xi_sub, xi_mul, xr_div, xr_rm, Int.toNat_natCast, bd_t, true_and, and_true, not_false_eq_true, ↓reduceIte, ilt_t, ilt_f, ile_t, x_c1i, x_c1r, x_c1n, and_self, Option.toList_some, Option.toList_none, List.cons_append, List.nil_append, xr_01, xr_00, ieq_f, ieq_t]
    refine wK_makeThing_110 (by simp) rfl rfl (k_SpaInit (has_new (by decide)) (by rw [x_sz_new]; omega) ?_)
    simp (disch := first | exact hR _ _ | exact x01a | exact x01b | (unfold x_r; omega) | assumption | omega) only [wK_makeThing_113n, wK_makeThing_113, x_gi_int, x_ga_ref, x_ga_null, List.getElem?_cons_zero, List.getElem?_cons_succ, List.length_cons, List.length_nil, List.set_cons_zero, List.set_cons_succ, Nat.reduceAdd, Nat.reduceLT, xr_lt, xr_eq, xr_toInt, xr_0, xi_add, xi_sub, xi_mul, xr_div, xr_rm, Int.toNat_natCast, bd_t, true_and, and_true, not_false_eq_true, ↓reduceIte, ilt_t, ilt_f, ile_t, x_c1i, x_c1r, x_c1n, and_self, Option.toList_some, Option.toList_none, List.cons_append, List.nil_append, xr_01, xr_00, ieq_f, ieq_t]
    refine hQ _ (H4.to (fun k' i' q => ⟨?_, rfl⟩) (fun k' i' f v q e => ?_)) (fr.le (by omega))
    · rcases q with q | q | q
      · exact Or.inl (Or.inl q)
      · exact Or.inl (Or.inr q)
      · exact Or.inr q.2
    · unfold thF at e
      by_cases c : k' = 5 ∧ i' = u
      · rw [c.1, c.2] at e ⊢
        have e : thV 5 u z (x_sz w) f = some v := by rw [← e]; exact (if_pos ⟨rfl, rfl⟩).symm
        unfold thV at e
        by_cases cf : f = 2
        · rw [cf, fup_e]; rw [cf] at e; exact e
        rw [fup_n (fun x => cf x.2.2), fnw_n (by omega)]
        by_cases c1 : f = 1
        · rw [c1, fup_e]; rw [c1] at e; exact e
        by_cases c0 : f = 0
        · rw [c0, fup_n (by omega), fup_e]; rw [c0] at e; exact e
        rw [fup_n (fun x => c1 x.2.2), fup_n (fun x => c0 x.2.2), fnw_e, ← e]
        simp [c0, c1, cf]; rfl
      · have c' : ¬ (k' = 5 ∧ i' = tK 5 u d) := c
        rw [if_neg c'] at e
        rw [fup_n (fun x => c ⟨x.1, x.2.1⟩)]
        by_cases c2 : k' = 10 ∧ i' = u
        · have c2' : 0 ≤ eK 5 ∧ k' = eK 5 ∧ i' = eI 5 u := ⟨by decide, c2⟩
          rw [if_pos c2'] at e
          rw [c2.1, c2.2, fnw_e, ← e]; rfl
        · have c2' : ¬ (0 ≤ eK 5 ∧ k' = eK 5 ∧ i' = eI 5 u) := fun x => c2 x.2
          rw [if_neg c2', if_neg (fun x => absurd x.1 (by decide))] at e
          rw [fnw_n c2, fup_n (fun x => c ⟨x.1, x.2.1⟩), fup_n (fun x => c ⟨x.1, x.2.1⟩), fnw_n c]
          exact e
  · rw [W_tsw (o := 113) (tgt := 114) rfl (by decide) (by decide) rfl]
    have nx : ¬ U 11 (u) := nx (by decide)
    have H1 := h.new (k := 6) (i := u) nt (t := 9) (n := 5) rfl (x_df 9)
    have ud : (fun k' i' => U k' i' ∨ (k' = 6 ∧ i' = u)) 6 u := Or.inr ⟨rfl, rfl⟩
    have nx2 : ¬ (fun k' i' => U k' i' ∨ (k' = 6 ∧ i' = u)) 11 (u) := fun x => x.elim nx (fun y => absurd y.1 (by decide))
    have H2 := ((H1.put ud 0 (.int (xi 6))).put ud 1 (.int (xi u)))
    have H3 := H2.new (k := 11) (i := u) nx2 (t := 31) (n := 4) rfl (fun _ => .null)
    have ud3 : (fun k' i' => (U k' i' ∨ (k' = 6 ∧ i' = u)) ∨ (k' = 11 ∧ i' = u)) 6 u := Or.inl (Or.inr ⟨rfl, rfl⟩)
    have H4 := H3.put ud3 4 (.ref (x_sz w + 1))
    have fr1 := (H1.put ud 0 (.int (xi 6))).frp (H1.frp ((Fr.refl w).new hwf (by omega) (x_df 9)) ud 0 (.int (xi 6))) ud 1 (.int (xi u))
    have fr := H3.frp (fr1.new H2.2.2.2 (by omega) (fun _ => .null)) ud3 4 (.ref (x_sz w + 1))
    have ea : aup (aup A 6 u (x_sz w)) 11 (u) (x_sz w + 1) 6 u = x_sz w := by rw [aup_n (by omega), aup_e]
    have es : x_sz (x_put (x_put (x_new w 9 5 (x_df 9)) (aup A 6 u (x_sz w) 6 u) 0 (.int (xi 6))) (aup A 6 u (x_sz w) 6 u) 1 (.int (xi u))) = x_sz w + 1 := rfl
    rw [es] at H4 fr
    rw [ea, aup_e] at H4 fr
    simp (disch := first | exact hR _ _ | exact x01a | exact x01b | (unfold x_r; omega) | assumption | omega) only [wK_makeThing_114, wK_makeThing_117, wK_makeThing_118, x_gi_int, x_ga_ref, x_ga_null, List.getElem?_cons_zero, List.getElem?_cons_succ, List.length_cons, List.length_nil, List.set_cons_zero, List.set_cons_succ, Nat.reduceAdd, Nat.reduceLT, xr_lt, xr_eq, xr_toInt, xr_0, xi_add, xi_sub, xi_mul, xr_div, xr_rm, Int.toNat_natCast, bd_t, true_and, and_true, not_false_eq_true, ↓reduceIte, ilt_t, ilt_f, ile_t, x_c1i, x_c1r, x_c1n, and_self, Option.toList_some, Option.toList_none, List.cons_append, List.nil_append, xr_01, xr_00, ieq_f, ieq_t]
    refine wK_makeThing_119 (by simp) rfl rfl (k_LeaInit (has_new (by decide)) (by rw [x_sz_new]; omega) ?_)
    simp (disch := first | exact hR _ _ | exact x01a | exact x01b | (unfold x_r; omega) | assumption | omega) only [wK_makeThing_122n, wK_makeThing_122, x_gi_int, x_ga_ref, x_ga_null, List.getElem?_cons_zero, List.getElem?_cons_succ, List.length_cons, List.length_nil, List.set_cons_zero, List.set_cons_succ, Nat.reduceAdd, Nat.reduceLT, xr_lt, xr_eq, xr_toInt, xr_0, xi_add, xi_sub, xi_mul, xr_div, xr_rm, Int.toNat_natCast, bd_t, true_and, and_true, not_false_eq_true, ↓reduceIte, ilt_t, ilt_f, ile_t, x_c1i, x_c1r, x_c1n, and_self, Option.toList_some, Option.toList_none, List.cons_append, List.nil_append, xr_01, xr_00, ieq_f, ieq_t]
    refine hQ _ (H4.to (fun k' i' q => ⟨?_, rfl⟩) (fun k' i' f v q e => ?_)) (fr.le (by omega))
    · rcases q with q | q | q
      · exact Or.inl (Or.inl q)
      · exact Or.inl (Or.inr q)
      · exact Or.inr q.2
    · unfold thF at e
      by_cases c : k' = 6 ∧ i' = u
      · rw [c.1, c.2] at e ⊢
        have e : thV 6 u z (x_sz w) f = some v := by rw [← e]; exact (if_pos ⟨rfl, rfl⟩).symm
        unfold thV at e
        by_cases cf : f = 4
        · rw [cf, fup_e]; rw [cf] at e; exact e
        rw [fup_n (fun x => cf x.2.2), fnw_n (by omega)]
        by_cases c1 : f = 1
        · rw [c1, fup_e]; rw [c1] at e; exact e
        by_cases c0 : f = 0
        · rw [c0, fup_n (by omega), fup_e]; rw [c0] at e; exact e
        rw [fup_n (fun x => c1 x.2.2), fup_n (fun x => c0 x.2.2), fnw_e, ← e]
        simp [c0, c1, cf]; rfl
      · have c' : ¬ (k' = 6 ∧ i' = tK 6 u d) := c
        rw [if_neg c'] at e
        rw [fup_n (fun x => c ⟨x.1, x.2.1⟩)]
        by_cases c2 : k' = 11 ∧ i' = u
        · have c2' : 0 ≤ eK 6 ∧ k' = eK 6 ∧ i' = eI 6 u := ⟨by decide, c2⟩
          rw [if_pos c2'] at e
          rw [c2.1, c2.2, fnw_e, ← e]; rfl
        · have c2' : ¬ (0 ≤ eK 6 ∧ k' = eK 6 ∧ i' = eI 6 u) := fun x => c2 x.2
          rw [if_neg c2', if_neg (fun x => absurd x.1 (by decide))] at e
          rw [fnw_n c2, fup_n (fun x => c ⟨x.1, x.2.1⟩), fup_n (fun x => c ⟨x.1, x.2.1⟩), fnw_n c]
          exact e
  · rw [W_tsd (tgt := 123) rfl (by decide) rfl]
    have H1 := h.new (k := 7) (i := u) nt (t := 10) (n := 2) rfl (x_df 10)
    have ud : (fun k' i' => U k' i' ∨ (k' = 7 ∧ i' = u)) 7 u := Or.inr ⟨rfl, rfl⟩
    have H2 := (H1.put ud 0 (.int (xi 7))).put ud 1 (.int (xi u))
    have fr := (H1.put ud 0 (.int (xi 7))).frp (H1.frp ((Fr.refl w).new hwf (by omega) (x_df 10)) ud 0 (.int (xi 7))) ud 1 (.int (xi u))
    rw [aup_e] at H2 fr
    simp (disch := first | exact hR _ _ | exact x01a | exact x01b | (unfold x_r; omega) | assumption | omega) only [wK_makeThing_123, wK_makeThing_126, wK_makeThing_127, x_gi_int, x_ga_ref, x_ga_null, List.getElem?_cons_zero, List.getElem?_cons_succ, List.length_cons, List.length_nil, List.set_cons_zero, List.set_cons_succ, Nat.reduceAdd, Nat.reduceLT, xr_lt, xr_eq, xr_toInt, xr_0, xi_add, xi_sub, xi_mul, xr_div, xr_rm, Int.toNat_natCast, bd_t, true_and, and_true, not_false_eq_true, ↓reduceIte, ilt_t, ilt_f, ile_t, x_c1i, x_c1r, x_c1n, and_self, Option.toList_some, Option.toList_none, List.cons_append, List.nil_append, xr_01, xr_00, ieq_f, ieq_t]
    refine wK_makeThing_128 (by simp) rfl rfl (k_FraInit (has_new (by decide)) ?_)
    simp (disch := first | exact hR _ _ | exact x01a | exact x01b | (unfold x_r; omega) | assumption | omega) only [wK_makeThing_131n, wK_makeThing_131, x_gi_int, x_ga_ref, x_ga_null, List.getElem?_cons_zero, List.getElem?_cons_succ, List.length_cons, List.length_nil, List.set_cons_zero, List.set_cons_succ, Nat.reduceAdd, Nat.reduceLT, xr_lt, xr_eq, xr_toInt, xr_0, xi_add, xi_sub, xi_mul, xr_div, xr_rm, Int.toNat_natCast, bd_t, true_and, and_true, not_false_eq_true, ↓reduceIte, ilt_t, ilt_f, ile_t, x_c1i, x_c1r, x_c1n, and_self, Option.toList_some, Option.toList_none, List.cons_append, List.nil_append, xr_01, xr_00, ieq_f, ieq_t]
    refine hQ _ (H2.to (fun k' i' q => ⟨?_, rfl⟩) (fun k' i' f v q e => ?_)) (fr.le (by omega))
    · exact q.imp id (fun x => x.elim id (fun y => absurd y.1 (by decide)))
    · unfold thF at e
      by_cases c : k' = 7 ∧ i' = u
      · rw [c.1, c.2] at e ⊢
        have e : thV 7 u z (x_sz w) f = some v := by rw [← e]; exact (if_pos ⟨rfl, rfl⟩).symm
        unfold thV at e
        by_cases c1 : f = 1
        · rw [c1, fup_e]; rw [c1] at e; exact e
        by_cases c0 : f = 0
        · rw [c0, fup_n (by omega), fup_e]; rw [c0] at e; exact e
        rw [fup_n (fun x => c1 x.2.2), fup_n (fun x => c0 x.2.2), fnw_e, ← e]
        simp [c0, c1]; rfl
      · rw [fup_n (fun x => c ⟨x.1, x.2.1⟩), fup_n (fun x => c ⟨x.1, x.2.1⟩), fnw_n c, ← e]
        have c' : ¬ (k' = 7 ∧ i' = tK 7 u d) := c
        rw [if_neg c', if_neg (fun x => absurd x.1 (by decide)), if_neg (fun x => absurd x.1 (by decide))]
end TB
