section KA
variable {P : xP} {w : xH} {Q : Option Value → xH → Prop} {A : xA} {S : xS} {ln : Nat → Int}
theorem k_ct_loop (h : Rel w A S (lid S)) (hI : Inv S) (hQ : Q (some (pv (s_now S) (A 2 (8 * s_now S)))) w) : ∀ n : Nat, n ≤ 4 → (∀ q' : Int, (n : Int) ≤ q' → q' < 4 → fstL S (lid S) q' < 0) → WP P 12 2 [some (.ref (A 12 0)), some (.int (xi ((n : Int) - 1)))] [] w Q := by
  obtain ⟨⟨t0, t1, t2, t3, t4⟩, f0, f1, f2, f3⟩ := h.ker
  obtain ⟨nl1, nl2⟩ := now_lin hI
  intro n
  induction n with
  | zero =>
    intro _ hn
    have e := nl2 (fun q q0 q1 => hn q (by omega) q1)
    rw [pv_n e] at hQ
    simp (disch := first | exact hR _ _ | exact x01a | exact x01b | (unfold x_r; omega) | assumption | omega) only [wK_currentThread_2, wK_currentThread_3, wK_currentThread_34, wK_currentThread_35n, wK_currentThread_35, x_gi_int, x_ga_ref, x_ga_null, List.getElem?_cons_zero, List.getElem?_cons_succ, List.length_cons, List.length_nil, List.set_cons_zero, List.set_cons_succ, Nat.reduceAdd, Nat.reduceLT, xr_lt, xr_eq, xr_toInt, xr_0, xi_add, xi_sub, xi_mul, xr_div, xr_rm, Int.toNat_natCast, bd_t, true_and, and_true, not_false_eq_true, ↓reduceIte, ilt_t, ilt_f, ile_t, x_c1i, x_c1r, x_c1n, and_self, Option.toList_some, Option.toList_none, List.cons_append, List.nil_append, xr_01, xr_00, ieq_f, ieq_t]
    exact hQ
  | succ n ih =>
    intro hn4 hn
    obtain ⟨l0, l1, l2⟩ := h.lin (us_lin (S := S) (l := (n : Int)) (Or.inl ⟨by omega, by omega⟩))
    have hk : x_has w (A 12 0) [0] := ⟨_, _, t0, by decide⟩
    have hl : x_has w (A 9 (n : Int)) [3] := ⟨_, _, l0, by decide⟩
    have r1 := h.rls (q := n) (by omega)
    have ec : (xi (n : Int)).toNatClampNeg = n := by rw [x_cle (by omega) (by omega), Int.toNat_natCast]
    have e1 : ((n + 1 : Nat) : Int) - 1 = (n : Int) := by omega
    have nn := x_nn (e := (n : Int)) (by omega) (by omega)
    have nc := x_clt (e := (n : Int)) (n := 4) (by omega) (by omega) (by omega)
    rw [e1, wK_currentThread_2]
    by_cases c : fstL S (lid S) n < 0
    · rw [pv_n c] at l1
      have i := ih (by omega) (fun q' g1 g2 => by
        by_cases d : q' = n
        · rw [d]; exact c
        · exact hn q' (by omega) g2)
      simp (disch := first | exact hR _ _ | exact x01a | exact x01b | (unfold x_r; omega) | assumption | omega) only [wK_currentThread_3, wK_currentThread_6, wK_currentThread_7, wK_currentThread_10, wK_currentThread_11 t3 (by omega) nn nc, wK_currentThread_12, wK_currentThread_15n, wK_currentThread_15, wK_currentThread_28, wK_currentThread_31, hk, hl, f2, ec, r1, l1, x_gi_int, x_ga_ref, x_ga_null, List.getElem?_cons_zero, List.getElem?_cons_succ, List.length_cons, List.length_nil, List.set_cons_zero, List.set_cons_succ, Nat.reduceAdd, Nat.reduceLT, xr_lt, xr_eq, xr_toInt, xr_0, xi_add, xi_sub, xi_mul, xr_div, xr_rm, Int.toNat_natCast, bd_t, true_and, and_true, not_false_eq_true, ↓reduceIte, ilt_t, ilt_f, ile_t, x_c1i, x_c1r, x_c1n, and_self, Option.toList_some, Option.toList_none, List.cons_append, List.nil_append, xr_01, xr_00, ieq_f, ieq_t]
      exact i
    · rw [pv_r c] at l1
      have e := nl1 n (by omega) (by omega) (by omega) (fun q' g1 g2 => hn q' (by omega) g2)
      rw [e, pv_r c] at hQ
      simp (disch := first | exact hR _ _ | exact x01a | exact x01b | (unfold x_r; omega) | assumption | omega) only [wK_currentThread_3, wK_currentThread_6, wK_currentThread_7, wK_currentThread_10, wK_currentThread_11 t3 (by omega) nn nc, wK_currentThread_12, wK_currentThread_15n, wK_currentThread_15, wK_currentThread_18, wK_currentThread_19, wK_currentThread_22, wK_currentThread_23 t3 (by omega) nn nc, wK_currentThread_24, wK_currentThread_27n, wK_currentThread_27, hk, hl, f2, ec, r1, l1, x_gi_int, x_ga_ref, x_ga_null, List.getElem?_cons_zero, List.getElem?_cons_succ, List.length_cons, List.length_nil, List.set_cons_zero, List.set_cons_succ, Nat.reduceAdd, Nat.reduceLT, xr_lt, xr_eq, xr_toInt, xr_0, xi_add, xi_sub, xi_mul, xr_div, xr_rm, Int.toNat_natCast, bd_t, true_and, and_true, not_false_eq_true, ↓reduceIte, ilt_t, ilt_f, ile_t, x_c1i, x_c1r, x_c1n, and_self, Option.toList_some, Option.toList_none, List.cons_append, List.nil_append, xr_01, xr_00, ieq_f, ieq_t]
      exact hQ
theorem k_currentThread (h : Rel w A S (lid S)) (hI : Inv S) (hQ : Q (some (pv (s_now S) (A 2 (8 * s_now S)))) w) : WP P 12 0 [some (.ref (A 12 0)), none] [] w Q := by
  simp (disch := first | exact hR _ _ | exact x01a | exact x01b | (unfold x_r; omega) | assumption | omega) only [wK_currentThread_0, wK_currentThread_1, x_gi_int, x_ga_ref, x_ga_null, List.getElem?_cons_zero, List.getElem?_cons_succ, List.length_cons, List.length_nil, List.set_cons_zero, List.set_cons_succ, Nat.reduceAdd, Nat.reduceLT, xr_lt, xr_eq, xr_toInt, xr_0, xi_add, xi_sub, xi_mul, xr_div, xr_rm, Int.toNat_natCast, bd_t, true_and, and_true, not_false_eq_true, ↓reduceIte, ilt_t, ilt_f, ile_t, x_c1i, x_c1r, x_c1n, and_self, Option.toList_some, Option.toList_none, List.cons_append, List.nil_append, xr_01, xr_00, ieq_f, ieq_t]
  exact k_ct_loop h hI hQ 4 (by omega) (fun q' g1 g2 => by omega)
end KA
