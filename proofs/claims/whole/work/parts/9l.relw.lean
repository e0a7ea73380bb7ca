section RH2
variable {P : xP} {w : xH} {Q : Option Value → xH → Prop} {A : xA} {S : xS} {p : Nat}
set_option maxHeartbeats 16000000 in
theorem k_destroy (hW : InvW S) (hp : p < 128) (hk : 1 ≤ S 0 p) (hx : ¬ hd (s_rmA S (p : Int)) (S 0 p) (S 1 p)) (h : Hp w A (U1 S p) (rmO A S (lid S) p)) {l2 l3 l4 l5 l6 l7 : Option Value} (hQ : ∀ w', Rel w' A (s_destroy (s_rmA S (p : Int)) (S 0 p) (S 1 p)) (lid (s_destroy (s_rmA S (p : Int)) (S 0 p) (S 1 p))) → Fr w w' 0 → Q none w') : WP P 32 0 [some (.ref (A 12 0)), some (.ref (A (S 0 p) (S 1 p))), l2, l3, l4, l5, l6, l7] [] w Q := by
  have hR : RgS s_zero := RgS.zero
  have hA := hW.2.1
  have tA := hW.2.2.2.2.2.1
  have tB := hW.2.2.2.2.2.2.1
  have hB := hW.2.2.2.2.2.2.2.2.2.2.2
  have u0 := (hA p hp).1
  have hd0 : hd S (S 0 p) (S 1 p) := ⟨p, hp, rfl, rfl⟩
  have uT : U1 S p (S 0 p) (S 1 p) := u1_of (us_thi hk u0.2.1 hd0) (by omega) (by omega)
  have ro : ∀ j, j ≠ 0 → j ≠ 4 → j ≠ 9 → s_rmA S (p : Int) j = S j := fun j a b c => rmA_o a b c
  have e10 := ro 10 (by omega) (by omega) (by omega)
  have e19 := ro 19 (by omega) (by omega) (by omega)
  have e27 := ro 27 (by omega) (by omega) (by omega)
  have hR1 : RgS (s_rmA S (p : Int)) := hW.1.rmA (p : Int)
  have t0 : x_tg w (A 12 0) = some (0, 4) := h.tg (u1_of (us_ker (i := 0) (by omega)) (by omega) (by omega))
  have t2 : x_tg w (A 12 2) = some (32, 16) := h.tg (u1_of (us_ker (i := 2) (by omega)) (by omega) (by omega))
  have hkk : x_has w (A 12 0) [0] := ⟨_, _, t0, by decide⟩
  have f1 : x_fd w (A 12 0) 1 = .ref (A 12 2) := h.fd (u1_of (us_ker (i := 0) (by omega)) (by omega) (by omega)) (by rw [rmO_k (by omega)]; rfl)
  have tg := h.tg uT
  have hth : ∀ t : Nat, t < 16 → s_rmA S (p : Int) 10 t ≠ 0 → U1 S p 2 (8 * (t : Int)) := fun t ht g => by
    rw [e10] at g
    exact u1_of (us_thi (by omega) (by omega) ((tA t ht).2.1.1 g)) (by omega) (by omega)
  have hm : ∀ t, t < 16 → (lid S t = S 1 p + 4 ↔ (3 ≤ s_rmA S (p : Int) 10 t ∧ s_rmA S (p : Int) 19 t = S 1 p)) := fun t ht => by
    rw [e10, e19]
    exact lid_mem tB ht (by omega)
  rcases (by omega : S 0 p = 1 ∨ S 0 p = 2 ∨ S 0 p = 3 ∨ S 0 p = 4 ∨ S 0 p = 5 ∨ S 0 p = 6 ∨ S 0 p = 7) with c | c | c | c | c | c | c
  · rw [c] at tg uT hd0 hx hQ ⊢
    have g0 : x_tg w (A 1 (S 1 p)) = some (5, 2) := tg
    have g1 : 5 ∈ x_things := by decide
    rw [rmO_n (Or.inl (by omega))] at h
    simp (disch := first | exact hR _ _ | exact x01a | exact x01b | (unfold x_r; omega) | assumption | omega) only [wK_destroy_0, wK_destroy_1 g0 g1, wK_destroy_4, wK_destroy_7, wK_destroy_8 g0, wK_destroy_11, wK_destroy_11n, wK_destroy_12, wK_destroy_13, sset_at, Nat.reduceEqDiff, false_and, and_false, eq_self, and_self, reduceCtorEq, x_gi_int, x_ga_ref, x_ga_null, List.getElem?_cons_zero, List.getElem?_cons_succ, List.length_cons, List.length_nil, List.set_cons_zero, List.set_cons_succ, Nat.reduceAdd, Nat.reduceLT, xr_lt, xr_eq, xr_toInt, xr_0, xi_add, xi_sub, xi_mul, xr_div, xr_rm, Int.toNat_natCast, bd_t, true_and, and_true, not_false_eq_true, ↓reduceIte, ilt_t, ilt_f, ile_t, x_c1i, x_c1r, x_c1n, and_self, Option.toList_some, Option.toList_none, List.cons_append, List.nil_append, xr_01, xr_00, ieq_f, ieq_t]
    refine wK_destroy_14 t0 (by simp) rfl rfl (kd_table hW hp c h (fun w' h' fr => ?_))
    simp (disch := first | exact hR _ _ | exact x01a | exact x01b | (unfold x_r; omega) | assumption | omega) only [wK_destroy_17, wK_destroy_148, x_gi_int, x_ga_ref, x_ga_null, List.getElem?_cons_zero, List.getElem?_cons_succ, List.length_cons, List.length_nil, List.set_cons_zero, List.set_cons_succ, Nat.reduceAdd, Nat.reduceLT, xr_lt, xr_eq, xr_toInt, xr_0, xi_add, xi_sub, xi_mul, xr_div, xr_rm, Int.toNat_natCast, bd_t, true_and, and_true, not_false_eq_true, ↓reduceIte, ilt_t, ilt_f, ile_t, x_c1i, x_c1r, x_c1n, and_self, Option.toList_some, Option.toList_none, List.cons_append, List.nil_append, xr_01, xr_00, ieq_f, ieq_t]
    exact hQ w' h' fr
  · rw [c] at tg uT hd0 hx hQ ⊢
    have g0 : x_tg w (A 2 (S 1 p)) = some (2, 16) := tg
    have g1 : 2 ∈ x_things := by decide
    rw [rmO_n (Or.inl (by omega))] at h
    have a8 : S 1 p % 8 = 0 := (hd_al hA (by omega) hd0).1
    obtain ⟨t, ht0⟩ : ∃ t : Nat, S 1 p = 8 * (t : Int) := ⟨(S 1 p / 8).toNat, by omega⟩
    have ht1 : t < 16 := by omega
    rw [ht0] at g0 uT ⊢
    simp (disch := first | exact hR _ _ | exact x01a | exact x01b | (unfold x_r; omega) | assumption | omega) only [wK_destroy_0, wK_destroy_1 g0 g1, wK_destroy_4, wK_destroy_20, wK_destroy_21 g0 g1, wK_destroy_24, wK_destroy_27, wK_destroy_28 g0, wK_destroy_31, wK_destroy_31n, wK_destroy_32, sset_at, Nat.reduceEqDiff, false_and, and_false, eq_self, and_self, reduceCtorEq, x_gi_int, x_ga_ref, x_ga_null, List.getElem?_cons_zero, List.getElem?_cons_succ, List.length_cons, List.length_nil, List.set_cons_zero, List.set_cons_succ, Nat.reduceAdd, Nat.reduceLT, xr_lt, xr_eq, xr_toInt, xr_0, xi_add, xi_sub, xi_mul, xr_div, xr_rm, Int.toNat_natCast, bd_t, true_and, and_true, not_false_eq_true, ↓reduceIte, ilt_t, ilt_f, ile_t, x_c1i, x_c1r, x_c1n, and_self, Option.toList_some, Option.toList_none, List.cons_append, List.nil_append, xr_01, xr_00, ieq_f, ieq_t]
    refine wK_destroy_33 (by simp) rfl rfl (k_leaveLineU h (u1_2 hA) (u1_9 hA) (u1_ln hW) ht1 uT (fun w1 h1 fr1 ft1 => ?_))
    have q0 : x_tg w1 (A 12 0) = some (0, 4) := h1.tg (u1_of (us_ker (i := 0) (by omega)) (by omega) (by omega))
    have q2 : x_tg w1 (A 12 2) = some (32, 16) := h1.tg (u1_of (us_ker (i := 2) (by omega)) (by omega) (by omega))
    have qk : x_has w1 (A 12 0) [0] := ⟨_, _, q0, by decide⟩
    have q1 : x_fd w1 (A 12 0) 1 = .ref (A 12 2) := h1.fd (u1_of (us_ker (i := 0) (by omega)) (by omega) (by omega)) rfl
    obtain ⟨z0, z1, z2, -⟩ := h1.thr (t := (t : Int)) uT
    have hz : x_has w1 (A 2 (8 * (t : Int))) [2] := ⟨_, _, z0, by decide⟩
    have e8 : 8 * (t : Int) / 8 = (t : Int) := by omega
    have ec : (xi (t : Int)).toNatClampNeg = t := by rw [x_cle (by omega) (by omega), Int.toNat_natCast]
    have nn := x_nn (e := (t : Int)) (by omega) (by omega)
    have nc := x_clt (e := (t : Int)) (n := 16) (by omega) (by omega) (by omega)
    simp (disch := first | exact hR _ _ | exact x01a | exact x01b | (unfold x_r; omega) | assumption | omega) only [wK_destroy_36, wK_destroy_37, wK_destroy_40, wK_destroy_41, wK_destroy_44, wK_destroy_46, wK_destroy_47, wK_destroy_48n q2 (by omega) nn nc, wK_destroy_49, wK_destroy_148, qk, q1, hz, z2, e8, ec, x_gi_int, x_ga_ref, x_ga_null, List.getElem?_cons_zero, List.getElem?_cons_succ, List.length_cons, List.length_nil, List.set_cons_zero, List.set_cons_succ, Nat.reduceAdd, Nat.reduceLT, xr_lt, xr_eq, xr_toInt, xr_0, xi_add, xi_sub, xi_mul, xr_div, xr_rm, Int.toNat_natCast, bd_t, true_and, and_true, not_false_eq_true, ↓reduceIte, ilt_t, ilt_f, ile_t, x_c1i, x_c1r, x_c1n, and_self, Option.toList_some, Option.toList_none, List.cons_append, List.nil_append, xr_01, xr_00, ieq_f, ieq_t]
    have h2 := h1.put (u1_of (us_ker (i := 2) (by omega)) (by omega) (by omega)) t .null
    exact hQ _ (kd_thread hW hp c hx ht0 ht1 h2) (h1.frp fr1 (u1_of (us_ker (i := 2) (by omega)) (by omega) (by omega)) t _)
  · rw [c] at tg uT hd0 hx hQ ⊢
    have g0 : x_tg w (A 3 (S 1 p)) = some (6, 3) := tg
    have g1 : 6 ∈ x_things := by decide
    rw [rmO_n (Or.inl (by omega))] at h
    have ul : U1 S p 9 (S 1 p + 4) := u1_of (us_lin (Or.inr (Or.inl (by rw [show S 1 p + 4 - 4 = S 1 p by omega]; exact hd0)))) (by omega) (by omega)
    have bw : x_fd w (A 3 (S 1 p)) 2 = .ref (A 9 (S 1 p + 4)) := h.fd uT rfl
    have hb : x_has w (A 3 (S 1 p)) [6] := ⟨_, _, g0, by decide⟩
    simp (disch := first | exact hR _ _ | exact x01a | exact x01b | (unfold x_r; omega) | assumption | omega) only [wK_destroy_0, wK_destroy_1 g0 g1, wK_destroy_4, wK_destroy_20, wK_destroy_21 g0 g1, wK_destroy_24, wK_destroy_52, wK_destroy_53 g0 g1, wK_destroy_56, wK_destroy_59, wK_destroy_60 g0, wK_destroy_63, wK_destroy_63n, wK_destroy_65, wK_destroy_66, wK_destroy_68, hb, bw, sset_at, Nat.reduceEqDiff, false_and, and_false, eq_self, and_self, reduceCtorEq, x_gi_int, x_ga_ref, x_ga_null, List.getElem?_cons_zero, List.getElem?_cons_succ, List.length_cons, List.length_nil, List.set_cons_zero, List.set_cons_succ, Nat.reduceAdd, Nat.reduceLT, xr_lt, xr_eq, xr_toInt, xr_0, xi_add, xi_sub, xi_mul, xr_div, xr_rm, Int.toNat_natCast, bd_t, true_and, and_true, not_false_eq_true, ↓reduceIte, ilt_t, ilt_f, ile_t, x_c1i, x_c1r, x_c1n, and_self, Option.toList_some, Option.toList_none, List.cons_append, List.nil_append, xr_01, xr_00, ieq_f, ieq_t]
    refine wK_destroy_71 t0 (by simp) rfl rfl (k_stopAllAt h hR1 (by omega) (u1_of (us_ker (by omega)) (by omega) (by omega)) (u1_of (us_ker (by omega)) (by omega) (by omega)) ul (u1_2 hA) (u1_9 hA) hth (u1_ln hW) hm (fun w1 h1 fr1 => ?_))
    simp (disch := first | exact hR _ _ | exact x01a | exact x01b | (unfold x_r; omega) | assumption | omega) only [wK_destroy_74, wK_destroy_148, x_gi_int, x_ga_ref, x_ga_null, List.getElem?_cons_zero, List.getElem?_cons_succ, List.length_cons, List.length_nil, List.set_cons_zero, List.set_cons_succ, Nat.reduceAdd, Nat.reduceLT, xr_lt, xr_eq, xr_toInt, xr_0, xi_add, xi_sub, xi_mul, xr_div, xr_rm, Int.toNat_natCast, bd_t, true_and, and_true, not_false_eq_true, ↓reduceIte, ilt_t, ilt_f, ile_t, x_c1i, x_c1r, x_c1n, and_self, Option.toList_some, Option.toList_none, List.cons_append, List.nil_append, xr_01, xr_00, ieq_f, ieq_t]
    exact hQ w1 (kd_stop hW hp (Or.inl rfl) (by rw [if_neg (by omega)]; exact h1)) fr1
  · rw [c] at tg uT hd0 hx hQ ⊢
    have g0 : x_tg w (A 4 (S 1 p)) = some (7, 4) := tg
    have g1 : 7 ∈ x_things := by decide
    rw [rmO_n (Or.inl (by omega))] at h
    have ul : U1 S p 9 (S 1 p + 4) := u1_of (us_lin (Or.inr (Or.inr (by rw [show S 1 p + 4 - 4 = S 1 p by omega]; exact hd0)))) (by omega) (by omega)
    have bw : x_fd w (A 4 (S 1 p)) 2 = .ref (A 9 (S 1 p + 4)) := h.fd uT rfl
    have hb : x_has w (A 4 (S 1 p)) [7] := ⟨_, _, g0, by decide⟩
    simp (disch := first | exact hR _ _ | exact x01a | exact x01b | (unfold x_r; omega) | assumption | omega) only [wK_destroy_0, wK_destroy_1 g0 g1, wK_destroy_4, wK_destroy_20, wK_destroy_21 g0 g1, wK_destroy_24, wK_destroy_52, wK_destroy_53 g0 g1, wK_destroy_56, wK_destroy_77, wK_destroy_78 g0 g1, wK_destroy_81, wK_destroy_84, wK_destroy_85 g0, wK_destroy_88, wK_destroy_88n, wK_destroy_90, wK_destroy_91, wK_destroy_93, hb, bw, sset_at, Nat.reduceEqDiff, false_and, and_false, eq_self, and_self, reduceCtorEq, x_gi_int, x_ga_ref, x_ga_null, List.getElem?_cons_zero, List.getElem?_cons_succ, List.length_cons, List.length_nil, List.set_cons_zero, List.set_cons_succ, Nat.reduceAdd, Nat.reduceLT, xr_lt, xr_eq, xr_toInt, xr_0, xi_add, xi_sub, xi_mul, xr_div, xr_rm, Int.toNat_natCast, bd_t, true_and, and_true, not_false_eq_true, ↓reduceIte, ilt_t, ilt_f, ile_t, x_c1i, x_c1r, x_c1n, and_self, Option.toList_some, Option.toList_none, List.cons_append, List.nil_append, xr_01, xr_00, ieq_f, ieq_t]
    refine wK_destroy_96 t0 (by simp) rfl rfl (k_stopAllAt h hR1 (by omega) (u1_of (us_ker (by omega)) (by omega) (by omega)) (u1_of (us_ker (by omega)) (by omega) (by omega)) ul (u1_2 hA) (u1_9 hA) hth (u1_ln hW) hm (fun w1 h1 fr1 => ?_))
    have q0 : x_tg w1 (A 12 0) = some (0, 4) := h1.tg (u1_of (us_ker (i := 0) (by omega)) (by omega) (by omega))
    simp (disch := first | exact hR _ _ | exact x01a | exact x01b | (unfold x_r; omega) | assumption | omega) only [wK_destroy_99, wK_destroy_100, x_gi_int, x_ga_ref, x_ga_null, List.getElem?_cons_zero, List.getElem?_cons_succ, List.length_cons, List.length_nil, List.set_cons_zero, List.set_cons_succ, Nat.reduceAdd, Nat.reduceLT, xr_lt, xr_eq, xr_toInt, xr_0, xi_add, xi_sub, xi_mul, xr_div, xr_rm, Int.toNat_natCast, bd_t, true_and, and_true, not_false_eq_true, ↓reduceIte, ilt_t, ilt_f, ile_t, x_c1i, x_c1r, x_c1n, and_self, Option.toList_some, Option.toList_none, List.cons_append, List.nil_append, xr_01, xr_00, ieq_f, ieq_t]
    refine wK_destroy_102 q0 (by simp) rfl rfl (k_unbindAll h1 (by omega) (u1_of (us_ker (by omega)) (by omega) (by omega)) (u1_of (us_ker (by omega)) (by omega) (by omega)) u1_12 u1_k uT (fun q hq => ?_) (fun w2 h2 fr2 => ?_))
    · rw [stS_o (by omega), e27]
      exact (hB.2 q hq).imp id (fun x => ⟨(hA.hd x).1, u1_of (us_thi (by omega) (by omega) x) (by omega) (by omega)⟩)
    · simp (disch := first | exact hR _ _ | exact x01a | exact x01b | (unfold x_r; omega) | assumption | omega) only [wK_destroy_105, wK_destroy_148, x_gi_int, x_ga_ref, x_ga_null, List.getElem?_cons_zero, List.getElem?_cons_succ, List.length_cons, List.length_nil, List.set_cons_zero, List.set_cons_succ, Nat.reduceAdd, Nat.reduceLT, xr_lt, xr_eq, xr_toInt, xr_0, xi_add, xi_sub, xi_mul, xr_div, xr_rm, Int.toNat_natCast, bd_t, true_and, and_true, not_false_eq_true, ↓reduceIte, ilt_t, ilt_f, ile_t, x_c1i, x_c1r, x_c1n, and_self, Option.toList_some, Option.toList_none, List.cons_append, List.nil_append, xr_01, xr_00, ieq_f, ieq_t]
      exact hQ w2 (kd_stop hW hp (Or.inr rfl) (by rw [if_pos rfl]; exact h2)) (fr1.trans fr2 (by omega))
  · rw [c] at tg uT hd0 hx hQ ⊢
    have g0 : x_tg w (A 5 (S 1 p)) = some (8, 3) := tg
    have g1 : 8 ∈ x_things := by decide
    rw [rmO_n (Or.inl (by omega))] at h
    simp (disch := first | exact hR _ _ | exact x01a | exact x01b | (unfold x_r; omega) | assumption | omega) only [wK_destroy_0, wK_destroy_1 g0 g1, wK_destroy_4, wK_destroy_20, wK_destroy_21 g0 g1, wK_destroy_24, wK_destroy_52, wK_destroy_53 g0 g1, wK_destroy_56, wK_destroy_77, wK_destroy_78 g0 g1, wK_destroy_81, wK_destroy_108, wK_destroy_109 g0 g1, wK_destroy_112, wK_destroy_115, wK_destroy_116 g0, wK_destroy_119, wK_destroy_119n, wK_destroy_121, wK_destroy_122, sset_at, Nat.reduceEqDiff, false_and, and_false, eq_self, and_self, reduceCtorEq, x_gi_int, x_ga_ref, x_ga_null, List.getElem?_cons_zero, List.getElem?_cons_succ, List.length_cons, List.length_nil, List.set_cons_zero, List.set_cons_succ, Nat.reduceAdd, Nat.reduceLT, xr_lt, xr_eq, xr_toInt, xr_0, xi_add, xi_sub, xi_mul, xr_div, xr_rm, Int.toNat_natCast, bd_t, true_and, and_true, not_false_eq_true, ↓reduceIte, ilt_t, ilt_f, ile_t, x_c1i, x_c1r, x_c1n, and_self, Option.toList_some, Option.toList_none, List.cons_append, List.nil_append, xr_01, xr_00, ieq_f, ieq_t]
    refine wK_destroy_124 t0 (by simp) rfl rfl (kd_space hW hp c h (fun w' h' fr => ?_))
    simp (disch := first | exact hR _ _ | exact x01a | exact x01b | (unfold x_r; omega) | assumption | omega) only [wK_destroy_127, wK_destroy_148, x_gi_int, x_ga_ref, x_ga_null, List.getElem?_cons_zero, List.getElem?_cons_succ, List.length_cons, List.length_nil, List.set_cons_zero, List.set_cons_succ, Nat.reduceAdd, Nat.reduceLT, xr_lt, xr_eq, xr_toInt, xr_0, xi_add, xi_sub, xi_mul, xr_div, xr_rm, Int.toNat_natCast, bd_t, true_and, and_true, not_false_eq_true, ↓reduceIte, ilt_t, ilt_f, ile_t, x_c1i, x_c1r, x_c1n, and_self, Option.toList_some, Option.toList_none, List.cons_append, List.nil_append, xr_01, xr_00, ieq_f, ieq_t]
    exact hQ w' h' fr
  · rw [c] at tg uT hd0 hx hQ ⊢
    have g0 : x_tg w (A 6 (S 1 p)) = some (9, 5) := tg
    have g1 : 9 ∈ x_things := by decide
    simp (disch := first | exact hR _ _ | exact x01a | exact x01b | (unfold x_r; omega) | assumption | omega) only [wK_destroy_0, wK_destroy_1 g0 g1, wK_destroy_4, wK_destroy_20, wK_destroy_21 g0 g1, wK_destroy_24, wK_destroy_52, wK_destroy_53 g0 g1, wK_destroy_56, wK_destroy_77, wK_destroy_78 g0 g1, wK_destroy_81, wK_destroy_108, wK_destroy_109 g0 g1, wK_destroy_112, wK_destroy_130, wK_destroy_131 g0 g1, wK_destroy_134, wK_destroy_137, wK_destroy_138 g0, wK_destroy_141, wK_destroy_141n, wK_destroy_143, sset_at, Nat.reduceEqDiff, false_and, and_false, eq_self, and_self, reduceCtorEq, x_gi_int, x_ga_ref, x_ga_null, List.getElem?_cons_zero, List.getElem?_cons_succ, List.length_cons, List.length_nil, List.set_cons_zero, List.set_cons_succ, Nat.reduceAdd, Nat.reduceLT, xr_lt, xr_eq, xr_toInt, xr_0, xi_add, xi_sub, xi_mul, xr_div, xr_rm, Int.toNat_natCast, bd_t, true_and, and_true, not_false_eq_true, ↓reduceIte, ilt_t, ilt_f, ile_t, x_c1i, x_c1r, x_c1n, and_self, Option.toList_some, Option.toList_none, List.cons_append, List.nil_append, xr_01, xr_00, ieq_f, ieq_t]
    refine wK_destroy_145 (by simp) rfl rfl (kd_leaf hW hp c hx h (fun w' h' fr => ?_))
    simp (disch := first | exact hR _ _ | exact x01a | exact x01b | (unfold x_r; omega) | assumption | omega) only [wK_destroy_148, x_gi_int, x_ga_ref, x_ga_null, List.getElem?_cons_zero, List.getElem?_cons_succ, List.length_cons, List.length_nil, List.set_cons_zero, List.set_cons_succ, Nat.reduceAdd, Nat.reduceLT, xr_lt, xr_eq, xr_toInt, xr_0, xi_add, xi_sub, xi_mul, xr_div, xr_rm, Int.toNat_natCast, bd_t, true_and, and_true, not_false_eq_true, ↓reduceIte, ilt_t, ilt_f, ile_t, x_c1i, x_c1r, x_c1n, and_self, Option.toList_some, Option.toList_none, List.cons_append, List.nil_append, xr_01, xr_00, ieq_f, ieq_t]
    exact hQ w' h' fr
  · rw [c] at tg uT hd0 hx hQ ⊢
    have g0 : x_tg w (A 7 (S 1 p)) = some (10, 2) := tg
    have g1 : 10 ∈ x_things := by decide
    rw [rmO_n (Or.inl (by omega))] at h
    simp (disch := first | exact hR _ _ | exact x01a | exact x01b | (unfold x_r; omega) | assumption | omega) only [wK_destroy_0, wK_destroy_1 g0 g1, wK_destroy_4, wK_destroy_20, wK_destroy_21 g0 g1, wK_destroy_24, wK_destroy_52, wK_destroy_53 g0 g1, wK_destroy_56, wK_destroy_77, wK_destroy_78 g0 g1, wK_destroy_81, wK_destroy_108, wK_destroy_109 g0 g1, wK_destroy_112, wK_destroy_130, wK_destroy_131 g0 g1, wK_destroy_134, wK_destroy_148, sset_at, Nat.reduceEqDiff, false_and, and_false, eq_self, and_self, reduceCtorEq, x_gi_int, x_ga_ref, x_ga_null, List.getElem?_cons_zero, List.getElem?_cons_succ, List.length_cons, List.length_nil, List.set_cons_zero, List.set_cons_succ, Nat.reduceAdd, Nat.reduceLT, xr_lt, xr_eq, xr_toInt, xr_0, xi_add, xi_sub, xi_mul, xr_div, xr_rm, Int.toNat_natCast, bd_t, true_and, and_true, not_false_eq_true, ↓reduceIte, ilt_t, ilt_f, ile_t, x_c1i, x_c1r, x_c1n, and_self, Option.toList_some, Option.toList_none, List.cons_append, List.nil_append, xr_01, xr_00, ieq_f, ieq_t]
    exact hQ w (kd_frame hW hp (Or.inl rfl) h) (Fr.refl w)
set_option maxHeartbeats 16000000 in
theorem k_removeOne (hW : InvW S) (hp : p < 128) (hl : 0 ≤ S 0 p) (h : Rel w A S (lid S)) {l2 l3 : Option Value} (hQ : ∀ w', Rel w' A (s_remove S (p : Int)) (lid (s_remove S (p : Int))) → Fr w w' 0 → Q none w') : WP P 29 0 [some (.ref (A 12 0)), some (.ref (A 8 (p : Int))), l2, l3] [] w Q := by
  have hR : RgS s_zero := RgS.zero
  have hA := hW.2.1
  have hT := hW.2.2.1.1
  have mB := hW.2.2.2.2.2.2.2.2.2.2.1
  obtain ⟨⟨t0, t1, t2, t3, t4⟩, f0, f1, f2, f3⟩ := h.ker
  have hk : x_has w (A 12 0) [0] := ⟨_, _, t0, by decide⟩
  obtain ⟨ct, c0, c1, c2, c3, c4, -⟩ := h.cap (p := (p : Int)) (by omega) (by omega) (by rw [Int.toNat_natCast]; exact hl)
  have hc : x_has w (A 8 (p : Int)) [1] := ⟨_, _, ct, by decide⟩
  have ec : (xi (p : Int)).toNatClampNeg = p := by rw [x_cle (by omega) (by omega), Int.toNat_natCast]
  have nn := x_nn (e := (p : Int)) (by omega) (by omega)
  have nc := x_clt (e := (p : Int)) (n := 128) (by omega) (by omega) (by omega)
  have u121 : us S 12 1 := us_ker (by omega)
  have u120 : us S 12 0 := us_ker (by omega)
  have u8 : us S 8 (p : Int) := us_cap (by omega) (by omega) (by rw [Int.toNat_natCast]; exact hl)
  have u0 := (hA p hp).1
  simp (disch := first | exact hR _ _ | exact x01a | exact x01b | (unfold x_r; omega) | assumption | omega) only [wK_removeOne_0, wK_removeOne_1, wK_removeOne_4, wK_removeOne_5, wK_removeOne_8, wK_removeOne_9n t1 (by omega) nn nc, wK_removeOne_10, wK_removeOne_11, hk, hc, f0, c4, ec, x_gi_int, x_ga_ref, x_ga_null, List.getElem?_cons_zero, List.getElem?_cons_succ, List.length_cons, List.length_nil, List.set_cons_zero, List.set_cons_succ, Nat.reduceAdd, Nat.reduceLT, xr_lt, xr_eq, xr_toInt, xr_0, xi_add, xi_sub, xi_mul, xr_div, xr_rm, Int.toNat_natCast, bd_t, true_and, and_true, not_false_eq_true, ↓reduceIte, ilt_t, ilt_f, ile_t, x_c1i, x_c1r, x_c1n, and_self, Option.toList_some, Option.toList_none, List.cons_append, List.nil_append, xr_01, xr_00, ieq_f, ieq_t]
  refine k_rm_loop (ln := lid S) hA hT hp hl (w0 := w) (fun w1 H1 fr1 l3' => ?_) 128 0 (by omega) _ l3 ?_ (h.frp (Fr.refl w) u121 p .null)
  · simp (disch := first | exact hR _ _ | exact x01a | exact x01b | (unfold x_r; omega) | assumption | omega) only [wK_removeOne_52, x_gi_int, x_ga_ref, x_ga_null, List.getElem?_cons_zero, List.getElem?_cons_succ, List.length_cons, List.length_nil, List.set_cons_zero, List.set_cons_succ, Nat.reduceAdd, Nat.reduceLT, xr_lt, xr_eq, xr_toInt, xr_0, xi_add, xi_sub, xi_mul, xr_div, xr_rm, Int.toNat_natCast, bd_t, true_and, and_true, not_false_eq_true, ↓reduceIte, ilt_t, ilt_f, ile_t, x_c1i, x_c1r, x_c1n, and_self, Option.toList_some, Option.toList_none, List.cons_append, List.nil_append, xr_01, xr_00, ieq_f, ieq_t]
    have mp := mB.1 p hp hl
    refine wK_removeOne_53 (by simp) rfl rfl (k_leaveLeafF H1 (lf := S 7 p) (e := S 8 p) u8 ?_ (fun c => ⟨?_, us_thi (by omega) (by omega) (mp.resolve_left (by omega)).2.1, by rw [rmG_o (by omega) (by omega)]; rfl, us_frs (mp.resolve_left (by omega)).2.1, (mp.resolve_left (by omega)).2.2.1, by have := (mp.resolve_left (by omega)).2.2.2; omega⟩) (fun w2 H2 fr2 => ?_))
    · rw [rmG_o (by omega) (by omega)]
      show some (pv (S 7 (p : Int).toNat) (A 6 (S 7 (p : Int).toNat))) = _
      rw [Int.toNat_natCast]
    · rw [rmG_o (by omega) (by omega)]
      show (if S 7 (p : Int).toNat < 0 then none else some (Value.int (xi (S 8 (p : Int).toNat)))) = _
      rw [Int.toNat_natCast, if_neg c]
    · have H2 : Hp w2 A (us S) (rmF A S (lid S) p) := by
        unfold rmF
        exact H2
      have HO := rm_conv hW hp hl H2
      have rF : ∀ k i f, ¬ (k = 11) → ¬ (k = 8 ∧ i = (p : Int) ∧ f = 5) → rmF A S (lid S) p k i f = rmG A S (lid S) p 128 k i f := by
        intro k i f a b
        unfold rmF
        by_cases c : S 7 p < 0
        · rw [if_pos c]
        · rw [if_neg c, fup_n b, fup_n (fun x => a x.1)]
      have q0 : x_tg w2 (A 12 0) = some (0, 4) := H2.tg u120
      have q1 : x_tg w2 (A 12 1) = some (31, 128) := H2.tg u121
      have qf : x_fd w2 (A 12 0) 0 = .ref (A 12 1) := H2.fd u120 (by rw [rF _ _ _ (by omega) (by omega), rmG_o (by omega) (by omega)]; rfl)
      have tc : x_has w2 (A 8 (p : Int)) [1] := ⟨_, _, H2.tg u8, by decide⟩
      have th : x_fd w2 (A 8 (p : Int)) 0 = .ref (thA A S (p : Int)) := H2.fd u8 (by rw [rF _ _ _ (by omega) (by omega), rmG_o (by omega) (by omega)]; rfl)
      have fr3 := fr1.trans (k := 0) fr2 (by omega)
      have slh : SlH w2 A (s_rmA S (p : Int)) := by
        refine ⟨q0, q1, qf, fun q hq => ⟨?_, fun g => ?_⟩⟩
        · rw [rmA_0]
          by_cases e : q = p
          · rw [if_pos e, pv_n (by omega)]
            refine H2.fd u121 ?_
            rw [rF _ _ _ (by omega) (by omega)]
            unfold rmG
            rw [if_pos ⟨rfl, rfl, e⟩]
          · rw [if_neg e]
            refine H2.fd u121 ?_
            rw [rF _ _ _ (by omega) (by omega), rmG_o (by omega) (by omega)]
            show (if q < 128 then some (pv (S 0 q) (A 8 (q : Int))) else none) = _
            rw [if_pos hq]
        · exact HO.tg (u1_8' q hq g)
      have thq : ∀ q : Nat, q < 128 → 0 ≤ s_rmA S (p : Int) 0 q → q ≠ p ∧ 0 ≤ S 0 q ∧ thA A (s_rmA S (p : Int)) (q : Int) = thA A S (q : Int) := by
        intro q hq g
        rw [rmA_0] at g
        have ne : q ≠ p := fun e => by rw [if_pos e] at g; omega
        rw [if_neg ne] at g
        refine ⟨ne, g, ?_⟩
        unfold thA
        rw [Int.toNat_natCast, rmA_0, if_neg ne, rmA_o (by omega) (by omega) (by omega)]
      simp (disch := first | exact hR _ _ | exact x01a | exact x01b | (unfold x_r; omega) | assumption | omega) only [wK_removeOne_56, wK_removeOne_57, wK_removeOne_58, tc, th, x_gi_int, x_ga_ref, x_ga_null, List.getElem?_cons_zero, List.getElem?_cons_succ, List.length_cons, List.length_nil, List.set_cons_zero, List.set_cons_succ, Nat.reduceAdd, Nat.reduceLT, xr_lt, xr_eq, xr_toInt, xr_0, xi_add, xi_sub, xi_mul, xr_div, xr_rm, Int.toNat_natCast, bd_t, true_and, and_true, not_false_eq_true, ↓reduceIte, ilt_t, ilt_f, ile_t, x_c1i, x_c1r, x_c1n, and_self, Option.toList_some, Option.toList_none, List.cons_append, List.nil_append, xr_01, xr_00, ieq_f, ieq_t]
      refine wK_removeOne_61 q0 (by simp) rfl rfl (k_cfor slh (fun q hq g => ?_) (fun q => if S 0 p = 0 then False else S 0 q = S 0 p ∧ S 1 q = S 1 p) (fun q hq g => ?_) ?_)
      · obtain ⟨ne, g1, e⟩ := thq q hq g
        rw [e]
        refine H2.fd (us_cap (p := (q : Int)) (by omega) (by omega) (by rw [Int.toNat_natCast]; exact g1)) ?_
        rw [rF _ _ _ (by omega) (by omega), rmG_o (by omega) (by omega)]; rfl
      · obtain ⟨ne, g1, e⟩ := thq q hq g
        have x := h.thq hA (p := (p : Int)) (q := (q : Int)) (by omega) (by omega) (by rw [Int.toNat_natCast]; exact hl) (by omega) (by omega) (by rw [Int.toNat_natCast]; exact g1)
        rw [Int.toNat_natCast, Int.toNat_natCast] at x
        rw [e, x]
        by_cases z : S 0 p = 0
        · rw [if_pos z, if_pos z]
          exact ⟨fun y => ne (by omega), fun y => y.elim⟩
        · rw [if_neg z, if_neg z]
      · -- how many are left
        have cnt : cntL (fun q => 0 ≤ s_rmA S (p : Int) 0 q ∧ if S 0 p = 0 then False else S 0 q = S 0 p ∧ S 1 q = S 1 p) 128 = if S 0 p = 0 then 0 else s_hold (s_rmA S (p : Int)) (S 0 p) (S 1 p) := by
          by_cases z : S 0 p = 0
          · rw [if_pos z]
            have : ∀ n, cntL (fun q => 0 ≤ s_rmA S (p : Int) 0 q ∧ if S 0 p = 0 then False else S 0 q = S 0 p ∧ S 1 q = S 1 p) n = 0 := by
              intro n
              induction n with
              | zero => rfl
              | succ n ih =>
                unfold cntL
                rw [ih, if_neg (fun x => by have := x.2; rw [if_pos z] at this; exact this)]
                rfl
            exact this 128
          · rw [if_neg z]
            unfold s_hold
            refine cntL_cg _ _ 128 (fun q hq => ?_)
            rw [if_neg z, rmA_0, rmA_o (j := 1) (by omega) (by omega) (by omega)]
            by_cases e : q = p
            · rw [if_pos e]; constructor <;> intro x <;> omega
            · rw [if_neg e]; constructor <;> intro x <;> omega
        rw [cnt]
        have hb := cntL_in (fun s => s_rmA S (p : Int) 0 s = S 0 p ∧ s_rmA S (p : Int) 1 s = S 1 p) 128
        have hb : 0 ≤ s_hold (s_rmA S (p : Int)) (S 0 p) (S 1 p) ∧ s_hold (s_rmA S (p : Int)) (S 0 p) (S 1 p) ≤ 128 := hb
        unfold s_remove at hQ
        rw [Int.toNat_natCast] at hQ
        by_cases z : S 0 p = 0
        · rw [if_pos z] at hQ ⊢
          -- untyped memory: nothing is destroyed
          have et : thA A S (p : Int) = A 0 (p : Int) := by
            unfold thA
            rw [Int.toNat_natCast, if_pos z]
          have g0 : x_tg w2 (A 0 (p : Int)) = some (4, 4) := H2.tg (us_unt (by omega) (by omega) (by rw [Int.toNat_natCast]; exact z))
          have g1 : 4 ∈ x_things := by decide
          rw [et] at th
          have fin := hQ w2 (by
            refine rm_fin hp ?_ rfl rfl
            rw [rm_lid, ← rmO_n (A := A) (Or.inl (by omega))]
            exact HO) fr3
          simp (disch := first | exact hR _ _ | exact x01a | exact x01b | (unfold x_r; omega) | assumption | omega) only [wK_removeOne_64, wK_removeOne_67, wK_removeOne_68, wK_removeOne_69, tc, th, x_gi_int, x_ga_ref, x_ga_null, List.getElem?_cons_zero, List.getElem?_cons_succ, List.length_cons, List.length_nil, List.set_cons_zero, List.set_cons_succ, Nat.reduceAdd, Nat.reduceLT, xr_lt, xr_eq, xr_toInt, xr_0, xi_add, xi_sub, xi_mul, xr_div, xr_rm, Int.toNat_natCast, bd_t, true_and, and_true, not_false_eq_true, ↓reduceIte, ilt_t, ilt_f, ile_t, x_c1i, x_c1r, x_c1n, and_self, Option.toList_some, Option.toList_none, List.cons_append, List.nil_append, xr_01, xr_00, ieq_f, ieq_t]
          refine wK_removeOne_72 q0 (by simp) rfl rfl ?_
          simp (disch := first | exact hR _ _ | exact x01a | exact x01b | (unfold x_r; omega) | assumption | omega) only [wK_destroy_0, wK_destroy_1 g0 g1, wK_destroy_4, wK_destroy_20, wK_destroy_21 g0 g1, wK_destroy_24, wK_destroy_52, wK_destroy_53 g0 g1, wK_destroy_56, wK_destroy_77, wK_destroy_78 g0 g1, wK_destroy_81, wK_destroy_108, wK_destroy_109 g0 g1, wK_destroy_112, wK_destroy_130, wK_destroy_131 g0 g1, wK_destroy_134, wK_destroy_148, wK_removeOne_75, sset_at, Nat.reduceEqDiff, false_and, and_false, eq_self, and_self, reduceCtorEq, x_gi_int, x_ga_ref, x_ga_null, List.getElem?_cons_zero, List.getElem?_cons_succ, List.length_cons, List.length_nil, List.set_cons_zero, List.set_cons_succ, Nat.reduceAdd, Nat.reduceLT, xr_lt, xr_eq, xr_toInt, xr_0, xi_add, xi_sub, xi_mul, xr_div, xr_rm, Int.toNat_natCast, bd_t, true_and, and_true, not_false_eq_true, ↓reduceIte, ilt_t, ilt_f, ile_t, x_c1i, x_c1r, x_c1n, and_self, Option.toList_some, Option.toList_none, List.cons_append, List.nil_append, xr_01, xr_00, ieq_f, ieq_t]
          exact fin
        · rw [if_neg z] at hQ ⊢
          have eh : s_holders (s_rmA S (p : Int)) (S 0 p) (S 1 p) = s_hold (s_rmA S (p : Int)) (S 0 p) (S 1 p) := if_neg z
          rw [eh] at hQ
          by_cases y : 0 < s_hold (s_rmA S (p : Int)) (S 0 p) (S 1 p)
          · rw [if_pos y] at hQ
            have ny : ¬ s_hold (s_rmA S (p : Int)) (S 0 p) (S 1 p) = 0 := by omega
            simp (disch := first | exact hR _ _ | exact x01a | exact x01b | (unfold x_r; omega) | assumption | omega) only [wK_removeOne_64, wK_removeOne_75, ny, x_gi_int, x_ga_ref, x_ga_null, List.getElem?_cons_zero, List.getElem?_cons_succ, List.length_cons, List.length_nil, List.set_cons_zero, List.set_cons_succ, Nat.reduceAdd, Nat.reduceLT, xr_lt, xr_eq, xr_toInt, xr_0, xi_add, xi_sub, xi_mul, xr_div, xr_rm, Int.toNat_natCast, bd_t, true_and, and_true, not_false_eq_true, ↓reduceIte, ilt_t, ilt_f, ile_t, x_c1i, x_c1r, x_c1n, and_self, Option.toList_some, Option.toList_none, List.cons_append, List.nil_append, xr_01, xr_00, ieq_f, ieq_t]
            refine hQ w2 (rm_fin hp ?_ rfl rfl) fr3
            rw [rm_lid, ← rmO_n (A := A) (S := S) (p := p)]
            · exact HO
            · by_cases e6 : S 0 p = 6
              · rw [e6] at ny
                exact Or.inr ny
              · exact Or.inl e6
          · rw [if_neg y] at hQ
            have ny : s_hold (s_rmA S (p : Int)) (S 0 p) (S 1 p) = 0 := by omega
            have et : thA A S (p : Int) = A (S 0 p) (S 1 p) := by
              unfold thA
              rw [Int.toNat_natCast, if_neg z]
            rw [et] at th
            simp (disch := first | exact hR _ _ | exact x01a | exact x01b | (unfold x_r; omega) | assumption | omega) only [wK_removeOne_64, wK_removeOne_67, wK_removeOne_68, wK_removeOne_69, tc, th, ny, x_gi_int, x_ga_ref, x_ga_null, List.getElem?_cons_zero, List.getElem?_cons_succ, List.length_cons, List.length_nil, List.set_cons_zero, List.set_cons_succ, Nat.reduceAdd, Nat.reduceLT, xr_lt, xr_eq, xr_toInt, xr_0, xi_add, xi_sub, xi_mul, xr_div, xr_rm, Int.toNat_natCast, bd_t, true_and, and_true, not_false_eq_true, ↓reduceIte, ilt_t, ilt_f, ile_t, x_c1i, x_c1r, x_c1n, and_self, Option.toList_some, Option.toList_none, List.cons_append, List.nil_append, xr_01, xr_00, ieq_f, ieq_t]
            refine wK_removeOne_72 q0 (by simp) rfl rfl (k_destroy hW hp (by omega) (hold_0.1 ny) HO (fun w3 h3 fr4 => ?_))
            simp (disch := first | exact hR _ _ | exact x01a | exact x01b | (unfold x_r; omega) | assumption | omega) only [wK_removeOne_75, x_gi_int, x_ga_ref, x_ga_null, List.getElem?_cons_zero, List.getElem?_cons_succ, List.length_cons, List.length_nil, List.set_cons_zero, List.set_cons_succ, Nat.reduceAdd, Nat.reduceLT, xr_lt, xr_eq, xr_toInt, xr_0, xi_add, xi_sub, xi_mul, xr_div, xr_rm, Int.toNat_natCast, bd_t, true_and, and_true, not_false_eq_true, ↓reduceIte, ilt_t, ilt_f, ile_t, x_c1i, x_c1r, x_c1n, and_self, Option.toList_some, Option.toList_none, List.cons_append, List.nil_append, xr_01, xr_00, ieq_f, ieq_t]
            exact hQ w3 h3 (fr3.trans fr4 (by omega))
  · refine (h.put u121 p .null).to (fun k i q => ⟨q, rfl⟩) (fun k i f v q z => ?_)
    unfold rmG at z
    by_cases c : k = 12 ∧ i = 1 ∧ f = p
    · rw [if_pos c] at z
      rw [c.1, c.2.1, c.2.2, fup_e]; exact z
    · rw [if_neg c, if_neg (fun x => by omega)] at z
      rw [fup_n c]; exact z
end RH2
