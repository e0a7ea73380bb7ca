section KZ
variable {P : xP} {w : xH} {Q : Option Value → xH → Prop} {A : xA} {S : xS} {ln : Nat → Int}
set_option maxHeartbeats 8000000 in
theorem k_move (h : Rel w A S (lid S)) (hI : Inv S) {src dest : Int} (hs : x_r src) (hde : x_r dest) {l3 l4 l5 : Option Value} (hQ : ∀ w' A', A' 12 0 = A 12 0 → Rel w' A' (s_move S src dest).2 (lid (s_move S src dest).2) → Fr w w' 4 → Q (some (.int (xi (s_move S src dest).1))) w') : WP P 26 0 [some (.ref (A 12 0)), some (.int (xi src)), some (.int (xi dest)), l3, l4, l5] [] w Q := by
  obtain ⟨⟨t0, t1, t2, t3, t4⟩, f0, f1, f2, f3⟩ := h.ker
  have hk : x_has w (A 12 0) [0] := ⟨_, _, t0, by decide⟩
  have hR := hI.1.1
  have hA := hI.1.2.1
  have hn := s_now_in S
  have fr0 : Fr w w 4 := (Fr.refl w).le (by omega)
  have hIT := hI.moveC src dest
  unfold s_move at hQ hIT
  simp (disch := first | exact hR _ _ | exact x01a | exact x01b | (unfold x_r; omega) | assumption | omega) only [wK_move_0, x_gi_int, x_ga_ref, x_ga_null, List.getElem?_cons_zero, List.getElem?_cons_succ, List.length_cons, List.length_nil, List.set_cons_zero, List.set_cons_succ, Nat.reduceAdd, Nat.reduceLT, xr_lt, xr_eq, xr_toInt, xr_0, xi_add, xi_sub, xi_mul, xr_div, xr_rm, Int.toNat_natCast, bd_t, true_and, and_true, not_false_eq_true, ↓reduceIte, ilt_t, ilt_f, ile_t, x_c1i, x_c1r, x_c1n, and_self, Option.toList_some, Option.toList_none, List.cons_append, List.nil_append, xr_01, xr_00, ieq_f, ieq_t]
  refine wK_move_1 t0 (by simp) rfl rfl (k_currentThread h hI ?_)
  by_cases c1 : s_now S < 0
  · rw [if_pos c1] at hQ
    rw [pv_n c1]
    simp (disch := first | exact hR _ _ | exact x01a | exact x01b | (unfold x_r; omega) | assumption | omega) only [wK_move_4, wK_move_4n, wK_move_5, wK_move_6n, wK_move_6, wK_move_9, wK_move_11, x_gi_int, x_ga_ref, x_ga_null, List.getElem?_cons_zero, List.getElem?_cons_succ, List.length_cons, List.length_nil, List.set_cons_zero, List.set_cons_succ, Nat.reduceAdd, Nat.reduceLT, xr_lt, xr_eq, xr_toInt, xr_0, xi_add, xi_sub, xi_mul, xr_div, xr_rm, Int.toNat_natCast, bd_t, true_and, and_true, not_false_eq_true, ↓reduceIte, ilt_t, ilt_f, ile_t, x_c1i, x_c1r, x_c1n, and_self, Option.toList_some, Option.toList_none, List.cons_append, List.nil_append, xr_01, xr_00, ieq_f, ieq_t]
    exact hQ w A rfl h fr0
  rw [if_neg c1] at hQ hIT
  rw [pv_r c1]
  obtain ⟨n1, n2⟩ := now_is c1
  simp (disch := first | exact hR _ _ | exact x01a | exact x01b | (unfold x_r; omega) | assumption | omega) only [wK_move_4, wK_move_4n, wK_move_5, wK_move_6n, wK_move_6, wK_move_12, wK_move_13, wK_move_14, x_gi_int, x_ga_ref, x_ga_null, List.getElem?_cons_zero, List.getElem?_cons_succ, List.length_cons, List.length_nil, List.set_cons_zero, List.set_cons_succ, Nat.reduceAdd, Nat.reduceLT, xr_lt, xr_eq, xr_toInt, xr_0, xi_add, xi_sub, xi_mul, xr_div, xr_rm, Int.toNat_natCast, bd_t, true_and, and_true, not_false_eq_true, ↓reduceIte, ilt_t, ilt_f, ile_t, x_c1i, x_c1r, x_c1n, and_self, Option.toList_some, Option.toList_none, List.cons_append, List.nil_append, xr_01, xr_00, ieq_f, ieq_t]
  refine wK_move_15 t0 (by simp) rfl rfl (k_capabilityAt h hI (by omega) (by omega) (by omega) hs ?_)
  rw [← having_hv]
  by_cases c2 : s_having S src (-1) < 0
  · rw [if_pos c2] at hQ
    rw [pv_n c2]
    simp (disch := first | exact hR _ _ | exact x01a | exact x01b | (unfold x_r; omega) | assumption | omega) only [wK_move_18, wK_move_18n, wK_move_20, wK_move_22n, wK_move_22, wK_move_25, wK_move_26, x_gi_int, x_ga_ref, x_ga_null, List.getElem?_cons_zero, List.getElem?_cons_succ, List.length_cons, List.length_nil, List.set_cons_zero, List.set_cons_succ, Nat.reduceAdd, Nat.reduceLT, xr_lt, xr_eq, xr_toInt, xr_0, xi_add, xi_sub, xi_mul, xr_div, xr_rm, Int.toNat_natCast, bd_t, true_and, and_true, not_false_eq_true, ↓reduceIte, ilt_t, ilt_f, ile_t, x_c1i, x_c1r, x_c1n, and_self, Option.toList_some, Option.toList_none, List.cons_append, List.nil_append, xr_01, xr_00, ieq_f, ieq_t]
    exact hQ w A rfl h fr0
  rw [if_neg c2] at hQ hIT
  rw [pv_r c2]
  have hh := s_having_in hI.gs.1 (by omega) src (-1)
  have hl := (hh.2.2 (by omega)).1
  simp (disch := first | exact hR _ _ | exact x01a | exact x01b | (unfold x_r; omega) | assumption | omega) only [wK_move_18, wK_move_18n, wK_move_20, wK_move_22n, wK_move_22, wK_move_27, wK_move_28, wK_move_29, x_gi_int, x_ga_ref, x_ga_null, List.getElem?_cons_zero, List.getElem?_cons_succ, List.length_cons, List.length_nil, List.set_cons_zero, List.set_cons_succ, Nat.reduceAdd, Nat.reduceLT, xr_lt, xr_eq, xr_toInt, xr_0, xi_add, xi_sub, xi_mul, xr_div, xr_rm, Int.toNat_natCast, bd_t, true_and, and_true, not_false_eq_true, ↓reduceIte, ilt_t, ilt_f, ile_t, x_c1i, x_c1r, x_c1n, and_self, Option.toList_some, Option.toList_none, List.cons_append, List.nil_append, xr_01, xr_00, ieq_f, ieq_t]
  refine wK_move_30 t0 (by simp) rfl rfl (k_placeOf h hI (by omega) (by omega) (by omega) hde ?_)
  have hfi := s_find_in hI.gs.1 (t := (s_now S).toNat) n1 dest
  simp (disch := first | exact hR _ _ | exact x01a | exact x01b | (unfold x_r; omega) | assumption | omega) only [wK_move_33, wK_move_35, wK_move_36, x_gi_int, x_ga_ref, x_ga_null, List.getElem?_cons_zero, List.getElem?_cons_succ, List.length_cons, List.length_nil, List.set_cons_zero, List.set_cons_succ, Nat.reduceAdd, Nat.reduceLT, xr_lt, xr_eq, xr_toInt, xr_0, xi_add, xi_sub, xi_mul, xr_div, xr_rm, Int.toNat_natCast, bd_t, true_and, and_true, not_false_eq_true, ↓reduceIte, ilt_t, ilt_f, ile_t, x_c1i, x_c1r, x_c1n, and_self, Option.toList_some, Option.toList_none, List.cons_append, List.nil_append, xr_01, xr_00, ieq_f, ieq_t]
  refine wK_move_38 t0 (by simp) rfl rfl (k_isEmptySlot h hfi.1 hfi.2 ?_)
  have ve := vacant_find (S := S) (a := dest)
  by_cases c8 : s_vacant S dest < 0
  · rw [if_pos c8] at hQ
    have b0 : (if s_find S (s_now S).toNat dest = -1 then (0 : Int) else if S 0 (s_find S (s_now S).toNat dest).toNat < 0 then 1 else 0) = 0 := by
      by_cases d1 : s_find S (s_now S).toNat dest = -1
      · rw [if_pos d1]
      · rw [if_neg d1]
        by_cases d2 : S 0 (s_find S (s_now S).toNat dest).toNat < 0
        · rw [if_neg (by omega), if_pos d2] at ve; omega
        · rw [if_neg d2]
    rw [b0]
    simp (disch := first | exact hR _ _ | exact x01a | exact x01b | (unfold x_r; omega) | assumption | omega) only [wK_move_41, wK_move_44, wK_move_45, x_gi_int, x_ga_ref, x_ga_null, List.getElem?_cons_zero, List.getElem?_cons_succ, List.length_cons, List.length_nil, List.set_cons_zero, List.set_cons_succ, Nat.reduceAdd, Nat.reduceLT, xr_lt, xr_eq, xr_toInt, xr_0, xi_add, xi_sub, xi_mul, xr_div, xr_rm, Int.toNat_natCast, bd_t, true_and, and_true, not_false_eq_true, ↓reduceIte, ilt_t, ilt_f, ile_t, x_c1i, x_c1r, x_c1n, and_self, Option.toList_some, Option.toList_none, List.cons_append, List.nil_append, xr_01, xr_00, ieq_f, ieq_t]
    exact hQ w A rfl h fr0
  rw [if_neg c8] at hQ hIT
  obtain ⟨v1, v2, v3⟩ := vacant_is hI c1 c8
  have fv : s_find S (s_now S).toNat dest = s_vacant S dest := by
    by_cases d1 : s_find S (s_now S).toNat dest < 0
    · rw [if_pos d1] at ve; omega
    · rw [if_neg d1] at ve
      by_cases d2 : S 0 (s_find S (s_now S).toNat dest).toNat < 0
      · rw [if_pos d2] at ve; exact ve.symm
      · rw [if_neg d2] at ve; omega
  rw [fv, if_neg (by omega), if_pos v2]
  dsimp only at hQ hIT
  generalize s_having S src (-1) = p at *
  generalize s_vacant S dest = pd at *
  obtain ⟨s, es⟩ : ∃ s : Nat, p = (s : Int) := ⟨p.toNat, by omega⟩
  obtain ⟨d, ed⟩ : ∃ d : Nat, pd = (d : Int) := ⟨pd.toNat, by omega⟩
  subst es ed
  rw [Int.toNat_natCast] at hl v2
  have hsd : s ≠ d := by intro c; rw [c] at hl; omega
  obtain ⟨ct, e0, e1, e2, e3, e4, -⟩ := h.cap (p := (s : Int)) (by omega) (by omega) (by rw [Int.toNat_natCast]; exact hl)
  have hc : x_has w (A 8 (s : Int)) [1] := ⟨_, _, ct, by decide⟩
  have ec : (xi (s : Int)).toNatClampNeg = s := by rw [x_cle (by omega) (by omega), Int.toNat_natCast]
  have nn := x_nn (e := (s : Int)) (by omega) (by omega)
  have nc := x_clt (e := (s : Int)) (n := 128) (by omega) (by omega) (by omega)
  have u12 : us S 12 1 := us_ker (by omega)
  have u120 : us S 12 0 := us_ker (by omega)
  have u8 : us S 8 (s : Int) := us_cap (by omega) (by omega) (by rw [Int.toNat_natCast]; exact hl)
  have ne : A 12 0 ≠ A 12 1 := fun x => by have := (h.inj u120 u12 x).2; omega
  simp (disch := first | exact hR _ _ | exact x01a | exact x01b | (unfold x_r; omega) | assumption | omega) only [wK_move_41, wK_move_46, wK_move_47, wK_move_50, wK_move_52, wK_move_55, wK_move_56n t1 (by omega) nn nc, wK_move_57, wK_move_58, wK_move_60, hk, hc, f0, e4, ec, x_gi_int, x_ga_ref, x_ga_null, List.getElem?_cons_zero, List.getElem?_cons_succ, List.length_cons, List.length_nil, List.set_cons_zero, List.set_cons_succ, Nat.reduceAdd, Nat.reduceLT, xr_lt, xr_eq, xr_toInt, xr_0, xi_add, xi_sub, xi_mul, xr_div, xr_rm, Int.toNat_natCast, bd_t, true_and, and_true, not_false_eq_true, ↓reduceIte, ilt_t, ilt_f, ile_t, x_c1i, x_c1r, x_c1n, and_self, Option.toList_some, Option.toList_none, List.cons_append, List.nil_append, xr_01, xr_00, ieq_f, ieq_t]
  have f0' : x_fd (x_put w (A 12 1) s .null) (A 12 0) 0 = .ref (A 12 1) := by
    rw [x_fd_put, if_neg (fun x => ne x.1)]; exact f0
  refine wK_move_62 t0 (by simp) rfl rfl (k_put (m := 8) hk f0' t1 ct (by omega) ?_)
  simp (disch := first | exact hR _ _ | exact x01a | exact x01b | (unfold x_r; omega) | assumption | omega) only [wK_move_65, wK_move_66, x_gi_int, x_ga_ref, x_ga_null, List.getElem?_cons_zero, List.getElem?_cons_succ, List.length_cons, List.length_nil, List.set_cons_zero, List.set_cons_succ, Nat.reduceAdd, Nat.reduceLT, xr_lt, xr_eq, xr_toInt, xr_0, xi_add, xi_sub, xi_mul, xr_div, xr_rm, Int.toNat_natCast, bd_t, true_and, and_true, not_false_eq_true, ↓reduceIte, ilt_t, ilt_f, ile_t, x_c1i, x_c1r, x_c1n, and_self, Option.toList_some, Option.toList_none, List.cons_append, List.nil_append, xr_01, xr_00, ieq_f, ieq_t]
  have hRT := hIT
  have T0 : ∀ T : xS, T = mapA (s_mv1 S (s : Int) (d : Int)) 4 128 (mv_par (s_mv1 S (s : Int) (d : Int)) (s : Int) (d : Int)) → Inv T → Rel (x_put (x_put (x_put w (A 12 1) s .null) (A 12 1) d (.ref (A 8 (s : Int)))) (A 8 (s : Int)) 4 (.int (xi (d : Int)))) (mvA A (s : Int) (d : Int)) T (lid T) := by
    intro T eT hT
    have o9 : ∀ j, 9 ≤ j → T j = S j := by
      intro j hj
      rw [eT, mapA_o (by omega), mv1_o hj]
    have lT : lid T = lid S := lid_o (o9 10 (by omega)) (o9 13 (by omega)) (o9 19 (by omega))
    rw [lT]
    refine h.movec hI hT (by omega) (by omega) hl v2 o9 (fun q hq => ?_) (fun j q j1 j2 j3 hq => ?_) (fun q hq => ?_)
    · rw [eT, mapA_o (by omega), mv1_0, Int.toNat_natCast, Int.toNat_natCast]
    · rw [eT, mapA_o j3]
      unfold mvB
      by_cases c : q = d
      · have := mv1_d (S := S) (s := (s : Int)) (d := (d : Int)) j1 j2
        rw [Int.toNat_natCast, Int.toNat_natCast] at this
        rw [if_pos c, c, this]
      · rw [if_neg c, mv1_i (by omega) (by rw [Int.toNat_natCast]; exact c)]
    · rw [eT, mapA_at, if_pos ⟨rfl, hq⟩]
      unfold mv_par
      have e : s_mv1 S (s : Int) (d : Int) 4 q = S 4 (if q = d then s else q) := by
        by_cases c : q = d
        · have := mv1_d (S := S) (s := (s : Int)) (d := (d : Int)) (j := 4) (by omega) (by omega)
          rw [Int.toNat_natCast, Int.toNat_natCast] at this
          rw [if_pos c, c, this]
        · rw [if_neg c, mv1_i (by omega) (by rw [Int.toNat_natCast]; exact c)]
      rw [e]
  refine hQ _ (mvA A (s : Int) (d : Int)) (by rw [mvA_o 12 (by omega) (by omega)]) (T0 _ rfl hIT) ?_
  exact (((h.put u12 s .null).put u12 d (.ref (A 8 (s : Int)))).frp ((h.put u12 s .null).frp (h.frp (Fr.refl w) u12 s _) u12 d _) u8 4 _).le (by omega)
end KZ
