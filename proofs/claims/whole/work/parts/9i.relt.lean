section DS
variable {S : xS} {k u : Int}
theorem ds_out {j i : Nat} (h : (j = 10 ∨ j = 11 ∨ j = 12) ∧ 16 ≤ i ∨ (j = 25 ∧ 32 ≤ i) ∨ (j = 27 ∧ 4 ≤ i) ∨ ((j = 9 ∨ j = 7) ∧ 128 ≤ i)) : s_destroy S k u j i = S j i := by
  unfold s_destroy s_rmE s_rmD s_rmC s_rmB
  simp only [mapA_at]
  rw [if_neg (by omega), if_neg (by omega), if_neg (by omega), if_neg (by omega), if_neg (by omega), if_neg (by omega), if_neg (by omega)]
theorem ds_n11 (h : k ≠ 1) : s_destroy S k u 11 = S 11 := by
  funext i
  by_cases c : i < 16
  · rw [ds_11 c]; unfold rm_tab; rw [if_neg (fun x => h x.1)]
  · exact ds_out (by omega)
theorem ds_n12 (h : k ≠ 5) : s_destroy S k u 12 = S 12 := by
  funext i
  by_cases c : i < 16
  · rw [ds_12 c]; unfold rm_spa; rw [if_neg (fun x => h x.1)]
  · exact ds_out (by omega)
theorem ds_n10 (h : k ≠ 2 ∧ k ≠ 3 ∧ k ≠ 4) : s_destroy S k u 10 = S 10 := by
  funext i
  by_cases c : i < 16
  · rw [ds_10 c]; unfold rm_sta; rw [if_neg (by omega), if_neg (by omega)]
  · exact ds_out (by omega)
theorem ds_n7 (h : k ≠ 6) : s_destroy S k u 7 = S 7 := by
  funext i
  by_cases c : i < 128
  · rw [ds_7 c]; unfold rm_inl; rw [if_neg (fun x => h x.1)]
  · exact ds_out (by omega)
theorem ds_n25 (h : k ≠ 5 ∧ k ≠ 6) : s_destroy S k u 25 = S 25 := by
  funext i
  by_cases c : i < 32
  · rw [ds_25 c]; unfold rm_les; rw [if_neg (by omega)]
  · exact ds_out (by omega)
theorem ds_n27 (h : k ≠ 4) : s_destroy S k u 27 = S 27 := by
  funext i
  by_cases c : i < 4
  · rw [ds_27 c]; unfold rm_lin; rw [if_neg (fun x => h x.1)]
  · exact ds_out (by omega)
theorem ds_n9 (h : k ≠ 1) (hd : ∀ i, i < 128 → S 9 i = 0 ∨ S 9 i = 1) : s_destroy S k u 9 = S 9 := by
  funext i
  by_cases c : i < 128
  · rw [ds_9 c]
    unfold rm_doo
    rcases hd i c with x | x
    · rw [if_neg (fun y => y.elim (fun z => z x) (fun z => h z.1)), x]
    · rw [if_pos (Or.inl (by omega)), x]
  · exact ds_out (by omega)
end DS
section RE
variable {P : xP} {w : xH} {Q : Option Value → xH → Prop} {A : xA} {S : xS} {p : Nat}
theorem u1_of {k i : Int} (h : us S k i) (h8 : k ≠ 8) (h0 : k ≠ 0) : U1 S p k i := ⟨h, fun x => h8 x.1, fun x => h0 x.1⟩
theorem u1_2 (hA : CapA S) : ∀ u, U1 S p 2 u → ∃ t : Nat, t < 16 ∧ u = 8 * (t : Int) := fun _ h => us_2 hA h.1
theorem u1_9 (hA : CapA S) : ∀ l, U1 S p 9 l → 0 ≤ l := fun _ h => us_9 hA h.1
theorem u1_12 : ∀ i, U1 S p 12 i → 0 ≤ i ∧ i ≤ 4 := fun _ h => us_12 h.1
theorem u1_k : ∀ k i, U1 S p k i → k ≤ 12 := fun _ _ h => (us_le h.1).2
theorem u1_8 : ∀ i, U1 S p 8 i → 0 ≤ i ∧ i < 128 ∧ 0 ≤ s_rmA S (p : Int) 0 i.toNat := by
  intro i h
  have lv : 0 ≤ i ∧ i < 128 ∧ 0 ≤ S 0 i.toNat := by have := h.1; unfold us at this; omega
  have np : i.toNat ≠ p := fun x => h.2.1 ⟨rfl, by omega⟩
  rw [rmA_0, if_neg np]
  exact lv
theorem u1_8' : ∀ q : Nat, q < 128 → 0 ≤ s_rmA S (p : Int) 0 q → U1 S p 8 (q : Int) := by
  intro q hq h
  rw [rmA_0] at h
  have np : q ≠ p := fun x => by rw [if_pos x] at h; omega
  rw [if_neg np] at h
  exact ⟨us_cap (by omega) (by omega) (by rw [Int.toNat_natCast]; exact h), fun x => np (by omega), by omega⟩
theorem u1_ln (hW : InvW S) : LnU (U1 S p) (s_rmA S (p : Int)) (lid S) := by
  have q := lnI_lid hW.2.1 hW.2.2.2.2.2.1 hW.2.2.2.2.2.2.1 hW.2.2.2.2.2.2.2.1
  refine ⟨q.1, fun t ht g => ⟨u1_of (q.2.1 t ht g).1 (by omega) (by omega), u1_of (q.2.1 t ht g).2 (by omega) (by omega)⟩, fun t t' ht ht' hne g g' => ?_⟩
  rw [rmA_o (by omega) (by omega) (by omega)]
  exact q.2.2 t t' ht ht' hne g g'
theorem rm_lid : lid (s_rmA S (p : Int)) = lid S := lid_o (rmA_o (by omega) (by omega) (by omega)) (rmA_o (by omega) (by omega) (by omega)) (rmA_o (by omega) (by omega) (by omega))
theorem rm_fin {T : xS} (hp : p < 128) (h : Hp w A (U1 S p) (xFv A T (lid T))) (e0 : T 0 = s_rmA S (p : Int) 0) (e1 : T 1 = s_rmA S (p : Int) 1) : Rel w A T (lid T) := by
  refine h.to (fun k i u => ⟨us_rm hp (by rw [← us_cg e0 e1]; exact u), rfl⟩) (fun k i f v u q => q)
theorem rmO_n (h6 : S 0 p ≠ 6 ∨ s_hold (s_rmA S (p : Int)) 6 (S 1 p) ≠ 0) : rmO A S (lid S) p = xFv A (s_rmA S (p : Int)) (lid S) := by
  funext k i f
  unfold rmO
  rw [if_neg (fun x => h6.elim (fun y => y x.1) (fun y => y x.2.2.2.2.2))]
theorem rm_9 (hW : InvW S) : ∀ i, i < 128 → s_rmA S (p : Int) 9 i = 0 ∨ s_rmA S (p : Int) 9 i = 1 := by
  intro i hi
  rw [rmA_9]
  split
  · exact Or.inl rfl
  · exact (hW.2.2.2.2.1 i hi).imp id (fun x => x.1)
set_option maxHeartbeats 8000000 in
theorem kd_table (hW : InvW S) (hp : p < 128) (hk : S 0 p = 1) (h : Hp w A (U1 S p) (xFv A (s_rmA S (p : Int)) (lid S))) {l2 l3 : Option Value} (hQ : ∀ w', Rel w' A (s_destroy (s_rmA S (p : Int)) 1 (S 1 p)) (lid (s_destroy (s_rmA S (p : Int)) 1 (S 1 p))) → Fr w w' 0 → Q none w') : WP P 33 0 [some (.ref (A 12 0)), some (.ref (A 1 (S 1 p))), l2, l3] [] w Q := by
  have hR : RgS s_zero := RgS.zero
  have hA := hW.2.1
  have tA := hW.2.2.2.2.2.1
  have tB := hW.2.2.2.2.2.2.1
  have tab := hA.tab hp hk
  have u0 := (hA p hp).1
  have h1 : hd S 1 (S 1 p) := ⟨p, hp, hk, rfl⟩
  have ro : ∀ j, j ≠ 0 → j ≠ 4 → j ≠ 9 → s_rmA S (p : Int) j = S j := fun j a b c => rmA_o a b c
  have e10 := ro 10 (by omega) (by omega) (by omega)
  have e11 := ro 11 (by omega) (by omega) (by omega)
  simp (disch := first | exact hR _ _ | exact x01a | exact x01b | (unfold x_r; omega) | assumption | omega) only [wK_destroyTable_0, wK_destroyTable_1, x_gi_int, x_ga_ref, x_ga_null, List.getElem?_cons_zero, List.getElem?_cons_succ, List.length_cons, List.length_nil, List.set_cons_zero, List.set_cons_succ, Nat.reduceAdd, Nat.reduceLT, xr_lt, xr_eq, xr_toInt, xr_0, xi_add, xi_sub, xi_mul, xr_div, xr_rm, Int.toNat_natCast, bd_t, true_and, and_true, not_false_eq_true, ↓reduceIte, ilt_t, ilt_f, ile_t, x_c1i, x_c1r, x_c1n, and_self, Option.toList_some, Option.toList_none, List.cons_append, List.nil_append, xr_01, xr_00, ieq_f, ieq_t]
  refine k_dt_loop1 (U := U1 S p) (X := s_rmA S (p : Int)) (ln := lid S) (u := S 1 p) ⟨by omega, tab.1⟩ (u1_of (us_ker (by omega)) (by omega) (by omega)) (u1_of (us_ker (by omega)) (by omega) (by omega)) (u1_of (us_thi (by omega) (by omega) h1) (by omega) (by omega)) u1_8 u1_8' (w0 := w) (fun w1 H1 fr1 l3' => ?_) 16 0 (by omega) w l3 ?_ (Fr.refl w)
  · simp (disch := first | exact hR _ _ | exact x01a | exact x01b | (unfold x_r; omega) | assumption | omega) only [wK_destroyTable_35, wK_destroyTable_36, x_gi_int, x_ga_ref, x_ga_null, List.getElem?_cons_zero, List.getElem?_cons_succ, List.length_cons, List.length_nil, List.set_cons_zero, List.set_cons_succ, Nat.reduceAdd, Nat.reduceLT, xr_lt, xr_eq, xr_toInt, xr_0, xi_add, xi_sub, xi_mul, xr_div, xr_rm, Int.toNat_natCast, bd_t, true_and, and_true, not_false_eq_true, ↓reduceIte, ilt_t, ilt_f, ile_t, x_c1i, x_c1r, x_c1n, and_self, Option.toList_some, Option.toList_none, List.cons_append, List.nil_append, xr_01, xr_00, ieq_f, ieq_t]
    refine k_destroyTable_thr (U := U1 S p) (X := s_rmA S (p : Int)) (ln := lid S) (F := tbG A (s_rmA S (p : Int)) (lid S) (S 1 p) 16) (u := S 1 p) (by omega) (u1_of (us_ker (by omega)) (by omega) (by omega)) (u1_of (us_ker (by omega)) (by omega) (by omega)) (u1_of (us_thi (by omega) (by omega) h1) (by omega) (by omega)) (fun t ht g => ?_) (fun t ht g => ?_) (u1_2 hA) (fun k i f c => if_neg (fun x => c x.1)) (fun t ht g => ?_) (w0 := w) (fun w2 H2 fr2 l3'' => ?_) 16 0 (by omega) w1 l3' ?_ fr1
    · rw [e10] at g
      exact u1_of (us_thi (by omega) (by omega) ((tA t ht).2.1.1 g)) (by omega) (by omega)
    · rw [e10]
      have g := g.1
      refine (tA t ht).2.1.2 ?_
      unfold us at g
      rcases g with z | z | z | z | z | z | z
      all_goals first | exact z.2.2 | omega
    · rw [e10] at g
      rw [e11]
      exact ((tB t ht g).2.1).imp id (fun x => ⟨(hA.hd x).1, u1_of (us_thi (by omega) (by omega) x) (by omega) (by omega)⟩)
    · simp (disch := first | exact hR _ _ | exact x01a | exact x01b | (unfold x_r; omega) | assumption | omega) only [wK_destroyTable_73, x_gi_int, x_ga_ref, x_ga_null, List.getElem?_cons_zero, List.getElem?_cons_succ, List.length_cons, List.length_nil, List.set_cons_zero, List.set_cons_succ, Nat.reduceAdd, Nat.reduceLT, xr_lt, xr_eq, xr_toInt, xr_0, xi_add, xi_sub, xi_mul, xr_div, xr_rm, Int.toNat_natCast, bd_t, true_and, and_true, not_false_eq_true, ↓reduceIte, ilt_t, ilt_f, ile_t, x_c1i, x_c1r, x_c1n, and_self, Option.toList_some, Option.toList_none, List.cons_append, List.nil_append, xr_01, xr_00, ieq_f, ieq_t]
      refine hQ w2 (rm_fin hp ?_ (ds_o (by omega) (by omega) (by omega) (by omega) (by omega) (by omega) (by omega)) (ds_o (by omega) (by omega) (by omega) (by omega) (by omega) (by omega) (by omega))) fr2
      have tj : ∀ j, j ≠ 9 → j ≠ 11 → s_destroy (s_rmA S (p : Int)) 1 (S 1 p) j = s_rmA S (p : Int) j := by
        intro j a b
        by_cases c10 : j = 10
        · rw [c10]; exact ds_n10 (by omega)
        by_cases c12 : j = 12
        · rw [c12]; exact ds_n12 (by omega)
        by_cases c7 : j = 7
        · rw [c7]; exact ds_n7 (by omega)
        by_cases c25 : j = 25
        · rw [c25]; exact ds_n25 (by omega)
        by_cases c27 : j = 27
        · rw [c27]; exact ds_n27 (by omega)
        exact ds_o b c12 c10 a c7 c25 c27
      have lT : lid (s_destroy (s_rmA S (p : Int)) 1 (S 1 p)) = lid S := (lid_o (tj 10 (by omega) (by omega)) (tj 13 (by omega) (by omega)) (tj 19 (by omega) (by omega))).trans rm_lid
      rw [lT]
      refine H2.to (fun k i q => ⟨q, rfl⟩) (fun k i f v q z => ?_)
      by_cases c8 : k = 8
      · rw [c8] at q z ⊢
        have lv := u1_8 i q
        unfold tbH tbG
        rw [if_neg (by omega)]
        have z : Fcap A (s_destroy (s_rmA S (p : Int)) 1 (S 1 p)) i f = some v := z
        by_cases c7 : f = 7
        · rw [c7] at z ⊢
          have z : some (Value.int (xi (s_destroy (s_rmA S (p : Int)) 1 (S 1 p) 9 i.toNat))) = some v := z
          rw [ds_9 (by omega)] at z
          unfold rm_doo at z
          by_cases y : S 1 p ≤ i ∧ i < S 1 p + 16
          · rw [if_pos (Or.inr ⟨rfl, by omega, lv.2.2⟩)] at z
            rw [if_pos ⟨rfl, rfl, y.1, y.2⟩]; exact z
          · rw [if_neg (fun x => y ⟨x.2.2.1, x.2.2.2⟩), ← z]
            show some (Value.int (xi (s_rmA S (p : Int) 9 i.toNat))) = _
            rcases rm_9 hW i.toNat (by omega) with r | r
            · rw [if_neg (fun x => x.elim (fun t => t r) (fun t => by omega)), r]
            · rw [if_pos (Or.inl (by omega)), r]
        · rw [if_neg (fun x => c7 x.2.1), ← z]
          show Fcap A (s_rmA S (p : Int)) i f = _
          unfold Fcap thA
          rw [tj 0 (by omega) (by omega), tj 1 (by omega) (by omega), tj 2 (by omega) (by omega), tj 3 (by omega) (by omega), tj 4 (by omega) (by omega), tj 7 (by omega) (by omega), tj 8 (by omega) (by omega)]
          simp only [c7, if_false]
      by_cases c2 : k = 2
      · rw [c2] at q z ⊢
        obtain ⟨t, t1, t2⟩ := u1_2 hA i q
        rw [t2] at z ⊢
        have et : (8 * (t : Int) / 8).toNat = t := by omega
        unfold tbH
        rw [et]
        rw [Fv_thr] at z
        by_cases cf : f = 2
        · rw [cf] at z ⊢
          have z : some (pv (s_destroy (s_rmA S (p : Int)) 1 (S 1 p) 11 t) (A 1 (s_destroy (s_rmA S (p : Int)) 1 (S 1 p) 11 t))) = some v := z
          rw [ds_11 t1] at z
          unfold rm_tab at z
          by_cases y : s_rmA S (p : Int) 11 t = S 1 p
          · rw [if_pos ⟨rfl, y⟩] at z
            rw [if_pos ⟨rfl, rfl, by omega, by omega, y⟩]; exact z
          · rw [if_neg (fun x => y x.2)] at z
            rw [if_neg (fun x => y x.2.2.2.2)]
            unfold tbG
            rw [if_neg (by omega), Fv_thr]; exact z
        · rw [if_neg (fun x => cf x.2.1)]
          unfold tbG
          rw [if_neg (by omega), Fv_thr, ← z]
          unfold Fthr
          rw [show nxtL (s_destroy (s_rmA S (p : Int)) 1 (S 1 p)) (lid S) t = nxtL (s_rmA S (p : Int)) (lid S) t by unfold nxtL; rw [tj 18 (by omega) (by omega)]]
          rw [tj 10 (by omega) (by omega), tj 12 (by omega) (by omega), tj 13 (by omega) (by omega), tj 14 (by omega) (by omega), tj 15 (by omega) (by omega), tj 16 (by omega) (by omega), tj 17 (by omega) (by omega), tj 20 (by omega) (by omega), tj 21 (by omega) (by omega), tj 22 (by omega) (by omega), tj 23 (by omega) (by omega)]
          simp only [cf, if_false]
      · unfold tbH tbG
        rw [if_neg (fun x => c2 x.1), if_neg (fun x => c8 x.1), ← z]
        refine (Fv_dep (fun j hj => tj j (fun y => c8 (dep_no.2.1 y hj)) (fun y => ?_))).symm
        rw [y] at hj
        unfold dep at hj
        have := u1_k k i q
        (repeat' split at hj) <;> omega
    · refine H1.to (fun k i q => ⟨q, rfl⟩) (fun k i f v q z => ?_)
      unfold tbH at z
      rw [if_neg (fun x => by omega)] at z
      exact z
  · refine h.to (fun k i q => ⟨q, rfl⟩) (fun k i f v q z => ?_)
    unfold tbG at z
    rw [if_neg (fun x => by omega)] at z
    exact z
end RE
