section RF
variable {P : xP} {w : xH} {Q : Option Value → xH → Prop} {A : xA} {S : xS} {p : Nat}
theorem u1_hd {k u : Int} (h : U1 S p k u) (h0 : 1 ≤ k) (h1 : k ≤ 7) : hd S k u := by
  have g := h.1
  unfold us at g
  rcases g with z | z | z | z | z | z | z
  all_goals first | exact z.2.2 | omega
/-- the thread's place is emptied -/
theorem kd_thread (hW : InvW S) (hp : p < 128) (hk : S 0 p = 2) (hx : ¬ hd (s_rmA S (p : Int)) 2 (S 1 p)) {t0 : Nat} (ht0 : S 1 p = 8 * (t0 : Int)) (ht1 : t0 < 16) (h : Hp w A (U1 S p) (fup (xFv A (s_rmA S (p : Int)) (lup (lid S) t0 (-1))) 12 2 t0 .null)) : Rel w A (s_destroy (s_rmA S (p : Int)) 2 (S 1 p)) (lid (s_destroy (s_rmA S (p : Int)) 2 (S 1 p))) := by
  have hA := hW.2.1
  have tj : ∀ j, j ≠ 10 → s_destroy (s_rmA S (p : Int)) 2 (S 1 p) j = s_rmA S (p : Int) j := by
    intro j a
    by_cases c11 : j = 11
    · rw [c11]; exact ds_n11 (by omega)
    by_cases c12 : j = 12
    · rw [c12]; exact ds_n12 (by omega)
    by_cases c7 : j = 7
    · rw [c7]; exact ds_n7 (by omega)
    by_cases c25 : j = 25
    · rw [c25]; exact ds_n25 (by omega)
    by_cases c27 : j = 27
    · rw [c27]; exact ds_n27 (by omega)
    by_cases c9 : j = 9
    · rw [c9]; exact ds_n9 (by omega) (rm_9 hW)
    exact ds_o c11 c12 a c9 c7 c25 c27
  have t10 : ∀ t, s_destroy (s_rmA S (p : Int)) 2 (S 1 p) 10 t = if t = t0 then 0 else s_rmA S (p : Int) 10 t := by
    intro t
    by_cases c : t < 16
    · rw [ds_10 c]
      unfold rm_sta
      rw [if_neg (by omega)]
      by_cases e : t = t0
      · rw [if_pos ⟨rfl, by omega⟩, if_pos e]
      · rw [if_neg (by omega), if_neg e]
    · rw [ds_out (by omega), if_neg (by omega)]
  have lT : lid (s_destroy (s_rmA S (p : Int)) 2 (S 1 p)) = lup (lid S) t0 (-1) := by
    rw [← rm_lid (S := S) (p := p)]
    funext t
    unfold lid
    rw [t10, tj 13 (by omega), tj 19 (by omega)]
    by_cases e : t = t0
    · rw [e, lup_t, if_pos rfl]; rfl
    · rw [lup_o e, if_neg e]
  have eu := us_cg (tj 0 (by omega)) (tj 1 (by omega))
  refine h.to (fun k i u => ⟨us_rm hp (by rw [← eu]; exact u), rfl⟩) (fun k i f v u z => ?_)
  rw [eu] at u
  have u1 := us_rm hp u
  rw [lT] at z
  by_cases c2 : k = 2
  · rw [c2] at u z u1 ⊢
    obtain ⟨t, t1, t2⟩ := u1_2 hA i u1
    rw [fup_n (by omega)]
    have ne : t ≠ t0 := by
      intro e
      apply hx
      have : hd (s_rmA S (p : Int)) 2 i := by
        unfold us at u
        rcases u with z | z | z | z | z | z | z
        all_goals first | exact z.2.2 | omega
      rw [ht0, ← e, ← t2]; exact this
    rw [t2] at z ⊢
    rw [Fv_thr] at z ⊢
    rw [← z]
    unfold Fthr
    rw [show nxtL (s_destroy (s_rmA S (p : Int)) 2 (S 1 p)) (lup (lid S) t0 (-1)) t = nxtL (s_rmA S (p : Int)) (lup (lid S) t0 (-1)) t by unfold nxtL; rw [tj 18 (by omega)]]
    rw [t10, if_neg ne, tj 11 (by omega), tj 12 (by omega), tj 13 (by omega), tj 14 (by omega), tj 15 (by omega), tj 16 (by omega), tj 17 (by omega), tj 20 (by omega), tj 21 (by omega), tj 22 (by omega), tj 23 (by omega)]
  by_cases c12 : k = 12
  · rw [c12] at u z u1 ⊢
    have z : Fker A (s_destroy (s_rmA S (p : Int)) 2 (S 1 p)) i f = some v := z
    by_cases i2 : i = 2
    · rw [i2] at z ⊢
      have z : (if f < 16 then some (if s_destroy (s_rmA S (p : Int)) 2 (S 1 p) 10 f = 0 then Value.null else .ref (A 2 (8 * (f : Int)))) else none) = some v := z
      by_cases e : f = t0
      · rw [e, fup_e]
        rw [e, if_pos ht1, t10, if_pos rfl, if_pos rfl] at z
        exact z
      · rw [fup_n (by omega)]
        rw [t10, if_neg e] at z
        exact z
    · rw [fup_n (by omega), ← z]
      show Fker A (s_rmA S (p : Int)) i f = _
      unfold Fker
      rw [tj 0 (by omega), tj 27 (by omega)]
      by_cases j0 : i = 0
      · simp only [if_pos j0]
      by_cases j1 : i = 1
      · simp only [if_neg j0, if_pos j1]
      simp only [if_neg j0, if_neg j1, if_neg i2]
  · rw [fup_n (by omega), ← z]
    refine (Fv_dep (fun j hj => tj j (fun y => ?_))).symm
    rw [y] at hj
    unfold dep at hj
    have := u1_k k i u1
    (repeat' split at hj) <;> omega
theorem kd_stop {k : Int} (hW : InvW S) (hp : p < 128) (hk : k = 3 ∨ k = 4) (h : Hp w A (U1 S p) (xFv A (if k = 4 then ubS (stS (s_rmA S (p : Int)) (S 1 p) 16) (S 1 p) 4 else stS (s_rmA S (p : Int)) (S 1 p) 16) (stL (lid S) (S 1 p) 16))) : Rel w A (s_destroy (s_rmA S (p : Int)) k (S 1 p)) (lid (s_destroy (s_rmA S (p : Int)) k (S 1 p))) := by
  have hA := hW.2.1
  have tB := hW.2.2.2.2.2.2.1
  have u0 := (hA p hp).1
  have ro : ∀ j, j ≠ 0 → j ≠ 4 → j ≠ 9 → s_rmA S (p : Int) j = S j := fun j a b c => rmA_o a b c
  have tj : ∀ j, j ≠ 10 → j ≠ 27 → s_destroy (s_rmA S (p : Int)) k (S 1 p) j = s_rmA S (p : Int) j := by
    intro j a b
    by_cases c11 : j = 11
    · rw [c11]; exact ds_n11 (by omega)
    by_cases c12 : j = 12
    · rw [c12]; exact ds_n12 (by omega)
    by_cases c7 : j = 7
    · rw [c7]; exact ds_n7 (by omega)
    by_cases c25 : j = 25
    · rw [c25]; exact ds_n25 (by omega)
    by_cases c9 : j = 9
    · rw [c9]; exact ds_n9 (by omega) (rm_9 hW)
    exact ds_o c11 c12 a c9 c7 c25 b
  have t10 : s_destroy (s_rmA S (p : Int)) k (S 1 p) 10 = stS (s_rmA S (p : Int)) (S 1 p) 16 10 := by
    funext t
    rw [stS_10]
    by_cases c : t < 16
    · rw [ds_10 c, if_pos c]
      unfold rm_sta
      by_cases e : 3 ≤ s_rmA S (p : Int) 10 t ∧ s_rmA S (p : Int) 19 t = S 1 p
      · rw [if_pos ⟨hk, e⟩, if_pos e]
      · rw [if_neg (fun x => e x.2), if_neg e, if_neg (by omega)]
    · rw [ds_out (by omega), if_neg c]
  have t27 : s_destroy (s_rmA S (p : Int)) k (S 1 p) 27 = if k = 4 then ubS (stS (s_rmA S (p : Int)) (S 1 p) 16) (S 1 p) 4 27 else s_rmA S (p : Int) 27 := by
    by_cases c4 : k = 4
    · rw [if_pos c4]
      funext q
      rw [ubS_27, stS_o (by omega)]
      by_cases c : q < 4
      · rw [ds_27 c, if_pos c]
        unfold rm_lin
        by_cases e : s_rmA S (p : Int) 27 q = S 1 p
        · rw [if_pos ⟨c4, e⟩, if_pos e]
        · rw [if_neg (fun x => e x.2), if_neg e]
      · rw [ds_out (by omega), if_neg c]
    · rw [if_neg c4]; exact ds_n27 c4
  have all : ∀ j, j < 28 → s_destroy (s_rmA S (p : Int)) k (S 1 p) j = (if k = 4 then ubS (stS (s_rmA S (p : Int)) (S 1 p) 16) (S 1 p) 4 else stS (s_rmA S (p : Int)) (S 1 p) 16) j := by
    intro j hj
    by_cases c4 : k = 4
    · rw [if_pos c4]
      by_cases a : j = 27
      · rw [a, t27, if_pos c4]
      rw [ubS_o a]
      by_cases b : j = 10
      · rw [b, t10]
      · rw [stS_o b, tj j b a]
    · rw [if_neg c4]
      by_cases a : j = 27
      · rw [a, t27, if_neg c4, stS_o (by omega)]
      by_cases b : j = 10
      · rw [b, t10]
      · rw [stS_o b, tj j b a]
  have lT : lid (s_destroy (s_rmA S (p : Int)) k (S 1 p)) = stL (lid S) (S 1 p) 16 := by
    funext t
    by_cases c : t < 16
    · have m := lid_mem tB c (u := S 1 p) (by omega)
      have e10 := ro 10 (by omega) (by omega) (by omega)
      have e19 := ro 19 (by omega) (by omega) (by omega)
      have e13 := ro 13 (by omega) (by omega) (by omega)
      unfold stL
      by_cases e : lid S t = S 1 p + 4
      · rw [if_pos ⟨c, e⟩]
        unfold lid
        rw [t10, stS_10, if_pos c, e10, e19, if_pos (m.1 e)]; rfl
      · rw [if_neg (fun x => e x.2)]
        unfold lid
        rw [t10, stS_10, if_pos c, e10, e19, if_neg (fun x => e (m.2 x)), tj 13 (by omega) (by omega), tj 19 (by omega) (by omega), e13, e19]
    · unfold stL
      rw [if_neg (fun x => c x.1), ← rm_lid (S := S) (p := p)]
      unfold lid
      rw [t10, stS_10, if_neg c, tj 13 (by omega) (by omega), tj 19 (by omega) (by omega)]
  refine rm_fin hp ?_ (tj 0 (by omega) (by omega)) (tj 1 (by omega) (by omega))
  rw [lT]
  exact h.cgU all
theorem kd_frame {k : Int} (hW : InvW S) (hp : p < 128) (hk : k = 7 ∨ k = 0) (h : Hp w A (U1 S p) (xFv A (s_rmA S (p : Int)) (lid S))) : Rel w A (s_destroy (s_rmA S (p : Int)) k (S 1 p)) (lid (s_destroy (s_rmA S (p : Int)) k (S 1 p))) := by
  have tj : ∀ j, s_destroy (s_rmA S (p : Int)) k (S 1 p) j = s_rmA S (p : Int) j := by
    intro j
    by_cases c10 : j = 10
    · rw [c10]; exact ds_n10 (by omega)
    by_cases c11 : j = 11
    · rw [c11]; exact ds_n11 (by omega)
    by_cases c12 : j = 12
    · rw [c12]; exact ds_n12 (by omega)
    by_cases c7 : j = 7
    · rw [c7]; exact ds_n7 (by omega)
    by_cases c25 : j = 25
    · rw [c25]; exact ds_n25 (by omega)
    by_cases c27 : j = 27
    · rw [c27]; exact ds_n27 (by omega)
    by_cases c9 : j = 9
    · rw [c9]; exact ds_n9 (by omega) (rm_9 hW)
    exact ds_o c11 c12 c10 c9 c7 c25 c27
  have e : s_destroy (s_rmA S (p : Int)) k (S 1 p) = s_rmA S (p : Int) := by
    funext j
    exact tj j
  rw [e]
  refine rm_fin hp ?_ rfl rfl
  rw [rm_lid]
  exact h
set_option maxHeartbeats 8000000 in
theorem kd_space (hW : InvW S) (hp : p < 128) (hk : S 0 p = 5) (h : Hp w A (U1 S p) (xFv A (s_rmA S (p : Int)) (lid S))) {l2 l3 : Option Value} (hQ : ∀ w', Rel w' A (s_destroy (s_rmA S (p : Int)) 5 (S 1 p)) (lid (s_destroy (s_rmA S (p : Int)) 5 (S 1 p))) → Fr w w' 0 → Q none w') : WP P 37 0 [some (.ref (A 12 0)), some (.ref (A 5 (S 1 p))), l2, l3] [] w Q := by
  have hR : RgS s_zero := RgS.zero
  have hA := hW.2.1
  have tA := hW.2.2.2.2.2.1
  have tB := hW.2.2.2.2.2.2.1
  have mA := hW.2.2.2.2.2.2.2.2.2.1
  have u0 := (hA p hp).1
  have h5 : hd S 5 (S 1 p) := ⟨p, hp, hk, rfl⟩
  have ro : ∀ j, j ≠ 0 → j ≠ 4 → j ≠ 9 → s_rmA S (p : Int) j = S j := fun j a b c => rmA_o a b c
  have e10 := ro 10 (by omega) (by omega) (by omega)
  have e12 := ro 12 (by omega) (by omega) (by omega)
  have e25 := ro 25 (by omega) (by omega) (by omega)
  have e26 := ro 26 (by omega) (by omega) (by omega)
  have rh : ∀ {k u : Int}, 1 ≤ k → hd (s_rmA S (p : Int)) k u → hd S k u := fun hk g => rmA_hd hk g
  have rh2 : ∀ {k u : Int}, hd S k u → ¬ (k = S 0 p ∧ u = S 1 p) → hd (s_rmA S (p : Int)) k u := fun g c => rmA_hd2 g c
  have hh1 : ∀ v, hd (s_rmA S (p : Int)) 6 v ↔ hd S 6 v := fun v => ⟨fun g => rh (by omega) g, fun g => rh2 g (by omega)⟩
  have mA2 : ∀ l l' : Nat, l < 32 → l' < 32 → l ≠ l' → hd (s_rmA S (p : Int)) 6 (4 * (l : Int)) → hd (s_rmA S (p : Int)) 6 (4 * (l' : Int)) → s_rmA S (p : Int) 25 l ≠ -1 → s_rmA S (p : Int) 25 l = s_rmA S (p : Int) 25 l' → s_rmA S (p : Int) 26 l ≠ s_rmA S (p : Int) 26 l' := by
    intro l l' hl hl' hne g g'
    rw [e25, e26]
    exact mA.2 l l' hl hl' hne ((hh1 _).1 g) ((hh1 _).1 g')
  simp (disch := first | exact hR _ _ | exact x01a | exact x01b | (unfold x_r; omega) | assumption | omega) only [wK_destroySpace_0, wK_destroySpace_1, x_gi_int, x_ga_ref, x_ga_null, List.getElem?_cons_zero, List.getElem?_cons_succ, List.length_cons, List.length_nil, List.set_cons_zero, List.set_cons_succ, Nat.reduceAdd, Nat.reduceLT, xr_lt, xr_eq, xr_toInt, xr_0, xi_add, xi_sub, xi_mul, xr_div, xr_rm, Int.toNat_natCast, bd_t, true_and, and_true, not_false_eq_true, ↓reduceIte, ilt_t, ilt_f, ile_t, x_c1i, x_c1r, x_c1n, and_self, Option.toList_some, Option.toList_none, List.cons_append, List.nil_append, xr_01, xr_00, ieq_f, ieq_t]
  refine k_destroySpace_thr (U := U1 S p) (X := s_rmA S (p : Int)) (ln := lid S) (F := xFv A (s_rmA S (p : Int)) (lid S)) (u := S 1 p) (by omega) (u1_of (us_ker (by omega)) (by omega) (by omega)) (u1_of (us_ker (by omega)) (by omega) (by omega)) (u1_of (us_thi (by omega) (by omega) h5) (by omega) (by omega)) (fun t ht g => ?_) (fun t ht g => ?_) (u1_2 hA) (fun k i f c => rfl) (fun t ht g => ?_) (w0 := w) (fun w2 H2 fr2 l3'' => ?_) 16 0 (by omega) w l3 ?_ (Fr.refl w)
  · rw [e10] at g
    exact u1_of (us_thi (by omega) (by omega) ((tA t ht).2.1.1 g)) (by omega) (by omega)
  · rw [e10]
    exact (tA t ht).2.1.2 (u1_hd g (by omega) (by omega))
  · rw [e10] at g
    rw [e12]
    exact ((tB t ht g).2.2.1).imp id (fun x => ⟨(hA.hd x).1, u1_of (us_thi (by omega) (by omega) x) (by omega) (by omega)⟩)
  · simp (disch := first | exact hR _ _ | exact x01a | exact x01b | (unfold x_r; omega) | assumption | omega) only [wK_destroySpace_38, wK_destroySpace_39, x_gi_int, x_ga_ref, x_ga_null, List.getElem?_cons_zero, List.getElem?_cons_succ, List.length_cons, List.length_nil, List.set_cons_zero, List.set_cons_succ, Nat.reduceAdd, Nat.reduceLT, xr_lt, xr_eq, xr_toInt, xr_0, xi_add, xi_sub, xi_mul, xr_div, xr_rm, Int.toNat_natCast, bd_t, true_and, and_true, not_false_eq_true, ↓reduceIte, ilt_t, ilt_f, ile_t, x_c1i, x_c1r, x_c1n, and_self, Option.toList_some, Option.toList_none, List.cons_append, List.nil_append, xr_01, xr_00, ieq_f, ieq_t]
    refine k_ds_loop2 (U := U1 S p) (X := s_rmA S (p : Int)) (ln := lid S) (F := tbH (xFv A (s_rmA S (p : Int)) (lid S)) (s_rmA S (p : Int)) (S 1 p) 12 3 16) (u := S 1 p) (by omega) (u1_of (us_thi (by omega) (by omega) h5) (by omega) (by omega)) (u1_of (us_lvs h5) (by omega) (by omega)) (fun k i f c => if_neg (fun x => c x.1)) mA2 (fun i g => ?_) (fun l hl g => u1_of (us_thi (by omega) (by omega) ((hh1 _).1 g)) (by omega) (by omega)) (fun l hl g c => ?_) (w0 := w) (fun w3 H3 fr3 => ?_) 4 0 (by omega) w2 l3'' ?_ fr2
    · have g6 := u1_hd g (by omega) (by omega)
      have a1 : i % 4 = 0 := (hd_al hA (by omega) g6).1
      have a2 := hA.hd g6
      exact ⟨(i / 4).toNat, by omega, by omega, (hh1 _).2 g6⟩
    · rw [e25] at c
      rw [e26]
      have := (mA.1 l hl ((hh1 _).1 g)).resolve_left (by omega)
      exact ⟨this.2.1, by omega⟩
    · have tj : ∀ j, j ≠ 12 → j ≠ 25 → s_destroy (s_rmA S (p : Int)) 5 (S 1 p) j = s_rmA S (p : Int) j := by
        intro j a b
        by_cases c10 : j = 10
        · rw [c10]; exact ds_n10 (by omega)
        by_cases c11 : j = 11
        · rw [c11]; exact ds_n11 (by omega)
        by_cases c7 : j = 7
        · rw [c7]; exact ds_n7 (by omega)
        by_cases c27 : j = 27
        · rw [c27]; exact ds_n27 (by omega)
        by_cases c9 : j = 9
        · rw [c9]; exact ds_n9 (by omega) (rm_9 hW)
        exact ds_o c11 a c10 c9 c7 b c27
      have t25 : ∀ q, q < 32 → s_destroy (s_rmA S (p : Int)) 5 (S 1 p) 25 q = if s_rmA S (p : Int) 25 q = S 1 p then -1 else s_rmA S (p : Int) 25 q := by
        intro q hq
        rw [ds_25 hq]
        unfold rm_les
        by_cases c : s_rmA S (p : Int) 25 q = S 1 p
        · rw [if_pos (Or.inr ⟨rfl, c⟩), if_pos c]
        · rw [if_neg (fun x => x.elim (fun y => by omega) (fun y => c y.2)), if_neg c]
      have lT : lid (s_destroy (s_rmA S (p : Int)) 5 (S 1 p)) = lid S := (lid_o (tj 10 (by omega) (by omega)) (tj 13 (by omega) (by omega)) (tj 19 (by omega) (by omega))).trans rm_lid
      refine hQ w3 (rm_fin hp ?_ (tj 0 (by omega) (by omega)) (tj 1 (by omega) (by omega))) fr3
      rw [lT]
      have hhT : ∀ v, hd (s_destroy (s_rmA S (p : Int)) 5 (S 1 p)) 6 v ↔ hd (s_rmA S (p : Int)) 6 v := fun v => by rw [hd_cg (tj 0 (by omega) (by omega)) (tj 1 (by omega) (by omega))]
      refine H3.to (fun k i q => ⟨q, rfl⟩) (fun k i f v q z => ?_)
      by_cases c10 : k = 10
      · rw [c10] at q z ⊢
        have g5 : hd S 5 i := by
          have g := q.1
          unfold us at g
          rcases g with y | y | y | y | y | y | y
          all_goals first | exact y.2 | omega
        have i0 := hA.hd g5
        have z : (if f < 4 then some (pv (s_leafOf (s_destroy (s_rmA S (p : Int)) 5 (S 1 p)) i f) (A 6 (s_leafOf (s_destroy (s_rmA S (p : Int)) 5 (S 1 p)) i f))) else none) = some v := z
        by_cases f4 : f < 4
        · rw [if_pos f4] at z
          unfold spG
          by_cases c : i = S 1 p
          · rw [if_pos ⟨rfl, c, f4⟩]
            have no : s_leafOf (s_destroy (s_rmA S (p : Int)) 5 (S 1 p)) i f = -1 := leafOf_no (fun q hq g1 g2 => by
              rw [t25 q hq] at g2
              split at g2 <;> omega)
            rw [no] at z
            exact z
          · rw [if_neg (fun x => c x.2.1), if_neg (by omega)]
            unfold tbH
            rw [if_neg (by omega)]
            show (if f < 4 then some (pv (s_leafOf (s_rmA S (p : Int)) i f) (A 6 (s_leafOf (s_rmA S (p : Int)) i f))) else none) = some v
            rw [if_pos f4]
            have le : s_leafOf (s_destroy (s_rmA S (p : Int)) 5 (S 1 p)) i f = s_leafOf (s_rmA S (p : Int)) i f := by
              by_cases d : 0 ≤ s_leafOf (s_destroy (s_rmA S (p : Int)) 5 (S 1 p)) i f
              · obtain ⟨j, j1, j2, j3, j4, j5⟩ := leafOf_is d
                rw [t25 j j1] at j4
                have n : ¬ s_rmA S (p : Int) 25 j = S 1 p := fun x => by rw [if_pos x] at j4; omega
                rw [if_neg n] at j4
                rw [tj 26 (by omega) (by omega)] at j5
                rw [j2, leafOf_eq2 mA2 j1 ((hhT _).1 j3) j4 j5 (by omega)]
              · have b := s_leafOf_in (s_destroy (s_rmA S (p : Int)) 5 (S 1 p)) i f
                rw [show s_leafOf (s_destroy (s_rmA S (p : Int)) 5 (S 1 p)) i f = -1 by omega]
                symm
                refine leafOf_no (fun j j1 j2 j3 j4 => ?_)
                exact absurd ⟨(s_there_hd (by omega)).2 ⟨by omega, by omega, (hhT _).2 j2⟩, by rw [t25 j j1, if_neg (by omega)]; exact j3, by rw [tj 26 (by omega) (by omega)]; exact j4⟩ (lfL_no 32 0 (show lfL (s_destroy (s_rmA S (p : Int)) 5 (S 1 p)) i f 32 0 < 0 by unfold s_leafOf at d; omega) j (by omega) (by omega))
            rw [← le]; exact z
        · rw [if_neg f4] at z; cases z
      by_cases c6 : k = 6
      · rw [c6] at q z ⊢
        have g6 := u1_hd q (by omega) (by omega)
        have a1 : i % 4 = 0 := (hd_al hA (by omega) g6).1
        have a2 := hA.hd g6
        have ll : (i / 4).toNat < 32 := by omega
        have z : Fthi A (s_destroy (s_rmA S (p : Int)) 5 (S 1 p)) 6 i f = some v := z
        have tb : ∀ g, tbH (xFv A (s_rmA S (p : Int)) (lid S)) (s_rmA S (p : Int)) (S 1 p) 12 3 16 6 i g = Fthi A (s_rmA S (p : Int)) 6 i g := fun g => if_neg (by omega)
        unfold spG
        rw [if_neg (by omega)]
        revert z
        refine Fthi_6 (p := fun f v => (if 6 = 6 ∧ f = 2 ∧ s_rmA S (p : Int) 25 (i / 4).toNat = S 1 p ∧ s_rmA S (p : Int) 26 (i / 4).toNat < ((4 : Nat) : Int) then some Value.null else tbH (xFv A (s_rmA S (p : Int)) (lid S)) (s_rmA S (p : Int)) (S 1 p) 12 3 16 6 i f) = some v) ?_ ?_ ?_ (fun y => ?_) ?_ f v
        · rw [if_neg (by omega), tb]; rfl
        · rw [if_neg (by omega), tb]; rfl
        · rw [t25 _ ll]
          by_cases c : s_rmA S (p : Int) 25 (i / 4).toNat = S 1 p
          · have : s_rmA S (p : Int) 26 (i / 4).toNat < ((4 : Nat) : Int) := by
              rw [e25] at c
              rw [e26]
              have := (mA.1 (i / 4).toNat ll (by rw [show 4 * (((i / 4).toNat : Nat) : Int) = i by omega]; exact g6)).resolve_left (by omega)
              omega
            rw [if_pos c, if_pos ⟨rfl, rfl, c, this⟩]; rfl
          · rw [if_neg c, if_neg (fun x => c x.2.2.1), tb]; rfl
        · rw [if_neg (by omega), tb]
          rw [t25 _ ll] at y
          have c : ¬ s_rmA S (p : Int) 25 (i / 4).toNat = S 1 p := fun x => by rw [if_pos x] at y; omega
          rw [if_neg c] at y
          rw [tj 26 (by omega) (by omega)]
          unfold Fthi
          simp [y]
        · rw [if_neg (by omega), tb]; rfl
      have sp : spG (tbH (xFv A (s_rmA S (p : Int)) (lid S)) (s_rmA S (p : Int)) (S 1 p) 12 3 16) (s_rmA S (p : Int)) (S 1 p) 4 k i f = tbH (xFv A (s_rmA S (p : Int)) (lid S)) (s_rmA S (p : Int)) (S 1 p) 12 3 16 k i f := by
        unfold spG
        rw [if_neg (fun x => c10 x.1), if_neg (fun x => c6 x.1)]
      rw [sp]
      by_cases c2 : k = 2
      · rw [c2] at q z ⊢
        obtain ⟨t, t1, t2⟩ := u1_2 hA i q
        rw [t2] at z ⊢
        have et : (8 * (t : Int) / 8).toNat = t := by omega
        unfold tbH
        rw [et]
        rw [Fv_thr] at z
        by_cases cf : f = 3
        · rw [cf] at z ⊢
          have z : some (pv (s_destroy (s_rmA S (p : Int)) 5 (S 1 p) 12 t) (A 5 (s_destroy (s_rmA S (p : Int)) 5 (S 1 p) 12 t))) = some v := z
          rw [ds_12 t1] at z
          unfold rm_spa at z
          by_cases y : s_rmA S (p : Int) 12 t = S 1 p
          · rw [if_pos ⟨rfl, y⟩] at z
            rw [if_pos ⟨rfl, rfl, by omega, by omega, y⟩]; exact z
          · rw [if_neg (fun x => y x.2)] at z
            rw [if_neg (fun x => y x.2.2.2.2), Fv_thr]; exact z
        · rw [if_neg (fun x => cf x.2.1), Fv_thr, ← z]
          unfold Fthr
          rw [show nxtL (s_destroy (s_rmA S (p : Int)) 5 (S 1 p)) (lid S) t = nxtL (s_rmA S (p : Int)) (lid S) t by unfold nxtL; rw [tj 18 (by omega) (by omega)]]
          rw [tj 10 (by omega) (by omega), tj 11 (by omega) (by omega), tj 13 (by omega) (by omega), tj 14 (by omega) (by omega), tj 15 (by omega) (by omega), tj 16 (by omega) (by omega), tj 17 (by omega) (by omega), tj 20 (by omega) (by omega), tj 21 (by omega) (by omega), tj 22 (by omega) (by omega), tj 23 (by omega) (by omega)]
          simp only [cf, if_false]
      · unfold tbH
        rw [if_neg (fun x => c2 x.1), ← z]
        by_cases kth : k < 8 ∧ k ≠ 0
        · unfold xFv
          simp only [if_neg kth.2, if_neg c2, if_pos kth.1]
          unfold Fthi
          rw [tj 24 (by omega) (by omega)]
          simp only [c6, if_false]
        · refine (Fv_dep (fun j hj => tj j (fun y => ?_) (fun y => ?_))).symm
          · rw [y] at hj
            unfold dep at hj
            have := u1_k k i q
            (repeat' split at hj) <;> omega
          · have := dep_no.2.2.2.2.2.2.1 (Or.inl y) hj
            omega
    · refine H2.to (fun k i q => ⟨q, rfl⟩) (fun k i f v q z => ?_)
      unfold spG at z
      rw [if_neg (by omega)] at z
      by_cases c : k = 6 ∧ f = 2 ∧ s_rmA S (p : Int) 25 (i / 4).toNat = S 1 p ∧ s_rmA S (p : Int) 26 (i / 4).toNat < ((0 : Nat) : Int)
      · exfalso
        rw [c.1] at q
        have g6 := u1_hd q (by omega) (by omega)
        have a1 : i % 4 = 0 := (hd_al hA (by omega) g6).1
        have a2 := hA.hd g6
        have c3 := c.2.2.1
        rw [e25] at c3
        have c4 := c.2.2.2
        rw [e26] at c4
        have := (mA.1 (i / 4).toNat (by omega) (by rw [show 4 * (((i / 4).toNat : Nat) : Int) = i by omega]; exact g6)).resolve_left (by omega)
        omega
      · rw [if_neg c] at z; exact z
  · refine h.to (fun k i q => ⟨q, rfl⟩) (fun k i f v q z => ?_)
    unfold tbH at z
    rw [if_neg (fun x => by omega)] at z
    exact z
end RF
