section RG
variable {P : xP} {w : xH} {Q : Option Value → xH → Prop} {A : xA} {S : xS} {p : Nat}
theorem rmO_k {k i : Int} {f : Nat} (h : k ≠ 10) : rmO A S (lid S) p k i f = xFv A (s_rmA S (p : Int)) (lid S) k i f := by
  unfold rmO
  rw [if_neg (fun x => h x.2.2.1)]
set_option maxHeartbeats 8000000 in
theorem kd_leaf (hW : InvW S) (hp : p < 128) (hk : S 0 p = 6) (hx : ¬ hd (s_rmA S (p : Int)) 6 (S 1 p)) (h : Hp w A (U1 S p) (rmO A S (lid S) p)) {l2 l3 : Option Value} (hQ : ∀ w', Rel w' A (s_destroy (s_rmA S (p : Int)) 6 (S 1 p)) (lid (s_destroy (s_rmA S (p : Int)) 6 (S 1 p))) → Fr w w' 0 → Q none w') : WP P 39 0 [some (.ref (A 6 (S 1 p))), l2, l3] [] w Q := by
  have hR : RgS s_zero := RgS.zero
  have hA := hW.2.1
  have mA := hW.2.2.2.2.2.2.2.2.2.1
  have mB := hW.2.2.2.2.2.2.2.2.2.2.1
  have u0 := (hA p hp).1
  have h6 : hd S 6 (S 1 p) := ⟨p, hp, hk, rfl⟩
  have a4 : S 1 p % 4 = 0 := (hd_al hA (by omega) h6).1
  have ll : (S 1 p / 4).toNat < 32 := by omega
  have lu : 4 * (((S 1 p / 4).toNat : Nat) : Int) = S 1 p := by omega
  have m0 := mA.1 (S 1 p / 4).toNat ll (by rw [lu]; exact h6)
  have ro : ∀ j, j ≠ 0 → j ≠ 4 → j ≠ 9 → s_rmA S (p : Int) j = S j := fun j a b c => rmA_o a b c
  have e25 := ro 25 (by omega) (by omega) (by omega)
  have e26 := ro 26 (by omega) (by omega) (by omega)
  have e7 := ro 7 (by omega) (by omega) (by omega)
  have e8 := ro 8 (by omega) (by omega) (by omega)
  have r0 := fun i => rmA_0 (S := S) (s := p) i
  have rh : ∀ {k u : Int}, 1 ≤ k → hd (s_rmA S (p : Int)) k u → hd S k u := fun hk g => rmA_hd hk g
  have lv1 : ∀ x : Nat, 0 ≤ s_rmA S (p : Int) 0 x → x ≠ p ∧ s_rmA S (p : Int) 0 x = S 0 x := by
    intro x g
    rw [r0] at g ⊢
    have ne : x ≠ p := fun e => by rw [if_pos e] at g; omega
    exact ⟨ne, if_neg ne⟩
  have u6 : U1 S p 6 (S 1 p) := u1_of (us_thi (by omega) (by omega) h6) (by omega) (by omega)
  have m1 : ¬ S 25 (S 1 p / 4).toNat < 0 → hd S 5 (S 25 (S 1 p / 4).toNat) ∧ 0 ≤ S 26 (S 1 p / 4).toNat ∧ S 26 (S 1 p / 4).toNat ≤ 3 := fun c => m0.resolve_left (by omega)
  simp (disch := first | exact hR _ _ | exact x01a | exact x01b | (unfold x_r; omega) | assumption | omega) only [wK_destroyLeaf_0, x_gi_int, x_ga_ref, x_ga_null, List.getElem?_cons_zero, List.getElem?_cons_succ, List.length_cons, List.length_nil, List.set_cons_zero, List.set_cons_succ, Nat.reduceAdd, Nat.reduceLT, xr_lt, xr_eq, xr_toInt, xr_0, xi_add, xi_sub, xi_mul, xr_div, xr_rm, Int.toNat_natCast, bd_t, true_and, and_true, not_false_eq_true, ↓reduceIte, ilt_t, ilt_f, ile_t, x_c1i, x_c1r, x_c1n, and_self, Option.toList_some, Option.toList_none, List.cons_append, List.nil_append, xr_01, xr_00, ieq_f, ieq_t]
  have f2v : rmO A S (lid S) p 6 (S 1 p) 2 = some (pv (S 25 (S 1 p / 4).toNat) (A 5 (S 25 (S 1 p / 4).toNat))) := by
    rw [rmO_k (by omega)]
    show some (pv (s_rmA S (p : Int) 25 (S 1 p / 4).toNat) (A 5 (s_rmA S (p : Int) 25 (S 1 p / 4).toNat))) = _
    rw [e25]
  refine wK_destroyLeaf_1 (by simp) rfl rfl (k_leaveSpaceF h (e := S 26 (S 1 p / 4).toNat) u6 f2v (fun c => ⟨?_, u1_of (us_thi (by omega) (by omega) (m1 c).1) (by omega) (by omega), by rw [rmO_k (by omega)]; rfl, u1_of (us_lvs (m1 c).1) (by omega) (by omega), (m1 c).2.1, by have := (m1 c).2.2; omega⟩) (fun w1 H1 fr1 => ?_))
  · rw [rmO_k (by omega)]
    show (if s_rmA S (p : Int) 25 (S 1 p / 4).toNat < 0 then none else some (Value.int (xi (s_rmA S (p : Int) 26 (S 1 p / 4).toNat)))) = _
    rw [e25, e26, if_neg c]
  · simp (disch := first | exact hR _ _ | exact x01a | exact x01b | (unfold x_r; omega) | assumption | omega) only [wK_destroyLeaf_4, wK_destroyLeaf_5, x_gi_int, x_ga_ref, x_ga_null, List.getElem?_cons_zero, List.getElem?_cons_succ, List.length_cons, List.length_nil, List.set_cons_zero, List.set_cons_succ, Nat.reduceAdd, Nat.reduceLT, xr_lt, xr_eq, xr_toInt, xr_0, xi_add, xi_sub, xi_mul, xr_div, xr_rm, Int.toNat_natCast, bd_t, true_and, and_true, not_false_eq_true, ↓reduceIte, ilt_t, ilt_f, ile_t, x_c1i, x_c1r, x_c1n, and_self, Option.toList_some, Option.toList_none, List.cons_append, List.nil_append, xr_01, xr_00, ieq_f, ieq_t]
    have hF : ∀ k i f, k ≠ 10 → ¬ (k = 6 ∧ f = 2) → (if S 25 (S 1 p / 4).toNat < 0 then rmO A S (lid S) p else fup (fup (rmO A S (lid S) p) 10 (S 25 (S 1 p / 4).toNat) (S 26 (S 1 p / 4).toNat).toNat .null) 6 (S 1 p) 2 .null) k i f = xFv A (s_rmA S (p : Int)) (lid S) k i f := by
      intro k i f a b
      by_cases c : S 25 (S 1 p / 4).toNat < 0
      · rw [if_pos c, rmO_k a]
      · rw [if_neg c, fup_n (fun x => b ⟨x.1, x.2.2⟩), fup_n (fun x => a x.1), rmO_k a]
    refine k_dl_loop (U := U1 S p) (X := s_rmA S (p : Int)) (ln := lid S) (F := if S 25 (S 1 p / 4).toNat < 0 then rmO A S (lid S) p else fup (fup (rmO A S (lid S) p) 10 (S 25 (S 1 p / 4).toNat) (S 26 (S 1 p / 4).toNat).toNat .null) 6 (S 1 p) 2 .null) (u := S 1 p) (by omega) u6 (u1_of (us_frs h6) (by omega) (by omega)) hF (fun x hx' a b => ?_) (fun x x' hx1 hx2 hne a a' => ?_) u1_8 u1_8' (w0 := w) (fun w3 H3 fr3 => ?_) 4 0 (by omega) w1 l3 ?_ fr1
    · obtain ⟨n1, n2⟩ := lv1 x a
      rw [n2] at a ⊢
      rw [e7] at b
      exact ((mB.1 x hx' a).resolve_left (by omega)).1
    · obtain ⟨n1, n2⟩ := lv1 x a
      obtain ⟨n1', n2'⟩ := lv1 x' a'
      rw [n2] at a
      rw [n2'] at a'
      rw [e7, e8]
      exact mB.2 x x' hx1 hx2 hne a a'
    · have tj : ∀ j, j ≠ 7 → j ≠ 25 → s_destroy (s_rmA S (p : Int)) 6 (S 1 p) j = s_rmA S (p : Int) j := by
        intro j a b
        by_cases c10 : j = 10
        · rw [c10]; exact ds_n10 (by omega)
        by_cases c11 : j = 11
        · rw [c11]; exact ds_n11 (by omega)
        by_cases c12 : j = 12
        · rw [c12]; exact ds_n12 (by omega)
        by_cases c27 : j = 27
        · rw [c27]; exact ds_n27 (by omega)
        by_cases c9 : j = 9
        · rw [c9]; exact ds_n9 (by omega) (rm_9 hW)
        exact ds_o c11 c12 c10 c9 a b c27
      have t25 : ∀ q, q < 32 → s_destroy (s_rmA S (p : Int)) 6 (S 1 p) 25 q = if q = (S 1 p / 4).toNat then -1 else S 25 q := by
        intro q hq
        rw [ds_25 hq]
        unfold rm_les
        rw [e25]
        by_cases c : q = (S 1 p / 4).toNat
        · rw [if_pos (Or.inl ⟨rfl, by omega⟩), if_pos c]
        · rw [if_neg (fun x => x.elim (fun y => c (by omega)) (fun y => by omega)), if_neg c]
      have t7 : ∀ q, q < 128 → s_destroy (s_rmA S (p : Int)) 6 (S 1 p) 7 q = if S 7 q = S 1 p then -1 else S 7 q := by
        intro q hq
        rw [ds_7 hq]
        unfold rm_inl
        rw [e7]
        by_cases c : S 7 q = S 1 p
        · rw [if_pos ⟨rfl, c⟩, if_pos c]
        · rw [if_neg (fun x => c x.2), if_neg c]
      have lT : lid (s_destroy (s_rmA S (p : Int)) 6 (S 1 p)) = lid S := (lid_o (tj 10 (by omega) (by omega)) (tj 13 (by omega) (by omega)) (tj 19 (by omega) (by omega))).trans rm_lid
      refine hQ w3 (rm_fin hp ?_ (tj 0 (by omega) (by omega)) (tj 1 (by omega) (by omega))) fr3
      rw [lT]
      have hhT : ∀ v, hd (s_destroy (s_rmA S (p : Int)) 6 (S 1 p)) 6 v ↔ hd (s_rmA S (p : Int)) 6 v := fun v => by rw [hd_cg (tj 0 (by omega) (by omega)) (tj 1 (by omega) (by omega))]
      generalize hFF : (if S 25 (S 1 p / 4).toNat < 0 then rmO A S (lid S) p else fup (fup (rmO A S (lid S) p) 10 (S 25 (S 1 p / 4).toNat) (S 26 (S 1 p / 4).toNat).toNat .null) 6 (S 1 p) 2 .null) = F' at *
      refine H3.to (fun k i q => ⟨q, rfl⟩) (fun k i f v q z => ?_)
      by_cases c11 : k = 11
      · rw [c11] at q z ⊢
        have g6 : hd S 6 i := by
          have g := q.1
          unfold us at g
          rcases g with y | y | y | y | y | y | y
          all_goals first | exact y.2 | omega
        have i0 := hA.hd g6
        have z : (if f < 4 then some (pv (s_frameOf (s_destroy (s_rmA S (p : Int)) 6 (S 1 p)) i f) (A 8 (s_frameOf (s_destroy (s_rmA S (p : Int)) 6 (S 1 p)) i f))) else none) = some v := z
        by_cases f4 : f < 4
        · rw [if_pos f4] at z
          unfold lfG
          by_cases c : i = S 1 p
          · rw [if_pos ⟨rfl, c, f4⟩]
            have no : s_frameOf (s_destroy (s_rmA S (p : Int)) 6 (S 1 p)) i f = -1 := frameOf_no (fun q hq g1 g2 => by
              rw [t7 q hq] at g2
              split at g2 <;> omega)
            rw [no] at z
            exact z
          · rw [if_neg (fun x => c x.2.1), if_neg (by omega), hF _ _ _ (by omega) (by omega)]
            show (if f < 4 then some (pv (s_frameOf (s_rmA S (p : Int)) i f) (A 8 (s_frameOf (s_rmA S (p : Int)) i f))) else none) = some v
            rw [if_pos f4]
            have le : s_frameOf (s_destroy (s_rmA S (p : Int)) 6 (S 1 p)) i f = s_frameOf (s_rmA S (p : Int)) i f := by
              unfold s_frameOf
              refine frL_cg2 (fun y hy => ?_) 128 0 (by omega)
              rw [tj 0 (by omega) (by omega), tj 8 (by omega) (by omega), t7 y hy, e7]
              by_cases d : S 7 y = S 1 p
              · rw [if_pos d]
                constructor <;> intro x <;> omega
              · rw [if_neg d]
            rw [← le]; exact z
        · rw [if_neg f4] at z; cases z
      by_cases c8 : k = 8
      · rw [c8] at q z ⊢
        have lv := u1_8 i q
        obtain ⟨n1, n2⟩ := lv1 i.toNat lv.2.2
        have z : Fcap A (s_destroy (s_rmA S (p : Int)) 6 (S 1 p)) i f = some v := z
        unfold lfG
        rw [if_neg (by omega), hF 8 i f (by omega) (by omega)]
        revert z
        refine Fcap_all (p := fun f v => (if 8 = 8 ∧ f = 5 ∧ s_rmA S (p : Int) 7 i.toNat = S 1 p ∧ s_rmA S (p : Int) 8 i.toNat < ((4 : Nat) : Int) then some Value.null else xFv A (s_rmA S (p : Int)) (lid S) 8 i f) = some v) ?_ ?_ ?_ ?_ ?_ ?_ (fun y => ?_) ?_ f v
        · rw [if_neg (by omega)]
          show Fcap A (s_rmA S (p : Int)) i 0 = _
          unfold Fcap thA
          rw [tj 0 (by omega) (by omega), tj 1 (by omega) (by omega)]; rfl
        · rw [if_neg (by omega), tj 2 (by omega) (by omega)]; rfl
        · rw [if_neg (by omega), tj 3 (by omega) (by omega)]; rfl
        · rw [if_neg (by omega), tj 4 (by omega) (by omega)]; rfl
        · rw [if_neg (by omega)]; rfl
        · rw [t7 _ (by omega), e7]
          by_cases c : S 7 i.toNat = S 1 p
          · have : s_rmA S (p : Int) 8 i.toNat < ((4 : Nat) : Int) := by
              rw [e8]
              have := (mB.1 i.toNat (by omega) (by rw [← n2]; exact lv.2.2)).resolve_left (by omega)
              omega
            rw [if_pos c, if_pos ⟨rfl, rfl, c, this⟩]; rfl
          · rw [if_neg c, if_neg (fun x => c x.2.2.1)]
            show some (pv (s_rmA S (p : Int) 7 i.toNat) (A 6 (s_rmA S (p : Int) 7 i.toNat))) = _
            rw [e7]
        · rw [t7 _ (by omega)] at y
          have c : ¬ S 7 i.toNat = S 1 p := fun x => by rw [if_pos x] at y; omega
          rw [if_neg c] at y
          rw [if_neg (by omega), tj 8 (by omega) (by omega)]
          show Fcap A (s_rmA S (p : Int)) i 6 = _
          unfold Fcap
          rw [e7]
          simp [y]
        · rw [if_neg (by omega), tj 9 (by omega) (by omega)]; rfl
      have lf : lfG F' (s_rmA S (p : Int)) (S 1 p) 4 k i f = F' k i f := by
        unfold lfG
        rw [if_neg (fun x => c11 x.1), if_neg (fun x => c8 x.1)]
      rw [lf]
      by_cases c10 : k = 10
      · rw [c10] at q z ⊢
        have g5 : hd S 5 i := by
          have g := q.1
          unfold us at g
          rcases g with y | y | y | y | y | y | y
          all_goals first | exact y.2 | omega
        have i0 := hA.hd g5
        have z : (if f < 4 then some (pv (s_leafOf (s_destroy (s_rmA S (p : Int)) 6 (S 1 p)) i f) (A 6 (s_leafOf (s_destroy (s_rmA S (p : Int)) 6 (S 1 p)) i f))) else none) = some v := z
        have le : s_leafOf (s_destroy (s_rmA S (p : Int)) 6 (S 1 p)) i f = s_leafOf (s_rmA S (p : Int)) i f := by
          unfold s_leafOf
          refine lfL_cg2 (fun y hy => ⟨?_, hhT _⟩) i f 32 0 (by omega)
          by_cases d : hd (s_destroy (s_rmA S (p : Int)) 6 (S 1 p)) 6 (4 * (y : Int))
          · have ne : y ≠ (S 1 p / 4).toNat := fun x => hx (by
              have := (hhT _).1 d
              rw [x, lu] at this
              exact this)
            exact Or.inl ⟨d, by rw [t25 y hy, if_neg ne, e25], by rw [tj 26 (by omega) (by omega)]⟩
          · exact Or.inr d
        rw [le] at z
        rw [← hFF]
        by_cases c : S 25 (S 1 p / 4).toNat < 0
        · rw [if_pos c]
          unfold rmO
          rw [if_neg (fun x => by omega)]
          exact z
        · rw [if_neg c, fup_n (by omega)]
          by_cases d : i = S 25 (S 1 p / 4).toNat ∧ f = (S 26 (S 1 p / 4).toNat).toNat
          · have mm := m1 c
            have no : s_leafOf (s_rmA S (p : Int)) i f = -1 := leafOf_no (fun j j1 j2 j3 j4 => by
              rw [e25] at j3
              rw [e26] at j4
              have ne : j ≠ (S 1 p / 4).toNat := fun x => hx (by rw [x, lu] at j2; exact j2)
              exact mA.2 j (S 1 p / 4).toNat j1 ll ne (rh (by omega) j2) (by rw [lu]; exact h6) (by omega) (by omega) (by omega))
            rw [d.1, d.2, fup_e]
            rw [no] at z
            split at z
            · exact z
            · cases z
          · rw [fup_n (fun x => d ⟨x.2.1, x.2.2⟩)]
            unfold rmO
            rw [if_neg (fun x => d ⟨x.2.2.2.1, by omega⟩)]
            exact z
      by_cases c6 : k = 6
      · rw [c6] at q z ⊢
        have g6 := u1_hd q (by omega) (by omega)
        have a1 : i % 4 = 0 := (hd_al hA (by omega) g6).1
        have a2 := hA.hd g6
        have lli : (i / 4).toNat < 32 := by omega
        have z : Fthi A (s_destroy (s_rmA S (p : Int)) 6 (S 1 p)) 6 i f = some v := z
        have fo : ∀ g, g ≠ 2 → F' 6 i g = Fthi A (s_rmA S (p : Int)) 6 i g := fun g hg => hF 6 i g (by omega) (by omega)
        revert z
        refine Fthi_6 (p := fun f v => F' 6 i f = some v) ?_ ?_ ?_ (fun y => ?_) ?_ f v
        · rw [fo 0 (by omega)]; rfl
        · rw [fo 1 (by omega)]; rfl
        · rw [t25 _ lli, ← hFF]
          by_cases e : i = S 1 p
          · have tv : (if (i / 4).toNat = (S 1 p / 4).toNat then -1 else S 25 (i / 4).toNat) = -1 := if_pos (by rw [e])
            rw [tv]
            by_cases c : S 25 (S 1 p / 4).toNat < 0
            · rw [if_pos c, rmO_k (by omega), e]
              show some (pv (s_rmA S (p : Int) 25 (S 1 p / 4).toNat) (A 5 (s_rmA S (p : Int) 25 (S 1 p / 4).toNat))) = _
              rw [e25, pv_n c]; rfl
            · rw [if_neg c, e, fup_e]; rfl
          · have tv : (if (i / 4).toNat = (S 1 p / 4).toNat then -1 else S 25 (i / 4).toNat) = S 25 (i / 4).toNat := if_neg (by omega)
            rw [tv]
            have rr : rmO A S (lid S) p 6 i 2 = some (pv (S 25 (i / 4).toNat) (A 5 (S 25 (i / 4).toNat))) := by
              rw [rmO_k (by omega)]
              show some (pv (s_rmA S (p : Int) 25 (i / 4).toNat) (A 5 (s_rmA S (p : Int) 25 (i / 4).toNat))) = _
              rw [e25]
            by_cases c : S 25 (S 1 p / 4).toNat < 0
            · rw [if_pos c, rr]
            · rw [if_neg c, fup_n (fun x => e x.2.1), fup_n (by omega), rr]
        · rw [t25 _ lli] at y
          have e : ¬ (i / 4).toNat = (S 1 p / 4).toNat := fun x => by rw [if_pos x] at y; omega
          rw [if_neg e] at y
          rw [fo 3 (by omega), tj 26 (by omega) (by omega)]
          unfold Fthi
          rw [e25]
          simp [y]
        · rw [fo 4 (by omega)]; rfl
      · rw [hF k i f c10 (fun x => c6 x.1), ← z]
        by_cases kth : k < 8 ∧ k ≠ 0 ∧ k ≠ 2
        · unfold xFv
          simp only [if_neg kth.2.1, if_neg kth.2.2, if_pos kth.1]
          unfold Fthi
          rw [tj 24 (by omega) (by omega)]
          simp only [c6, if_false]
        · refine (Fv_dep (fun j hj => tj j (fun y => ?_) (fun y => ?_))).symm
          · have := dep_no.2.2.2.2.1 (Or.inl y) hj
            omega
          · have := dep_no.2.2.2.2.2.2.1 (Or.inl y) hj
            omega
    · refine H1.to (fun k i q => ⟨q, rfl⟩) (fun k i f v q z => ?_)
      unfold lfG at z
      rw [if_neg (by omega)] at z
      by_cases c : k = 8 ∧ f = 5 ∧ s_rmA S (p : Int) 7 i.toNat = S 1 p ∧ s_rmA S (p : Int) 8 i.toNat < ((0 : Nat) : Int)
      · exfalso
        rw [c.1] at q
        have lv := u1_8 i q
        obtain ⟨n1, n2⟩ := lv1 i.toNat lv.2.2
        have c3 := c.2.2.1
        rw [e7] at c3
        have c4 := c.2.2.2
        rw [e8] at c4
        have := (mB.1 i.toNat (by omega) (by rw [← n2]; exact lv.2.2)).resolve_left (by omega)
        omega
      · rw [if_neg c] at z; exact z
end RG
