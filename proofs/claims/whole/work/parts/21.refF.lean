theorem s_destroy_at {S : xS} {k u : Int} {j : Nat} (h : j ≠ 11) (h2 : j ≠ 12) (h3 : j ≠ 10) (h4 : j ≠ 9) (h5 : j ≠ 7) (h6 : j ≠ 25) (h7 : j ≠ 27) (i : Nat) : s_destroy S k u j i = S j i := by
  unfold s_destroy s_rmE s_rmD s_rmC s_rmB
  simp only [mapA_at]
  rw [if_neg (fun q => h7 q.1), if_neg (fun q => h6 q.1), if_neg (fun q => h5 q.1), if_neg (fun q => h4 q.1), if_neg (fun q => h3 q.1), if_neg (fun q => h2 q.1), if_neg (fun q => h q.1)]
theorem s_remove_at {S : xS} {s : Int} {j : Nat} (h : j ≠ 11) (h2 : j ≠ 12) (h3 : j ≠ 10) (h4 : j ≠ 9) (h5 : j ≠ 7) (h6 : j ≠ 25) (h7 : j ≠ 27) (i : Nat) : s_remove S s j i = s_rmA S s j i := by
  unfold s_remove
  split
  · rfl
  · split
    · rfl
    · exact s_destroy_at h h2 h3 h4 h5 h6 h7 i
theorem s_rmA_0 (S : xS) (s : Int) (i : Nat) : s_rmA S s 0 i = if i = s.toNat then -1 else S 0 i := by
  unfold s_rmA
  simp [mapA_at, sset_at]
theorem s_rmA_1 (S : xS) (s : Int) (i : Nat) : s_rmA S s 1 i = S 1 i := by
  unfold s_rmA
  simp [mapA_at, sset_at]
theorem s_rmA_4 (S : xS) (s : Int) {i : Nat} (hi : i < 128) : s_rmA S s 4 i = if S 4 i = s then S 4 s.toNat else S 4 i := by
  unfold s_rmA rm_par
  simp [mapA_at, sset_at, hi]
/-- the tree of capabilities has no circle, its nodes with children are there -/
def TrS (S : xS) : Prop := ∃ rho : Nat → Nat, ∀ q, q < 128 → S 4 q = -1 ∨ (0 ≤ S 4 q ∧ S 4 q < 128 ∧ 0 ≤ S 0 (S 4 q).toNat ∧ rho (S 4 q).toNat < rho q)
theorem TrS.ne {S : xS} (h : TrS S) {s : Int} (h0 : 0 ≤ s) (h1 : s < 128) : S 4 s.toNat ≠ s := by
  obtain ⟨rho, h⟩ := h
  intro e
  rcases h s.toNat (by omega) with g | ⟨g1, g2, g3, g4⟩
  · omega
  · rw [e] at g4
    omega
theorem RgS.rmE {S : xS} (h : RgS S) (k u : Int) : RgS (s_rmE S k u) := by
  refine h.map fun i _ => ?_
  unfold rm_lin; split
  · exact x_r_m1
  · exact h _ _
theorem RgS.remove {S : xS} (h : RgS S) (s : Int) : RgS (s_remove S s) := by
  unfold s_remove
  split
  · exact h.rmA s
  · split
    · exact h.rmA s
    · exact ((((h.rmA s).rmB _ _).rmC _ _).rmD _ _).rmE _ _
/-- what removing needs of the numbers, and keeps -/
def IW (S : xS) : Prop := RgS S ∧ (∀ s, s < 128 → 0 ≤ S 1 s ∧ S 1 s < 128) ∧ TrS S
theorem IW.remove {S : xS} (h : IW S) {s : Int} (h0 : 0 ≤ s) (h1 : s < 128) : IW (s_remove S s) := by
  obtain ⟨hR, hU, hT⟩ := h
  have hne := hT.ne h0 h1
  refine ⟨hR.remove s, fun q hq => ?_, ?_⟩
  · rw [s_remove_at (by omega) (by omega) (by omega) (by omega) (by omega) (by omega) (by omega), s_rmA_1]
    exact hU q hq
  · obtain ⟨rho, h⟩ := hT
    refine ⟨rho, fun q hq => ?_⟩
    have e4 : s_remove S s 4 q = if S 4 q = s then S 4 s.toNat else S 4 q := by
      rw [s_remove_at (by omega) (by omega) (by omega) (by omega) (by omega) (by omega) (by omega), s_rmA_4 S s hq]
    have e0 : ∀ i, s_remove S s 0 i = if i = s.toNat then -1 else S 0 i := by
      intro i
      rw [s_remove_at (by omega) (by omega) (by omega) (by omega) (by omega) (by omega) (by omega), s_rmA_0]
    rw [e4]
    have hs := h s.toNat (by omega)
    have hq4 := h q hq
    split
    next c =>
      rcases hs with g | ⟨g1, g2, g3, g4⟩
      · exact Or.inl g
      · rcases hq4 with f | ⟨f1, f2, f3, f4⟩
        · omega
        · rw [c] at f4
          refine Or.inr ⟨g1, g2, ?_, by omega⟩
          rw [e0, if_neg (by omega)]
          exact g3
    next c =>
      rcases hq4 with f | ⟨f1, f2, f3, f4⟩
      · exact Or.inl f
      · refine Or.inr ⟨f1, f2, ?_, f4⟩
        rw [e0, if_neg (by omega)]
        exact f3
def swI : Nat → Nat → xS → Int → xS × Int
  | 0, _, S, b => (S, b)
  | d + 1, s, S, b => if S 9 s = 0 then swI d (s + 1) S b else swI d (s + 1) (s_remove S s) 1
def swO : Nat → xS → Int → xS
  | 0, S, _ => S
  | d + 1, S, b => if b = 0 then S else swO d (swI 128 0 S 0).1 (swI 128 0 S 0).2
def s_sweep (S : xS) : xS := swO 1000 S 1
theorem swI_in : ∀ (d s : Nat) (S : xS) (b : Int), s + d = 128 → (b = 0 ∨ b = 1) → IW S → IW (swI d s S b).1 ∧ ((swI d s S b).2 = 0 ∨ (swI d s S b).2 = 1) := by
  intro d
  induction d with
  | zero => intro s S b _ hb h; exact ⟨h, hb⟩
  | succ d ih =>
    intro s S b hs hb h
    unfold swI
    split
    · exact ih (s + 1) S b (by omega) hb h
    · exact ih (s + 1) _ 1 (by omega) (Or.inr rfl) (h.remove (by omega) (by omega))
section RG
variable {P : xP} {w : xH} {Q : Option Value → xH → Prop} {mo : Nat}
set_option maxHeartbeats 4000000 in
theorem m_sweep_in {r : Int} : ∀ (d s : Nat) (S : xS) (b : Int), s + d = 128 → (b = 0 ∨ b = 1) → IW S → WP P 91 48 [some (.ref mo), some (.int (xi (swI d s S b).2)), some (.int (xi r)), some (.int (xi 128))] [] (putR w mo (swI d s S b).1) Q →
    WP P 91 19 [some (.ref mo), some (.int (xi b)), some (.int (xi r)), some (.int (xi s))] [] (putR w mo S) Q := by
  intro d
  induction d with
  | zero =>
    intro s S b hs hb h hQ
    have hR := h.1
    obtain rfl : s = 128 := by omega
    simp (disch := first | exact hR _ _ | exact x01a | exact x01b | (unfold x_r; omega) | assumption | omega) only [wM_sweep_19, wM_sweep_20, wM_sweep_23, x_gi_int, x_ga_ref, x_ga_null, List.getElem?_cons_zero, List.getElem?_cons_succ, List.length_cons, List.length_nil, List.set_cons_zero, List.set_cons_succ, Nat.reduceAdd, Nat.reduceLT, xr_lt, xr_eq, xr_toInt, xr_0, xi_add, xi_sub, xi_mul, xr_div, xr_rm, Int.toNat_natCast, bd_t, true_and, and_true, not_false_eq_true, ↓reduceIte, ilt_t, ilt_f, ile_t, x_c1i, x_c1r, x_c1n, and_self, Option.toList_some, Option.toList_none, List.cons_append, List.nil_append, xr_01, xr_00, ieq_f, ieq_t]
    exact hQ
  | succ d ih =>
    intro s S b hs hb h hQ
    have hR := h.1
    unfold swI at hQ
    rw [wM_sweep_19]
    split at hQ
    next c =>
      have i1 := ih (s + 1) S b (by omega) hb h hQ
      simp (disch := first | exact hR _ _ | exact x01a | exact x01b | (unfold x_r; omega) | assumption | omega) only [wM_sweep_20, wM_sweep_23, wM_sweep_26, wM_sweep_27, wM_sweep_30, wM_sweep_31, wM_sweep_32, wM_sweep_35, wM_sweep_36, wM_sweep_37, wM_sweep_38, wM_sweep_42, wM_sweep_45, x_gi_int, x_ga_ref, x_ga_null, List.getElem?_cons_zero, List.getElem?_cons_succ, List.length_cons, List.length_nil, List.set_cons_zero, List.set_cons_succ, Nat.reduceAdd, Nat.reduceLT, xr_lt, xr_eq, xr_toInt, xr_0, xi_add, xi_sub, xi_mul, xr_div, xr_rm, Int.toNat_natCast, bd_t, true_and, and_true, not_false_eq_true, ↓reduceIte, ilt_t, ilt_f, ile_t, x_c1i, x_c1r, x_c1n, and_self, Option.toList_some, Option.toList_none, List.cons_append, List.nil_append, xr_01, xr_00, ieq_f, ieq_t]
      exact i1
    next c =>
      have i1 := ih (s + 1) (s_remove S s) 1 (by omega) (Or.inr rfl) (h.remove (by omega) (by omega)) hQ
      simp (disch := first | exact hR _ _ | exact x01a | exact x01b | (unfold x_r; omega) | assumption | omega) only [wM_sweep_20, wM_sweep_23, wM_sweep_26, wM_sweep_27, wM_sweep_30, wM_sweep_31, wM_sweep_32, wM_sweep_35, wM_sweep_36, wM_sweep_37, wM_sweep_38, x_gi_int, x_ga_ref, x_ga_null, List.getElem?_cons_zero, List.getElem?_cons_succ, List.length_cons, List.length_nil, List.set_cons_zero, List.set_cons_succ, Nat.reduceAdd, Nat.reduceLT, xr_lt, xr_eq, xr_toInt, xr_0, xi_add, xi_sub, xi_mul, xr_div, xr_rm, Int.toNat_natCast, bd_t, true_and, and_true, not_false_eq_true, ↓reduceIte, ilt_t, ilt_f, ile_t, x_c1i, x_c1r, x_c1n, and_self, Option.toList_some, Option.toList_none, List.cons_append, List.nil_append, xr_01, xr_00, ieq_f, ieq_t]
      have hu := h.2.1 s (by omega)
      refine wM_sweep_39 (by simp) rfl rfl (m_remove hR (by omega) (by omega) (h.2.2.ne (by omega) (by omega)) ?_ ?_ ?_)
      · simpa using hu.1
      · simpa using hu.2
      · simp (disch := first | exact hR _ _ | exact x01a | exact x01b | (unfold x_r; omega) | assumption | omega) only [wM_sweep_42, wM_sweep_45, x_gi_int, x_ga_ref, x_ga_null, List.getElem?_cons_zero, List.getElem?_cons_succ, List.length_cons, List.length_nil, List.set_cons_zero, List.set_cons_succ, Nat.reduceAdd, Nat.reduceLT, xr_lt, xr_eq, xr_toInt, xr_0, xi_add, xi_sub, xi_mul, xr_div, xr_rm, Int.toNat_natCast, bd_t, true_and, and_true, not_false_eq_true, ↓reduceIte, ilt_t, ilt_f, ile_t, x_c1i, x_c1r, x_c1n, and_self, Option.toList_some, Option.toList_none, List.cons_append, List.nil_append, xr_01, xr_00, ieq_f, ieq_t]
        exact i1
set_option maxHeartbeats 4000000 in
theorem m_sweep_out : ∀ (d r : Nat) (S : xS) (b : Int) (l3 : Option Value), r + d = 1000 → (b = 0 ∨ b = 1) → IW S → Q none (putR w mo (swO d S b)) →
    WP P 91 4 [some (.ref mo), some (.int (xi b)), some (.int (xi r)), l3] [] (putR w mo S) Q := by
  intro d
  induction d with
  | zero =>
    intro r S b l3 hr hb h hQ
    have hR := h.1
    obtain rfl : r = 1000 := by omega
    simp (disch := first | exact hR _ _ | exact x01a | exact x01b | (unfold x_r; omega) | assumption | omega) only [wM_sweep_4, wM_sweep_5, wM_sweep_8, wM_sweep_54, x_gi_int, x_ga_ref, x_ga_null, List.getElem?_cons_zero, List.getElem?_cons_succ, List.length_cons, List.length_nil, List.set_cons_zero, List.set_cons_succ, Nat.reduceAdd, Nat.reduceLT, xr_lt, xr_eq, xr_toInt, xr_0, xi_add, xi_sub, xi_mul, xr_div, xr_rm, Int.toNat_natCast, bd_t, true_and, and_true, not_false_eq_true, ↓reduceIte, ilt_t, ilt_f, ile_t, x_c1i, x_c1r, x_c1n, and_self, Option.toList_some, Option.toList_none, List.cons_append, List.nil_append, xr_01, xr_00, ieq_f, ieq_t]
    exact hQ
  | succ d ih =>
    intro r S b l3 hr hb h hQ
    have hR := h.1
    unfold swO at hQ
    rw [wM_sweep_4]
    split at hQ
    next c =>
      simp (disch := first | exact hR _ _ | exact x01a | exact x01b | (unfold x_r; omega) | assumption | omega) only [wM_sweep_5, wM_sweep_8, wM_sweep_11, wM_sweep_12, wM_sweep_54, x_gi_int, x_ga_ref, x_ga_null, List.getElem?_cons_zero, List.getElem?_cons_succ, List.length_cons, List.length_nil, List.set_cons_zero, List.set_cons_succ, Nat.reduceAdd, Nat.reduceLT, xr_lt, xr_eq, xr_toInt, xr_0, xi_add, xi_sub, xi_mul, xr_div, xr_rm, Int.toNat_natCast, bd_t, true_and, and_true, not_false_eq_true, ↓reduceIte, ilt_t, ilt_f, ile_t, x_c1i, x_c1r, x_c1n, and_self, Option.toList_some, Option.toList_none, List.cons_append, List.nil_append, xr_01, xr_00, ieq_f, ieq_t]
      exact hQ
    next c =>
      obtain ⟨g1, g2⟩ := swI_in 128 0 S 0 rfl (Or.inl rfl) h
      have i1 := ih (r + 1) (swI 128 0 S 0).1 (swI 128 0 S 0).2 (some (.int (xi 128))) (by omega) g2 g1 hQ
      simp (disch := first | exact hR _ _ | exact x01a | exact x01b | (unfold x_r; omega) | assumption | omega) only [wM_sweep_5, wM_sweep_8, wM_sweep_11, wM_sweep_12, wM_sweep_15, wM_sweep_16, wM_sweep_17, wM_sweep_18, x_gi_int, x_ga_ref, x_ga_null, List.getElem?_cons_zero, List.getElem?_cons_succ, List.length_cons, List.length_nil, List.set_cons_zero, List.set_cons_succ, Nat.reduceAdd, Nat.reduceLT, xr_lt, xr_eq, xr_toInt, xr_0, xi_add, xi_sub, xi_mul, xr_div, xr_rm, Int.toNat_natCast, bd_t, true_and, and_true, not_false_eq_true, ↓reduceIte, ilt_t, ilt_f, ile_t, x_c1i, x_c1r, x_c1n, and_self, Option.toList_some, Option.toList_none, List.cons_append, List.nil_append, xr_01, xr_00, ieq_f, ieq_t]
      refine m_sweep_in 128 0 S 0 rfl (Or.inl rfl) h ?_
      simp (disch := first | exact hR _ _ | exact x01a | exact x01b | (unfold x_r; omega) | assumption | omega) only [wM_sweep_48, wM_sweep_51, x_gi_int, x_ga_ref, x_ga_null, List.getElem?_cons_zero, List.getElem?_cons_succ, List.length_cons, List.length_nil, List.set_cons_zero, List.set_cons_succ, Nat.reduceAdd, Nat.reduceLT, xr_lt, xr_eq, xr_toInt, xr_0, xi_add, xi_sub, xi_mul, xr_div, xr_rm, Int.toNat_natCast, bd_t, true_and, and_true, not_false_eq_true, ↓reduceIte, ilt_t, ilt_f, ile_t, x_c1i, x_c1r, x_c1n, and_self, Option.toList_some, Option.toList_none, List.cons_append, List.nil_append, xr_01, xr_00, ieq_f, ieq_t]
      exact i1
theorem m_sweep {S : xS} (h : IW S) (hQ : Q none (putR w mo (s_sweep S))) : WP P 91 0 [some (.ref mo), none, none, none] [] (putR w mo S) Q := by
  have hR := h.1
  simp (disch := first | exact hR _ _ | exact x01a | exact x01b | (unfold x_r; omega) | assumption | omega) only [wM_sweep_0, wM_sweep_1, wM_sweep_2, wM_sweep_3, x_gi_int, x_ga_ref, x_ga_null, List.getElem?_cons_zero, List.getElem?_cons_succ, List.length_cons, List.length_nil, List.set_cons_zero, List.set_cons_succ, Nat.reduceAdd, Nat.reduceLT, xr_lt, xr_eq, xr_toInt, xr_0, xi_add, xi_sub, xi_mul, xr_div, xr_rm, Int.toNat_natCast, bd_t, true_and, and_true, not_false_eq_true, ↓reduceIte, ilt_t, ilt_f, ile_t, x_c1i, x_c1r, x_c1n, and_self, Option.toList_some, Option.toList_none, List.cons_append, List.nil_append, xr_01, xr_00, ieq_f, ieq_t]
  exact m_sweep_out 1000 0 S 1 none rfl (Or.inr rfl) h hQ
end RG
