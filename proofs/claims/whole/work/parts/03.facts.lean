/-! ===== FACTS of the tables, by computing ===== -/
def x_GW : List Cond := lw_tbl.filter goodWord
theorem x_GW_in {w : Cond} (h : w ∈ x_GW) : w ∈ lw_tbl := (List.mem_filter.mp h).1
theorem x_GW_good {w : Cond} (h : w ∈ x_GW) : (w.onTables && w.keeps) = true ∨ ∃ ty, w = .arrayClass ty := good_of_word (List.mem_filter.mp h).2
theorem x_lookup {α β : Type} [BEq α] [LawfulBEq α] {l : List (α × β)} {a : α} {b : β} (h : l.lookup a = some b) : (a, b) ∈ l := by
  induction l with
  | nil => cases h
  | cons q l ih =>
    obtain ⟨c, d⟩ := q
    rw [List.lookup_cons] at h
    split at h
    next e =>
      have := eq_of_beq e
      subst this
      cases h
      exact List.mem_cons_self
    next => exact List.mem_cons_of_mem _ (ih h)
theorem xcl_lt {t : Nat} {q : vw_C} (h : xcl[t]? = some q) : t < 12 := by
  have := (List.getElem?_eq_some_iff.mp h).1
  simpa [xcl] using this
def x_okC (t : Nat) : Bool := (u_ws (x_cn t) (x_T t) (x_N t)).all (fun w => decide (w ∈ x_GW)) && (List.range (x_N t)).all (fun k => decide (parseFieldDescriptor (x_T t k).2.2.1 = some (x_ty t k)) && (List.range (x_N t)).all (fun j => decide (j = k) || decide ((x_T t k).2.1 ≠ (x_T t j).2.1)))
set_option maxRecDepth 100000 in
theorem x_okC_all : (List.range 12).all x_okC = true := by decide +kernel
theorem x_cls_ok {t : Nat} (hc : xcl[t]? = some (x_cn t, x_T t, x_N t)) : (∀ w ∈ u_ws (x_cn t) (x_T t) (x_N t), w ∈ x_GW) ∧ (∀ k, k < x_N t → parseFieldDescriptor (x_T t k).2.2.1 = some (x_ty t k)) ∧ (∀ a, a < x_N t → ∀ b, b < x_N t → a ≠ b → (x_T t a).2.1 ≠ (x_T t b).2.1) := by
  have h := List.all_eq_true.mp x_okC_all t (List.mem_range.mpr (xcl_lt hc))
  simp only [x_okC, Bool.and_eq_true, List.all_eq_true, decide_eq_true_eq, Bool.or_eq_true, List.mem_range] at h
  exact ⟨h.1, fun k hk => (h.2 k hk).1, fun a ha b hb hab => ((h.2 a ha).2 b hb).resolve_left (fun e => hab e.symm)⟩
theorem xcl_at {t : Nat} (h : t < 12) : xcl[t]? = some (x_cn t, x_T t, x_N t) := by
  simp [xcl, h]
def x_okF (q : (Nat × Nat) × Nat × List Nat × Nat × Nat × String) : Bool := q.2.2.1.all (fun t => decide (t < 20) && (decide (q.2.1 < x_N t) && (decide (Cond.fieldLink (x_cn q.1.1) q.1.2 q.2.2.2.2.2 (x_T t q.2.1).2.1 (x_T t q.2.1).2.2.1 ∈ x_GW) && ((decide (q.2.2.2.2.2 = (x_T t q.2.1).1) || decide (Cond.sameField q.2.2.2.2.2 (x_T t q.2.1).1 (x_T t q.2.1).2.1 (x_T t q.2.1).2.2.1 ∈ x_GW)) &&
  (decide (q.2.2.2.2.1 = 0 → (x_T t q.2.1).2.2.2 = false) && (decide (q.2.2.2.2.1 = 1 → (x_T t q.2.1).2.2.2 = true ∧ (x_T t q.2.1).1 = x_cn q.1.1) && decide (x_kd (x_ty t q.2.1) = q.2.2.2.1)))))))
set_option maxRecDepth 100000 in
theorem x_okF_all : x_FL.all x_okF = true := by decide +kernel
theorem x_tF_ok {o idx k kd fin t : Nat} {cs : List Nat} (hF : x_tF o idx = some (k, cs, kd, fin)) (ht : t ∈ cs) : t < 20 ∧ k < x_N t ∧ (∃ ref, Cond.fieldLink (x_cn o) idx ref (x_T t k).2.1 (x_T t k).2.2.1 ∈ x_GW ∧ (ref = (x_T t k).1 ∨ Cond.sameField ref (x_T t k).1 (x_T t k).2.1 (x_T t k).2.2.1 ∈ x_GW)) ∧
    (fin = 0 → (x_T t k).2.2.2 = false) ∧ (fin = 1 → (x_T t k).2.2.2 = true ∧ (x_T t k).1 = x_cn o) ∧ x_kd (x_ty t k) = kd := by
  unfold x_tF at hF
  split at hF
  next k' cs' kd' fin' ref hl =>
    cases hF
    have h := List.all_eq_true.mp x_okF_all _ (x_lookup hl)
    have h2 := List.all_eq_true.mp h t ht
    simp only [Bool.and_eq_true, Bool.or_eq_true, decide_eq_true_eq] at h2
    obtain ⟨a1, a2, a3, a4, a5, a6, a7⟩ := h2
    exact ⟨a1, a2, ⟨ref, a3, a4⟩, a5, a6, a7⟩
  next => cases hF
def x_okN (q : (Nat × Nat) × Nat) : Bool := decide (q.2 < 12) && (decide (Cond.classLink (x_cn q.1.1) q.1.2 (x_cn q.2) ∈ x_GW) && (decide (Cond.instantiable (x_cn q.2) (x_N q.2) ∈ x_GW) && (decide (Cond.initialized (x_cn q.2) ∈ x_GW) && (List.range (x_N q.2)).all (fun j => decide (defaultValue (x_ty q.2 j) = x_df q.2 j)))))
set_option maxRecDepth 100000 in
theorem x_okN_all : x_NL.all x_okN = true := by decide +kernel
theorem x_tN_ok {o idx t : Nat} (h : x_tN o idx = some t) : t < 20 ∧ xcl[t]? = some (x_cn t, x_T t, x_N t) ∧ Cond.classLink (x_cn o) idx (x_cn t) ∈ x_GW ∧ Cond.instantiable (x_cn t) (x_N t) ∈ x_GW ∧ Cond.initialized (x_cn t) ∈ x_GW ∧ ∀ j, j < x_N t → defaultValue (x_ty t j) = x_df t j := by
  have h2 := List.all_eq_true.mp x_okN_all _ (x_lookup h)
  simp only [x_okN, Bool.and_eq_true, decide_eq_true_eq, List.all_eq_true, List.mem_range] at h2
  obtain ⟨a1, a2, a3, a4, a5⟩ := h2
  exact ⟨by omega, xcl_at a1, a2, a3, a4, a5⟩
def x_okA (q : (Nat × Nat) × Nat) : Bool := decide (Cond.classLink (x_cn q.1.1) q.1.2 (x_cn q.2) ∈ x_GW) && decide (q.2 ∈ x_arrs)
set_option maxRecDepth 100000 in
theorem x_okA_all : x_AL.all x_okA = true := by decide +kernel
theorem x_tA_ok {o idx t : Nat} (h : x_tA o idx = some t) : Cond.classLink (x_cn o) idx (x_cn t) ∈ x_GW ∧ t ∈ x_arrs := by
  have h2 := List.all_eq_true.mp x_okA_all _ (x_lookup h)
  simpa only [x_okA, Bool.and_eq_true, decide_eq_true_eq] using h2
theorem x_aty_arr {t : Nat} (h : t ∈ x_arrs) : x_aty (30 + t) = some (.object (x_cn t)) := by
  unfold x_aty
  rw [if_neg (by omega), if_neg (by omega), if_pos ⟨by omega, by rw [Nat.add_sub_cancel_left]; exact h⟩, Nat.add_sub_cancel_left]
theorem x_aty_obj {t : Nat} {ty : FieldType} (h : x_aty t = some ty) (ht : 30 ≤ t) : ∃ C, ty = .object C := by
  unfold x_aty at h
  rw [if_neg (by omega), if_neg (by omega)] at h
  split at h
  next => cases h; exact ⟨_, rfl⟩
  next => cases h
theorem x_aty_ref {t : Nat} {ty : FieldType} (h : x_aty t = some ty) (ht : 30 ≤ t) : ty.isReference = true := by
  obtain ⟨C, rfl⟩ := x_aty_obj h ht
  rfl
theorem x_aty_cls {t : Nat} {ty : FieldType} (h : x_aty (30 + t) = some ty) : ty = .object (x_cn t) := by
  unfold x_aty at h
  rw [if_neg (by omega), if_neg (by omega)] at h
  split at h
  next => cases h; rw [Nat.add_sub_cancel_left]
  next => cases h
def x_okK (q : (Nat × Nat) × Nat) : Bool := decide (Cond.classLink (x_cn q.1.1) q.1.2 (x_cn q.2) ∈ x_GW) && (decide (q.2 ∈ x_things) && decide (q.2 ∈ x_tgts))
set_option maxRecDepth 100000 in
theorem x_okK_all : x_CL.all x_okK = true := by decide +kernel
theorem x_tC_ok {o idx u : Nat} (h : x_tC o idx = some u) : Cond.classLink (x_cn o) idx (x_cn u) ∈ x_GW ∧ u ∈ x_things ∧ u ∈ x_tgts := by
  have h2 := List.all_eq_true.mp x_okK_all _ (x_lookup h)
  simpa only [x_okK, Bool.and_eq_true, decide_eq_true_eq] using h2
theorem x_things_lt {t : Nat} (h : t ∈ x_things) : t < 20 := by
  simp [x_things] at h
  omega
set_option maxRecDepth 100000 in
theorem x_ac_int : Cond.arrayClass .int ∈ x_GW := by decide +kernel
set_option maxRecDepth 100000 in
theorem x_ac_bool : Cond.arrayClass .boolean ∈ x_GW := by decide +kernel
theorem x_inw {w : Cond} (i : Nat) (h : lw_tbl[i]? = some w) (hg : goodWord w = true) : w ∈ x_GW := List.mem_filter.mpr ⟨List.mem_of_getElem? h, hg⟩
/-- what an entry of the method table stands for -/
def x_PM (q : (Nat × Nat) × Nat × Nat) : Prop :=
  (q.2.1 = 0 → xm_ok q.2.2 = true ∧ 1 ≤ xm_na q.2.2 ∧ Cond.methodLink (x_cn q.1.1) q.1.2 (xm_y q.2.2) ∈ x_GW ∧ Cond.instanceMethod (xm_y q.2.2) ∈ x_GW ∧ Cond.selects (x_cn (xm_own q.2.2)) (xm_y q.2.2) (xm_y q.2.2) ∈ x_GW ∧ Cond.initialized (x_cn (xm_own q.2.2)) ∈ x_GW ∧ xm_own q.2.2 < 20 ∧ (parseMethodDescriptor (xm_y q.2.2).desc).map (fun d => d.parameters.length) = some (xm_na q.2.2 - 1)) ∧
  (q.2.1 = 1 → xm_ok q.2.2 = true ∧ 1 ≤ xm_na q.2.2 ∧ Cond.methodLink (x_cn q.1.1) q.1.2 (xm_y q.2.2) ∈ x_GW ∧ Cond.instanceMethod (xm_y q.2.2) ∈ x_GW ∧ Cond.initialized (xm_y q.2.2).cls ∈ x_GW ∧ (xm_y q.2.2).name = "<init>" ∧ xm_rt q.2.2 = none ∧ (parseMethodDescriptor (xm_y q.2.2).desc).map (fun d => d.parameters.length) = some (xm_na q.2.2 - 1)) ∧
  (q.2.1 = 2 → xm_ok q.2.2 = true ∧ Cond.methodLink (x_cn q.1.1) q.1.2 (xm_y q.2.2) ∈ x_GW ∧ Cond.static (xm_y q.2.2) ∈ x_GW ∧ Cond.initialized (xm_y q.2.2).cls ∈ x_GW ∧ (parseMethodDescriptor (xm_y q.2.2).desc).map (fun d => d.parameters.length) = some (xm_na q.2.2)) ∧
  (q.2.1 = 3 → Cond.methodLink (x_cn q.1.1) q.1.2 Lib.objectInit ∈ x_GW) ∧
  (q.2.1 = 4 → xm_ok q.2.2 = true ∧ 1 ≤ xm_na q.2.2 ∧ (q.1.1, q.1.2, q.2.2) ∈ x_nestL ∧ Cond.instanceMethod (xm_y q.2.2) ∈ x_GW ∧ Cond.initialized (xm_y q.2.2).cls ∈ x_GW ∧ (xm_y q.2.2).name = "<init>" ∧ xm_rt q.2.2 = none ∧ (parseMethodDescriptor (xm_y q.2.2).desc).map (fun d => d.parameters.length) = some (xm_na q.2.2 - 1))
theorem xm_ok_of {i : Nat} (h : i < 119) : xm_ok i = true := decide_eq_true h
def x_okY (i : Nat) : Bool := decide (xm_na i ≤ xm_max i) && (decide ((xm_y i).cls = x_cn (xm_own i)) && (decide ((xm_y i).cls ≠ "java/lang/invoke/MethodHandle") && (decide ((xm_y i).cls ≠ "java/lang/invoke/VarHandle") && (plainName (xm_y i).cls && (decide (xm_ini i = true → (xm_y i).name = "<init>") &&
  (decide (xm_rk i = 0 → xm_rt i = none) && (decide (xm_rk i = 1 → xm_rt i = some .int) && (decide (xm_rk i = 2 → xm_rt i = some .boolean) && (match xm_rt i with
  | some (.object _) => true
  | _ => decide (xm_rk i ≠ 3))))))))))
set_option maxRecDepth 100000 in
theorem x_okY_all : (List.range 119).all x_okY = true := by decide +kernel
theorem x_okY_at {i : Nat} (h : xm_ok i = true) : x_okY i = true := List.all_eq_true.mp x_okY_all i (List.mem_range.mpr (of_decide_eq_true h))
theorem xm_facts {i : Nat} (h : xm_ok i = true) : xm_na i ≤ xm_max i ∧ True ∧ ((xm_y i).cls = x_cn (xm_own i) ∧ (xm_y i).cls ≠ "java/lang/invoke/MethodHandle" ∧ (xm_y i).cls ≠ "java/lang/invoke/VarHandle") := by
  have h2 := x_okY_at h
  simp only [x_okY, Bool.and_eq_true, decide_eq_true_eq] at h2
  exact ⟨h2.1, trivial, h2.2.1, h2.2.2.1, h2.2.2.2.1⟩
theorem xm_plain {i : Nat} (h : xm_ok i = true) : plainName (xm_y i).cls = true := by
  have h2 := x_okY_at h
  simp only [x_okY, Bool.and_eq_true] at h2
  exact h2.2.2.2.2.1
theorem xm_init {i : Nat} (h : xm_ok i = true) (h1 : xm_ini i = true) : (xm_y i).name = "<init>" := by
  have h2 := x_okY_at h
  simp only [x_okY, Bool.and_eq_true, decide_eq_true_eq] at h2
  exact h2.2.2.2.2.2.1 h1
theorem xm_rets {i : Nat} (h : xm_ok i = true) : (xm_rk i = 0 → xm_rt i = none) ∧ (xm_rk i = 1 → xm_rt i = some .int) ∧ (xm_rk i = 2 → xm_rt i = some .boolean) ∧ (xm_rk i = 3 → ∃ C, xm_rt i = some (.object C)) := by
  have h2 := x_okY_at h
  simp only [x_okY, Bool.and_eq_true, decide_eq_true_eq] at h2
  obtain ⟨-, -, -, -, -, -, a1, a2, a3, a4⟩ := h2
  refine ⟨a1, a2, a3, fun h3 => ?_⟩
  split at a4
  next C hc => exact ⟨C, hc⟩
  next => exact absurd h3 (of_decide_eq_true a4)
set_option maxRecDepth 100000 in
theorem x_gs_ok : Cond.fieldLink "CapTreeKernel" 87 "CapTreeKernel" "SIZES" "[I" ∈ x_GW := by decide +kernel
theorem x_tG_ok {o i : Nat} (h : x_tG o i = true) : Cond.fieldLink (x_cn o) i "CapTreeKernel" "SIZES" "[I" ∈ x_GW := by
  simp [x_tG] at h
  obtain ⟨rfl, rfl⟩ := h
  exact x_gs_ok
