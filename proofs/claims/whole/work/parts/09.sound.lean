/-! ===== THE SMALL MACHINE IS SOUND ===== -/
abbrev xD : Type := (Nat → ClassId) × (Nat → Nat → Nat) × (Nat → ClassId)
/-- the cell at a, of tag t and length n, holds F -/
def x_at (D : xD) (a t n : Nat) (F : Nat → Value) (H : Heap) : Prop :=
  (t < 20 → xcl[t]? = some (x_cn t, x_T t, x_N t) ∧ n = x_N t ∧ t_OB a (D.1 t) n (D.2.1 t) H F) ∧ (20 ≤ t → (∃ ty, x_aty t = some ty) ∧ H[a]? = some (arrV (D.2.2 t) n F))
def x_ok (D : xD) (b0 : Nat) (w : xH) (H : Heap) : Prop := H.size = x_sz w ∧ ∀ a t n, x_tg w a = some (t, n) → b0 ≤ a ∧ a < x_sz w ∧ x_at D a t n (x_fd w a) H
/-- what is known of the tables, and of cells that nobody writes -/
def x_K (D : xD) (P : xP) (b0 : Nat) (U : State) : Prop :=
  va_K (D.1, D.2.1) xcl [] U ∧ (∀ t ty, x_aty t = some ty → ArrOfT U (D.2.2 t) ty ∧ va_RA U (D.2.2 t) ty) ∧ (∀ t ∈ x_arrs, va_AO (x_cn t) U) ∧ (∀ t ∈ x_things, ∀ u ∈ x_tgts, t ≠ u → va_Nc (x_cn t) (x_cn u) U) ∧
  va_Z "CapTreeKernel" "SIZES" "[I" (.ref P.2.1) (fun q => b0 ≤ q) U U.heap ∧
  (∀ a n f, P.1 a = some (n, f) → ∃ cell : Cell, a < b0 ∧ U.heap[a]? = some cell ∧ U.isArrayOf cell .int ∧ cell.vm ≠ .unknown ∧ n ≤ cell.slots.size ∧ (a = P.2.2 → cell.slots.size = n) ∧ ∀ j : Nat, j < n → cell.slots[j]? = some (.int (f j))) ∧ b0 ≤ U.heap.size ∧ ∀ q ∈ x_nestL, va_Nw (.methodLinkNest (x_cn q.1) q.2.1 (xm_y q.2.2) "CapTreeKernel") U
theorem x_K.moved {D : xD} {P : xP} {b0 : Nat} {u U : State} (hvm : u.vm.Alike U.vm) (hz : u.heap.size ≤ U.heap.size) (hh : ∀ q : Nat, q < u.heap.size → ¬ b0 ≤ q → U.heap[q]? = u.heap[q]?) (hn : ∀ (a : String) (i : Nat) (x : MethodName) (h : String), va_Nw (.methodLinkNest a i x h) u → va_Nw (.methodLinkNest a i x h) U) (h : x_K D P b0 u) : x_K D P b0 U := by
  obtain ⟨h1, h2, h3, h4, h5, h6, h7, h8⟩ := h
  refine ⟨va_K.moved hvm h1, fun t ty ht => ⟨arrOfT_moved hvm (h2 t ty ht).1, (h2 t ty ht).2.moved hvm⟩, fun t ht => va_AO.moved hvm (h3 t ht), fun t ht u hu hne => va_Nc.moved hvm (h4 t ht u hu hne), (va_Z.moved hvm h5).kept hh, fun a n f ha => ?_, Nat.le_trans h7 hz, fun q hq => hn _ _ _ _ (h8 q hq)⟩
  obtain ⟨cell, g1, g2, g3, g4⟩ := h6 a n f ha
  exact ⟨cell, g1, by rw [hh a (by omega) (by omega)]; exact g2, State.isArrayOf_alike hvm g3, g4⟩
def x_kn (lo : List (Option Value)) : List (Nat × Value) := (List.range lo.length).filterMap (fun j => match lo[j]? with
  | some (some v) => some (j, v)
  | _ => none)
theorem x_kn_mem {lo : List (Option Value)} {j : Nat} {v : Value} : (j, v) ∈ x_kn lo ↔ lo[j]? = some (some v) := by
  constructor
  · intro h
    obtain ⟨i, hi, he⟩ := List.mem_filterMap.mp h
    split at he
    next u hu =>
      cases he
      exact hu
    next => cases he
  · intro h
    refine List.mem_filterMap.mpr ⟨j, List.mem_range.mpr (List.getElem?_eq_some_iff.mp h).1, ?_⟩
    rw [h]
/-- the locals -/
def x_lr (ls : Array Slot) (lo : List (Option Value)) : Prop := lv_has ls lo.length (x_kn lo) ∧ ∀ (i : Nat) (v : Value), lo[i]? = some (some v) → v.category = 1
theorem x_lr.get {ls : Array Slot} {lo : List (Option Value)} (h : x_lr ls lo) {i : Nat} {v : Value} (hi : lo[i]? = some (some v)) : ls[i]? = some (.val v) := h.1.2.2 (i, v) (x_kn_mem.mpr hi)
theorem x_lr.set {ls' : Array Slot} {lo : List (Option Value)} {i : Nat} {v : Value} (hi : i < lo.length) (hc : v.category = 1) (hl : ∀ (j : Nat) (u : Value), lo[j]? = some (some u) → u.category = 1)
    (h : lv_has ls' lo.length ((i, v) :: (x_kn lo).filter (fun q => !(q.1 == i) && !(q.1 + 1 == i && q.2.category == 2)))) : x_lr ls' (lo.set i (some v)) := by
  refine ⟨⟨by rw [List.length_set]; exact h.1, h.2.1, fun q hq => ?_⟩, fun j u hj => ?_⟩
  · obtain ⟨j, u⟩ := q
    have hj := x_kn_mem.mp hq
    by_cases hji : j = i
    · subst hji
      rw [List.getElem?_set_self hi] at hj
      cases hj
      exact h.2.2 _ List.mem_cons_self
    · rw [List.getElem?_set_ne (Ne.symm hji)] at hj
      have hu := hl j u hj
      refine h.2.2 (j, u) (List.mem_cons_of_mem _ (List.mem_filter.mpr ⟨x_kn_mem.mpr hj, ?_⟩))
      simp [hji, hu]
  · by_cases hji : j = i
    · subst hji
      rw [List.getElem?_set_self hi] at hj
      cases hj
      exact hc
    · rw [List.getElem?_set_ne (Ne.symm hji)] at hj
      exact hl j u hj
theorem x_cat1_cat {v : Value} (h : x_cat1 v = true) : v.category = 1 := by cases v <;> first | rfl | (simp [x_cat1] at h)
theorem x_fit_cat {kd : Nat} {v : Value} (h : x_fit kd v = true) : v.category = 1 := by
  unfold x_fit at h
  split at h <;> first | rfl | (simp at h)
theorem x_put_fd_self (w : xH) (a k : Nat) (v : Value) (j : Nat) : x_fd (x_put w a k v) a j = updV (x_fd w a) k v j := by
  simp [x_fd_put, updV]
theorem x_ok.put {D : xD} {b0 : Nat} {w : xH} {H H1 : Heap} {a t n k : Nat} {v : Value} (h : x_ok D b0 w H) (ht : x_tg w a = some (t, n)) (hz : H1.size = H.size) (ho : ∀ q : Nat, q ≠ a → H1[q]? = H[q]?) (ha : x_at D a t n (updV (x_fd w a) k v) H1) : x_ok D b0 (x_put w a k v) H1 := by
  refine ⟨by rw [hz]; exact h.1, fun b t' n' hb => ?_⟩
  rw [x_tg_put] at hb
  obtain ⟨g1, g2, g3⟩ := h.2 b t' n' hb
  refine ⟨g1, g2, ?_⟩
  by_cases hba : b = a
  · subst hba
    cases ht.symm.trans hb
    rw [show x_fd (x_put w b k v) b = updV (x_fd w b) k v from funext fun j => x_put_fd_self w b k v j]
    exact ha
  · rw [show x_fd (x_put w a k v) b = x_fd w b from funext fun j => by rw [x_fd_put, if_neg (fun q => hba q.1)]]
    exact ⟨fun q => ⟨(g3.1 q).1, (g3.1 q).2.1, (g3.1 q).2.2.kept (ho b hba)⟩, fun q => ⟨(g3.2 q).1, by rw [ho b hba]; exact (g3.2 q).2⟩⟩
theorem x_ok.new {D : xD} {b0 : Nat} {w : xH} {H H1 : Heap} {t n : Nat} {F : Nat → Value} (h : x_ok D b0 w H) (hb : b0 ≤ x_sz w) (hz : H1.size = x_sz w + 1) (ho : ∀ q : Nat, q < x_sz w → H1[q]? = H[q]?) (ha : x_at D (x_sz w) t n F H1) : x_ok D b0 (x_new w t n F) H1 := by
  refine ⟨hz, fun b t' n' hb' => ?_⟩
  rw [x_tg_new] at hb'
  rw [x_sz_new]
  by_cases hbs : b = x_sz w
  · subst hbs
    rw [if_pos rfl] at hb'
    cases hb'
    refine ⟨hb, Nat.lt_succ_self _, ?_⟩
    rw [show x_fd (x_new w t n F) (x_sz w) = F from funext fun j => by rw [x_fd_new, if_pos rfl]]
    exact ha
  · rw [if_neg hbs] at hb'
    obtain ⟨g1, g2, g3⟩ := h.2 b t' n' hb'
    refine ⟨g1, by omega, ?_⟩
    rw [show x_fd (x_new w t n F) b = x_fd w b from funext fun j => by rw [x_fd_new, if_neg hbs]]
    exact ⟨fun q => ⟨(g3.1 q).1, (g3.1 q).2.1, (g3.1 q).2.2.kept (ho b g2)⟩, fun q => ⟨(g3.2 q).1, by rw [ho b g2]; exact (g3.2 q).2⟩⟩
section XS
variable {p : Program} {l : Launch} {e : Env} {R : Room} {s : State} {m : MethodId} {args : Array Value} {below : List Frame} {meth : Method} {c : Code} {H : Heap} {locs : List Loc} {cells slots : Nat} {Q : State → Prop}
variable {D : xD} {P : xP} {b0 mi pc : Nat} {lo lo' : List (Option Value)} {st st' : List Value} {w w' : xH} {ls : Array Slot} {pc' : Nat}
/-- what stands fast while method mi runs -/
def x_Cx (p : Program) (s : State) (m : MethodId) (args : Array Value) (meth : Method) (c : Code) (D : xD) (P : xP) (b0 mi : Nat) : Prop :=
  p.tables.exec = Jvm.exec ∧ c.code = xm_b mi ∧ c.maxLocals = xm_max mi ∧ s.vm.findClass (x_cn (xm_own mi)) = some m.cls ∧ (∀ w ∈ x_GW, w.before args s = true) ∧ x_K D P b0 s ∧ (xm_ini mi = true → meth.name = "<init>")
theorem x_field (C : x_Cx p s m args meth c D P b0 mi) {idx k kd t n a : Nat} {cs : List Nat} {fin : Nat} (hF : x_tF (xm_own mi) idx = some (k, cs, kd, fin)) (ht : t ∈ cs) {F : Nat → Value} (hat : x_at D a t n F H) :
    t < 20 ∧ n = x_N t ∧ k < n ∧ xcl[t]? = some (x_cn t, x_T t, x_N t) ∧ ∃ (ref : String) (cell : Cell) (cf : ClassId) (kf kC : Class) (fi : Nat) (f : Field), (Cond.fieldLink (x_cn (xm_own mi)) idx ref (x_T t k).2.1 (x_T t k).2.2.1).before args s = true ∧
      s.fieldFound? (x_T t k).1 (x_T t k).2.1 (x_T t k).2.2.1 = some (cf, kf, fi, f) ∧ s.fieldFound? ref (x_T t k).2.1 (x_T t k).2.2.1 = some (cf, kf, fi, f) ∧ f.isStatic = false ∧ f.slot = D.2.1 t k ∧
      H[a]? = some cell ∧ cell.cls = D.1 t ∧ cell.vm = .none ∧ (∀ j, j < n → cell.slots[D.2.1 t j]? = some (F j)) ∧ s.vm.findClass (x_cn t) = some (D.1 t) ∧ s.vm.classes[D.1 t]? = some kC ∧ kC.kind = .ordinary := by
  obtain ⟨hx, hb, hml, hown, hts, hK, hin⟩ := C
  obtain ⟨ht20, hk, ⟨ref, hlink, hsame⟩, -, -, -⟩ := x_tF_ok hF ht
  obtain ⟨hc, hn, cell, q1, q2, q3, q4⟩ := hat.1 ht20
  obtain ⟨hS', hfc, kC, hkC, hkind⟩ := hK.1.1 t _ hc
  obtain ⟨cf, kf, fi, f, hi, hsl⟩ := hS' k hk
  refine ⟨ht20, hn, by rw [hn]; exact hk, hc, ref, cell, cf, kf, kC, fi, f, hts _ hlink, hi, ?_, (u_facts hfc hkC (u_lays hts (x_cls_ok hc).1 hk) hi).1, hsl, q1, q2, q3, q4, hfc, hkC, hkind⟩
  rcases hsame with e | hm
  · rw [e]; exact hi
  · exact u_same (hts _ hm) _ hi
theorem x_S_put {A : Nat → Prop} {H0 H1 : Heap} {a k : Nat} (h : va_S A H0 H locs) (z : H1.size = H.size) (oq : ∀ q : Nat, q ≠ a → H1[q]? = H[q]?) (ha : A a) : va_S A H0 H1 (locs ++ [⟨a, k⟩]) := h.put z oq ha
theorem x_S_new {H0 H1 : Heap} (h : va_S (fun q => b0 ≤ q) H0 H locs) (z : H1.size = H.size + 1) (oq : ∀ q : Nat, q < H.size → H1[q]? = H[q]?) : va_S (fun q => b0 ≤ q) H0 H1 locs :=
  ⟨Nat.le_trans h.1 (by omega), fun q h1 h2 => (oq q (Nat.lt_of_lt_of_le h1 h.1)).trans (h.2.1 q h1 h2), h.2.2⟩
/-- a read of a field -/
theorem x_s_get (C : x_Cx p s m args meth c D P b0 mi) (hok : x_ok D b0 w H) {idx k kd t n a : Nat} {cs : List Nat} {fin : Nat} {r : List Value} (hF : x_tF (xm_own mi) idx = some (k, cs, kd, fin)) (ht : t ∈ cs) (htg : x_tg w a = some (t, n)) (hd : decode (xm_b mi) pc = .ok (.getfield idx, 3))
    (kk : W p l e R s m args below meth c H locs cells slots Q (F0 m (pc + 3) ls (x_fd w a k :: r))) : W p l e R s m args below meth c H locs cells slots Q (F0 m pc ls (.ref a :: r)) := by
  obtain ⟨-, -, hk, -, ref, cell, cf, kf, kC, fi, f, hlink, -, hi, hst, hsl, q1, q2, q3, q4, -⟩ := x_field C hF ht (hok.2 a t n htg).2.2
  exact W.getf C.1 C.2.1 C.2.2.2.1 hlink hi hst q1 (by rw [q3]; exact fun h => by cases h) (v := x_fd w a k) (by rw [hsl]; exact q4 k hk) rfl rfl hd kk
theorem x_kd_fit {ty : FieldType} {kd : Nat} {v : Value} (hk : x_kd ty = kd) (h : x_fit kd v = true) : narrow ty v = v ∧ fits ty v = true := by
  subst hk
  cases ty <;> cases v <;> simp [x_kd, x_fit] at h <;> first | exact ⟨rfl, rfl⟩ | (rcases h with rfl | rfl <;> exact ⟨rfl, rfl⟩)
/-- a write of a field -/
theorem x_s_put (C : x_Cx p s m args meth c D P b0 mi) (hok : x_ok D b0 w H) (hS : va_S (fun q => b0 ≤ q) s.heap H locs) {idx k kd t n a : Nat} {cs : List Nat} {fin : Nat} {r : List Value} {v : Value} (hF : x_tF (xm_own mi) idx = some (k, cs, kd, fin)) (ht : t ∈ cs) (htg : x_tg w a = some (t, n)) (hfit : x_fit kd v = true) (hfin : fin = 0 ∨ (fin = 1 ∧ xm_ini mi = true)) (hd : decode (xm_b mi) pc = .ok (.putfield idx, 3))
    (kk : ∀ (H1 : Heap) (locs1 : List Loc), x_ok D b0 (x_put w a k v) H1 → va_S (fun q => b0 ≤ q) s.heap H1 locs1 → W p l e R s m args below meth c H1 locs1 cells slots Q (F0 m (pc + 3) ls r)) : W p l e R s m args below meth c H locs cells slots Q (F0 m pc ls (v :: .ref a :: r)) := by
  obtain ⟨hba, hasz, hat⟩ := hok.2 a t n htg
  obtain ⟨ht20, hn, hk, hc, ref, cell, cf, kf, kC, fi, f, hlink, hi0, hi, hst, hsl, q1, q2, q3, q4, hfc, hkC, hkind⟩ := x_field C hF ht hat
  obtain ⟨-, hk', -, hfn, hdecl, hkd⟩ := x_tF_ok hF ht
  obtain ⟨hx, hb, hml, hown, hts, hK, hin⟩ := C
  obtain ⟨hcl1, hcl2, hcl3⟩ := x_cls_ok hc
  obtain ⟨hn1, hf1⟩ := x_kd_fit hkd hfit
  have hap : ∀ x y, x < n → y < n → x ≠ y → (D.2.1 t) x ≠ (D.2.1 t) y := by
    rw [hn]
    exact va_apart (own := x_cn (xm_own mi)) (D := (D.1, D.2.1)) hts hcl1 (x_ty t) hcl2 hcl3 hK.1 hc
  have fin' : ∀ H1 : Heap, H1[a]? = some (cell.setSlot f.slot v) → H1.size = H.size → (∀ q, q ≠ a → H1[q]? = H[q]?) → W p l e R s m args below meth c H1 (locs ++ [⟨a, f.slot⟩]) cells slots Q (F0 m (pc + 3) ls r) := by
    intro H1 e1 e2 e3
    refine kk H1 _ (hok.put htg e2 e3 ⟨fun _ => ⟨hc, hn, cell.setSlot f.slot v, e1, q2, q3, ?_⟩, fun h => by omega⟩) (hS.put e2 e3 hba)
    rw [hsl]
    exact t_set q4 hap hk v
  have hlay := hts _ (hcl1 _ (u_in_lay hk'))
  unfold u_lay at hlay
  rcases hfin with rfl | ⟨rfl, hini⟩
  · rw [if_neg (by rw [hfn rfl]; decide)] at hlay
    have h6 := u_store hfc hkC hkind hlay hi0 (hcl2 k hk') hn1 hf1
    exact W.putK hx hb (f := f) ⟨hown, hlink, ⟨_, _, _, hi⟩, hst⟩ (by rw [q2]; exact h6) q1 q3 (by rw [hsl]; exact k2_hasslot (q4 k hk)) rfl rfl hd fin'
  · obtain ⟨hfn2, hdecl2⟩ := hdecl rfl
    rw [if_pos hfn2] at hlay
    have hcf : m.cls = cf := by
      obtain ⟨_, _, c', _, _, _, -, -, hf', -, -, -, hown2, -⟩ := Cond.laysFinal_spec hlay
      have e1 : c' = cf := by have := hi0.symm.trans hf'; simp at this; exact this.1.symm
      rw [hdecl2] at hown2
      rw [← e1]; exact Option.some.inj (hown.symm.trans hown2)
    have h6 := u_fits hfc hkC hkind (Or.inr hlay) hi0 (hcl2 k hk') hn1 hf1
    exact W.putFinK hx hb hown hlink hi hst hcf (hin hini) (by rw [q2]; exact h6) q1 q3 (by rw [hsl]; exact k2_hasslot (q4 k hk)) rfl rfl hd fin'
/-- a new object -/
theorem x_s_new (C : x_Cx p s m args meth c D P b0 mi) (hok : x_ok D b0 w H) (hS : va_S (fun q => b0 ≤ q) s.heap H locs) {idx t : Nat} (hN : x_tN (xm_own mi) idx = some t) (hcells : cells + 1 ≤ R.cells) (hslots : slots + x_N t ≤ R.slots) (hd : decode (xm_b mi) pc = .ok (.new idx, 3))
    (kk : ∀ H1 : Heap, x_ok D b0 (x_new w t (x_N t) (x_df t)) H1 → va_S (fun q => b0 ≤ q) s.heap H1 locs → W p l e R s m args below meth c H1 locs (cells + 1) (slots + x_N t) Q (F0 m (pc + 3) ls (.ref (x_sz w) :: st))) : W p l e R s m args below meth c H locs cells slots Q (F0 m pc ls st) := by
  obtain ⟨hx, hb, hml, hown, hts, hK, hin⟩ := C
  obtain ⟨ht20, hc, h1, h2, h3, h4⟩ := x_tN_ok hN
  obtain ⟨hcl1, hcl2, hcl3⟩ := x_cls_ok hc
  have hKn := hK.1.1 t _ hc
  have hb0 : b0 ≤ x_sz w := by
    have := hK.2.2.2.2.2.2.1
    have := hS.1
    rw [← hok.1]
    omega
  refine W.newcK hx hb hown (hts _ h1) (hts _ h2) (hts _ h3) rfl hd hcells hslots hKn.2.1 hok.1 fun H1 kC hkC e1 z1 o1 => ?_
  exact kk H1 (hok.new hb0 z1 o1 ⟨fun _ => ⟨hc, rfl, (u_born (x_ty t) hts hcl1 hKn hkC e1 hcl2).to h4⟩, fun h => by omega⟩) (x_S_new hS (by rw [z1, hok.1]) (fun q hq => o1 q (by rw [← hok.1]; exact hq)))
theorem x_cellA (hok : x_ok D b0 w H) {a t n : Nat} (htg : x_tg w a = some (t, n)) (ht : 20 ≤ t) : (∃ ty, x_aty t = some ty) ∧ H[a]? = some (arrV (D.2.2 t) n (x_fd w a)) := (hok.2 a t n htg).2.2.2 ht
theorem x_inA {i : Int32} {n : Nat} {cA : ClassId} {F : Nat → Value} (h : ¬ i < 0 ∧ i.toNatClampNeg < n) : ¬ (i < 0 ∨ (arrV cA n F).slots.size ≤ i.toNatClampNeg) := by
  rw [arrV_size]
  rintro (q | q)
  · exact h.1 q
  · have := h.2; omega
theorem x_ok_arr {H1 : Heap} (hok : x_ok D b0 w H) {a t n k : Nat} {v : Value} (htg : x_tg w a = some (t, n)) (ht : 20 ≤ t) (e : H1[a]? = some ((arrV (D.2.2 t) n (x_fd w a)).setSlot k v)) (z : H1.size = H.size) (oq : ∀ q : Nat, q ≠ a → H1[q]? = H[q]?) : x_ok D b0 (x_put w a k v) H1 :=
  hok.put htg z oq ⟨fun h => by omega, fun _ => ⟨(x_cellA hok htg ht).1, by rw [e, arrV_store]⟩⟩
/-- a call goes on -/
def x_Pc (D : xD) (P : xP) (b0 : Nat) (as : List Value) (w : xH) : Array Value → State → Prop := va_Pc as (fun U => x_ok D b0 w U.heap ∧ x_K D P b0 U)
def x_Qc (D : xD) (b0 : Nat) (v : Option Value) (w' : xH) : Array Value → State → Outcome → State → Prop := fun _ st oc t => oc = .returned v ∧ x_ok D b0 w' t.heap ∧ va_F (fun q => b0 ≤ q) st t
theorem x_blind {as : List Value} : FrameBlind (x_Pc D P b0 as w) := by
  intro a U g mk h
  obtain ⟨h1, h2, h3⟩ := h
  exact ⟨h1, h2, h3.moved (u := U) (U := U.calling g mk a) (Vm.Alike.refl U.vm) (Nat.le_refl _) (fun _ _ _ => rfl) (fun _ _ _ _ hz => va_Nw.same rfl rfl hz)⟩
theorem x_goes {v : Option Value} {mc ms : Nat} {a : Array Value} {st0 rest : List Value} (hr : va_Run p l e R s m args below meth c H locs cells slots mc ms (F0 m pc ls st0) rest (x_Qc D b0 v w' a) (fun q => b0 ≤ q)) (hS : va_S (fun q => b0 ≤ q) s.heap H locs)
    (kk : ∀ (H1 : Heap) (locs1 : List Loc), x_ok D b0 w' H1 → va_S (fun q => b0 ≤ q) s.heap H1 locs1 → W p l e R s m args below meth c H1 locs1 (cells + mc) (slots + ms) Q (F0 m (pc + 3) ls (v.toList ++ rest))) : W p l e R s m args below meth c H locs cells slots Q (F0 m pc ls st0) := by
  intro T hT X
  obtain ⟨v', st₀, t, T', L, h0, X', hL, e1, e2, ⟨hv, hok, hz, hk⟩, stp⟩ := hr T hT X
  cases hv
  rw [h0] at hz hk
  obtain ⟨t2, a1, b1⟩ := kk T'.heap (locs ++ L) (by rw [e1]; exact hok)
    ⟨Nat.le_trans hS.1 (by rw [e1]; exact hz), fun q h1 h2 => by rw [e1, hk q (Nat.lt_of_lt_of_le h1 hS.1) h2]; exact hS.2.1 q h1 h2, fun q hq => by
      rcases List.mem_append.mp hq with h | h
      · exact hS.2.2 q h
      · exact hL q h⟩ T' rfl X'
  exact ⟨t2, stp t2 a1, b1⟩
theorem x_pre (C : x_Cx p s m args meth c D P b0 mi) (hok : x_ok D b0 w H) (hS : va_S (fun q => b0 ≤ q) s.heap H locs) (as : List Value) (U : State) (hU : U.heap = H) (hW : s.WarmedH U.vm) : x_Pc D P b0 as w as.toArray U :=
  ⟨rfl, by rw [hU]; exact hok, C.2.2.2.2.2.1.moved hW.alike (by rw [hU]; exact hS.1) (fun q h1 h2 => by rw [hU]; exact hS.2.1 q h1 h2) (fun _ _ _ _ hz => va_Nw.warmM hW hz)⟩
end XS
