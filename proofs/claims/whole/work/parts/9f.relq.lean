section RB
variable {w : xH} {A : xA} {S : xS} {ln : Nat → Int}
/-- all but the capability that goes -/
def U1 (S : xS) (p : Nat) : Int → Int → Prop := fun k i => us S k i ∧ ¬ (k = 8 ∧ i = (p : Int)) ∧ ¬ (k = 0 ∧ i = (p : Int))
def rmF (A : xA) (S : xS) (ln : Nat → Int) (p : Nat) : Int → Int → Nat → Option Value := if S 7 p < 0 then rmG A S ln p 128 else fup (fup (rmG A S ln p 128) 11 (S 7 p) (S 8 p).toNat .null) 8 (p : Int) 5 .null
def rmO (A : xA) (S : xS) (ln : Nat → Int) (p : Nat) : Int → Int → Nat → Option Value := fun k i f => if S 0 p = 6 ∧ 0 ≤ S 25 (S 1 p / 4).toNat ∧ k = 10 ∧ i = S 25 (S 1 p / 4).toNat ∧ (f : Int) = S 26 (S 1 p / 4).toNat ∧ s_hold (s_rmA S p) 6 (S 1 p) = 0 then some (.ref (A 6 (S 1 p))) else xFv A (s_rmA S p) ln k i f
theorem rmF_n {p : Nat} {k i : Int} {f : Nat} (h11 : ¬ (S 7 p ≥ 0 ∧ k = 11 ∧ i = S 7 p ∧ f = (S 8 p).toNat)) (h8 : ¬ (k = 8 ∧ i = (p : Int))) : rmF A S ln p k i f = rmG A S ln p 128 k i f := by
  unfold rmF
  by_cases c : S 7 p < 0
  · rw [if_pos c]
  · rw [if_neg c, fup_n (fun x => h8 ⟨x.1, x.2.1⟩), fup_n (fun x => h11 ⟨by omega, x⟩)]
theorem hold_0 {T : xS} {k u : Int} : s_hold T k u = 0 ↔ ¬ hd T k u := by
  have b := cntL_in (fun s => T 0 s = k ∧ T 1 s = u) 128
  have e : s_hold T k u = cntL (fun s => T 0 s = k ∧ T 1 s = u) 128 := rfl
  rw [← s_hold_hd]
  omega
set_option maxHeartbeats 8000000 in
theorem rm_conv (hW : InvW S) {p : Nat} (hp : p < 128) (hl : 0 ≤ S 0 p) (h : Hp w A (us S) (rmF A S ln p)) : Hp w A (U1 S p) (rmO A S ln p) := by
  obtain ⟨hR, hA, hM, hT, hD, tA, tB, tC, tD, mA, mB, hB⟩ := hW
  have hTr := hM.1
  have r0 := fun i => rmA_0 (S := S) (s := p) i
  have r4 := fun i hi => rmA_4 (S := S) (s := p) (i := i) hi
  have r9 := fun i => rmA_9 (S := S) (s := p) i
  have ro : ∀ j, j ≠ 0 → j ≠ 4 → j ≠ 9 → s_rmA S (p : Int) j = S j := fun j a b c => rmA_o a b c
  have rh : ∀ {k u : Int}, 1 ≤ k → hd (s_rmA S (p : Int)) k u → hd S k u := fun hk g => rmA_hd hk g
  have rh2 : ∀ {k u : Int}, hd S k u → ¬ (k = S 0 p ∧ u = S 1 p) → hd (s_rmA S (p : Int)) k u := fun g c => rmA_hd2 g c
  refine h.to (fun k i u => ⟨u.1, rfl⟩) (fun k i f v u q => ?_)
  obtain ⟨uS, n8, n0⟩ := u
  have k12 := us_le uS
  unfold rmO at q
  by_cases ov : S 0 p = 6 ∧ 0 ≤ S 25 (S 1 p / 4).toNat ∧ k = 10 ∧ i = S 25 (S 1 p / 4).toNat ∧ (f : Int) = S 26 (S 1 p / 4).toNat ∧ s_hold (s_rmA S (p : Int)) 6 (S 1 p) = 0
  · rw [if_pos ov] at q
    obtain ⟨o1, o2, o3, o4, o5, o6⟩ := ov
    have h6 : hd S 6 (S 1 p) := ⟨p, hp, o1, rfl⟩
    have a4 : S 1 p % 4 = 0 := (hd_al hA (by omega) h6).1
    have u0 := hA.hd h6
    have ll : (S 1 p / 4).toNat < 32 := by omega
    have lu : S 1 p = 4 * (((S 1 p / 4).toNat : Nat) : Int) := by omega
    have h6' := h6
    rw [lu] at h6'
    have m := (mA.1 _ ll h6').resolve_left (by omega)
    have le := leafOf_eq (u := i) (e := (f : Int)) mA ll h6' o4.symm o5.symm (by omega)
    rw [o3, rmF_n (by omega) (by omega), rmG_o (by omega) (by omega)]
    show (if f < 4 then some (pv (s_leafOf S i f) (A 6 (s_leafOf S i f))) else none) = some v
    rw [if_pos (by omega), le, ← lu, pv_r (by omega)]
    exact q
  rw [if_neg ov] at q
  by_cases k8 : k = 8
  · rw [k8] at uS q ⊢
    have ip : i ≠ (p : Int) := fun x => n8 ⟨k8, x⟩
    have lv : 0 ≤ i ∧ i < 128 ∧ 0 ≤ S 0 i.toNat := by unfold us at uS; omega
    have np : i.toNat ≠ p := by omega
    rw [rmF_n (by omega) (fun x => ip x.2)]
    have q : Fcap A (s_rmA S (p : Int)) i f = some v := q
    have rg : ∀ g, g ≠ 3 → rmG A S ln p 128 8 i g = Fcap A S i g := fun g hg => rmG_o (by omega) (by omega)
    revert q
    refine Fcap_all (p := fun f v => rmG A S ln p 128 8 i f = some v) ?_ ?_ ?_ ?_ ?_ ?_ (fun y => ?_) ?_ f v
    · rw [rg 0 (by omega)]
      unfold Fcap thA
      rw [r0, if_neg np, ro 1 (by omega) (by omega) (by omega)]; rfl
    · rw [rg 1 (by omega), ro 2 (by omega) (by omega) (by omega)]; rfl
    · rw [rg 2 (by omega), ro 3 (by omega) (by omega) (by omega)]; rfl
    · rw [r4 i.toNat (by omega)]
      unfold rmG
      rw [if_neg (by omega)]
      by_cases c : S 4 i.toNat = (p : Int)
      · rw [if_pos ⟨rfl, rfl, lv.1, by omega, c⟩, if_pos c]
      · rw [if_neg (fun x => c x.2.2.2.2), if_neg c]; rfl
    · rw [rg 4 (by omega)]; rfl
    · rw [rg 5 (by omega), ro 7 (by omega) (by omega) (by omega)]; rfl
    · rw [ro 7 (by omega) (by omega) (by omega)] at y
      rw [rg 6 (by omega), ro 8 (by omega) (by omega) (by omega)]
      unfold Fcap
      simp [y]
    · rw [rg 7 (by omega), r9, if_neg np]; rfl
  have ng8 : ¬ (k = 8 ∧ i = (p : Int)) := n8
  by_cases kk : k = 12
  · rw [kk] at uS q ⊢
    rw [rmF_n (by omega) (by omega)]
    have q : Fker A (s_rmA S (p : Int)) i f = some v := q
    by_cases i1 : i = 1
    · rw [i1] at q ⊢
      have q : (if f < 128 then some (pv (s_rmA S (p : Int) 0 f) (A 8 (f : Int))) else none) = some v := q
      by_cases fp : f = p
      · unfold rmG
        rw [if_pos ⟨rfl, rfl, fp⟩]
        rw [fp, if_pos hp, r0, if_pos rfl, pv_n (by omega)] at q
        exact q
      · rw [rmG_o (by omega) (by omega)]
        show (if f < 128 then some (pv (S 0 f) (A 8 (f : Int))) else none) = some v
        rw [r0, if_neg fp] at q
        exact q
    · rw [rmG_o (by omega) (by omega), ← q]
      exact (Fker_oth (fun _ _ _ => rfl) (fun j hj => ro j (by omega) (by omega) (by omega)) i1).symm
  by_cases k11 : k = 11
  · rw [k11] at uS q ⊢
    have h6 : hd S 6 i := by
      unfold us at uS
      rcases uS with z | z | z | z | z | z | z
      all_goals first | exact z.2 | omega
    have i0 := hA.hd h6
    have q : (if f < 4 then some (pv (s_frameOf (s_rmA S (p : Int)) i f) (A 8 (s_frameOf (s_rmA S (p : Int)) i f))) else none) = some v := q
    rw [frameOf_unm mB hp (fun j _ hj => by rw [r0, if_neg hj]) (fun j _ => ⟨by rw [ro 7 (by omega) (by omega) (by omega)], by rw [ro 8 (by omega) (by omega) (by omega)]⟩) (Or.inr (by rw [r0, if_pos rfl]; omega)) i0.1] at q
    by_cases c : S 0 p = 7 ∧ i = S 7 p ∧ (f : Int) = S 8 p
    · rw [if_pos c] at q
      unfold rmF
      rw [if_neg (by omega), fup_n (by omega), c.2.1, show f = (S 8 p).toNat by omega, fup_e]
      split at q
      · exact q
      · cases q
    · rw [if_neg c] at q
      have mp := mB.1 p hp hl
      rw [rmF_n (fun x => c ⟨(mp.resolve_left (by omega)).1, x.2.2.1, by have := (mp.resolve_left (by omega)).2.2.1; omega⟩) (by omega), rmG_o (by omega) (by omega)]
      exact q
  have rest : rmF A S ln p k i f = xFv A S ln k i f := by
    rw [rmF_n (fun x => k11 x.2.1) ng8, rmG_o (fun x => kk x.1) (fun x => k8 x.1)]
  rw [rest]
  by_cases k0 : k = 0
  · rw [k0] at uS q ⊢
    have ip : i ≠ (p : Int) := fun x => n0 ⟨k0, x⟩
    have lv : 0 ≤ i ∧ i < 128 ∧ S 0 i.toNat = 0 := by unfold us at uS; omega
    rw [Funt_v] at q ⊢
    revert q
    refine Funt_all (p := fun f v => Funt S i f = some v) ?_ ?_ ?_ (fun y => ?_) f v
    · rfl
    · rw [ro 1 (by omega) (by omega) (by omega)]; rfl
    · rw [ro 5 (by omega) (by omega) (by omega)]
      unfold Funt
      simp
    · rw [ro 6 (by omega) (by omega) (by omega)]
      have : ¬ s_children S i = 0 := by
        rw [children_ex] at y ⊢
        obtain ⟨z, z1, z2, z3⟩ := y
        rw [r0] at z2
        rw [r4 z z1] at z3
        have zp : z ≠ p := fun x => by rw [if_pos x] at z2; omega
        rw [if_neg zp] at z2
        by_cases c : S 4 z = (p : Int)
        · rw [if_pos c] at z3
          exact ⟨p, hp, hl, z3⟩
        · rw [if_neg c] at z3
          exact ⟨z, z1, z2, z3⟩
      unfold Funt
      simp [this]
  by_cases k10 : k = 10
  · rw [k10] at uS q ⊢
    have h5 : hd S 5 i := by
      unfold us at uS
      rcases uS with z | z | z | z | z | z | z
      all_goals first | exact z.2 | omega
    have i0 := hA.hd h5
    have q : (if f < 4 then some (pv (s_leafOf (s_rmA S (p : Int)) i f) (A 6 (s_leafOf (s_rmA S (p : Int)) i f))) else none) = some v := q
    have le : s_leafOf (s_rmA S (p : Int)) i f = s_leafOf S i f := by
      have e25 := ro 25 (by omega) (by omega) (by omega)
      have e26 := ro 26 (by omega) (by omega) (by omega)
      by_cases c : 0 ≤ s_leafOf (s_rmA S (p : Int)) i f
      · obtain ⟨j, j1, j2, j3, j4, j5⟩ := leafOf_is c
        rw [e25] at j4
        rw [e26] at j5
        rw [j2, leafOf_eq mA j1 (rh (by omega) j3) j4 j5 (by omega)]
      · have b := s_leafOf_in (s_rmA S (p : Int)) i f
        rw [show s_leafOf (s_rmA S (p : Int)) i f = -1 by omega]
        symm
        refine leafOf_no (fun j j1 j2 j3 j4 => ?_)
        by_cases d : hd (s_rmA S (p : Int)) 6 (4 * (j : Int))
        · exact absurd ⟨(s_there_hd (by omega)).2 ⟨by omega, by omega, d⟩, by rw [e25]; exact j3, by rw [e26]; exact j4⟩ (lfL_no 32 0 (show lfL (s_rmA S (p : Int)) i f 32 0 < 0 by unfold s_leafOf at c; omega) j (by omega) (by omega))
        · have e : 6 = S 0 p ∧ 4 * (j : Int) = S 1 p := by
            by_cases z : 6 = S 0 p ∧ 4 * (j : Int) = S 1 p
            · exact z
            · exact absurd (rh2 j2 z) d
          have ej : (S 1 p / 4).toNat = j := by omega
          exact ov ⟨e.1.symm, by rw [ej]; omega, k10, by rw [ej]; exact j3.symm, by rw [ej]; exact j4.symm, hold_0.2 (by rw [← e.2]; exact d)⟩
    rw [le] at q
    exact q
  · rw [← q]
    exact (Fv_oth (fun _ _ _ => rfl) (fun j hj => ro j (by omega) (by omega) (by omega)) (by omega)).symm
end RB
