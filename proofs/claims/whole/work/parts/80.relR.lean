theorem lid_o {S S' : xS} (h10 : S' 10 = S 10) (h13 : S' 13 = S 13) (h19 : S' 19 = S 19) : lid S' = lid S := by
  funext t
  unfold lid
  rw [h10, h13, h19]
theorem lid_ready (S : xS) (t : Nat) : lid (s_ready S t) = lup (lid S) t (S 13 t) := by
  funext k
  unfold lid
  by_cases c : k = t
  · rw [c, lup_t, ready_t.1, if_neg (by omega), if_pos rfl, ready_o (by omega)]
  · rw [lup_o c, ready_i (by omega) c, ready_i (by omega) c, ready_i (by omega) c]
theorem lid_stop (S : xS) (t : Nat) : lid (sset S 10 t 1) = lup (lid S) t (-1) := by
  funext k
  unfold lid
  rw [sset_o (j' := 13) (by omega), sset_o (j' := 19) (by omega)]
  by_cases c : k = t
  · rw [c, lup_t, show sset S 10 t 1 10 t = 1 by rw [sset_at, if_pos ⟨rfl, rfl⟩], if_pos (by omega)]
  · rw [lup_o c, show sset S 10 t 1 10 k = S 10 k by rw [sset_at, if_neg (fun x => c x.2)]]
theorem lid_waits (S : xS) (t : Nat) {how u a : Int} (hh : 3 ≤ how) : lid (s_waits S t how u a) = lup (lid S) t (u + 4) := by
  funext k
  unfold lid s_waits
  by_cases c : k = t
  · rw [c, lup_t]
    simp only [sset_at, Int.toNat_natCast, Nat.reduceEqDiff, false_and, if_false, and_self, if_true]
    rw [if_neg (by omega), if_neg (by omega)]
  · rw [lup_o c]
    simp only [sset_at, Int.toNat_natCast, c, Nat.reduceEqDiff, false_and, and_false, if_false]
theorem sset_self (S : xS) (j i : Nat) : sset S j i (S j i) = S := by
  funext a b
  rw [sset_at]
  split
  next c => rw [c.1, c.2]
  next => rfl
section KN
variable {P : xP} {w : xH} {Q : Option Value → xH → Prop} {A : xA} {S : xS} {ln : Nat → Int}
/-- numbers of a thread but state and time -/
theorem Hp.tnum {w' : xH} {S' : xS} {F : Int → Int → Nat → Option Value} (h : Hp w' A (us S) F) (hA : CapA S) {t : Nat} (e : ∀ j, (j < 11 ∨ (18 ≤ j ∧ j < 20) ∨ (24 ≤ j ∧ j < 28)) → S' j = S j) (o : ∀ j i, 11 ≤ j → j < 24 → i ≠ t → S' j i = S j i)
    (hf1 : ∀ k i f, ¬ (k = 2 ∧ i = 8 * (t : Int)) → F k i f = xFv A S ln k i f) (hf2 : ∀ f v, Fthr A S' ln (8 * (t : Int)) t f = some v → F 2 (8 * (t : Int)) f = some v) : Rel w' A S' ln := by
  have mc := mem_cg (S := S) (S' := S') (ln := ln) (fun k hk g => by rw [e 18 (by omega)])
  refine h.thu hA (fun j hj => e j (by omega)) (fun k hk => by rw [e 10 (by omega)]) (fun k i f c2 c9 => hf1 k i f (fun x => c2 x.1)) (fun k hk ku f v q => ?_) (fun l l0 lu f v q => ?_)
  · by_cases c : k = t
    · rw [c] at q ⊢; exact hf2 f v q
    · rw [hf1 2 _ f (fun x => c (by omega)), Fv_thr, ← q]
      refine (Fthr_18 (mc.2 k hk) (fun j j1 j2 _ _ => ?_) f).symm
      by_cases d : j = 10
      · rw [d, e 10 (by omega)]
      · exact o j k (by omega) j2 c
  · rw [hf1 9 l f (by omega)]
    show Flin A S ln l f = _
    rw [← q]
    unfold Flin
    rw [(mc.1 l l0).1, (mc.1 l l0).2]
set_option maxHeartbeats 4000000 in
theorem Hp.tint (h : Rel w A S ln) (hA : CapA S) {t : Nat} (hu : us S 2 (8 * (t : Int))) {j f : Nat} {v : Int} (hjf : (j = 13 ∧ f = 4) ∨ (j = 14 ∧ f = 6) ∨ (j = 15 ∧ f = 7) ∨ (j = 16 ∧ f = 8) ∨ (j = 17 ∧ f = 9)) : Rel (x_put w (A 2 (8 * (t : Int))) f (.int (xi v))) A (sset S j t v) ln := by
  have so : ∀ j', j' ≠ j → sset S j t v j' = S j' := fun j' hj => sset_o hj
  have st : sset S j t v j t = v := by rw [sset_at, if_pos ⟨rfl, rfl⟩]
  refine Hp.tnum (S := S) (t := t) (h.put hu f _) hA (fun j' hj => so j' (by omega)) (fun j' i j1 j2 hi => by rw [sset_at, if_neg (fun x => hi x.2)]) (fun k i f' c => fup_n (fun x => c ⟨x.1, x.2.1⟩)) ?_
  have nx : nxtL (sset S j t v) ln t = nxtL S ln t := by
    unfold nxtL
    rw [so 18 (by omega)]
  rcases hjf with ⟨rfl, rfl⟩ | ⟨rfl, rfl⟩ | ⟨rfl, rfl⟩ | ⟨rfl, rfl⟩ | ⟨rfl, rfl⟩
  all_goals
    refine Fthr_all (p := fun f' v' => fup (xFv A S ln) 2 (8 * (t : Int)) _ (.int (xi v)) 2 (8 * (t : Int)) f' = some v') ?_ ?_ ?_ ?_ ?_ ?_ ?_ ?_ ?_ ?_ ?_ ?_ (fun c => ?_) (fun c => ?_) (fun c => ?_) (fun c => ?_)
    all_goals first
      | (rw [so 10 (by omega)] at c; rw [fup_n (by omega), Fv_thr, so _ (by omega)]; unfold Fthr; simp [c])
      | (rw [fup_e, st])
      | (rw [fup_n (by omega), Fv_thr, nx]; rfl)
      | (rw [fup_n (by omega), Fv_thr, so _ (by omega)]; rfl)
      | (rw [fup_n (by omega), Fv_thr]; rfl)
set_option maxHeartbeats 4000000 in
theorem Hp.tptr (h : Rel w A S ln) (hA : CapA S) {t : Nat} (hu : us S 2 (8 * (t : Int))) {j f : Nat} {v k : Int} (hjf : (j = 11 ∧ f = 2 ∧ k = 1) ∨ (j = 12 ∧ f = 3 ∧ k = 5)) : Rel (x_put w (A 2 (8 * (t : Int))) f (pv v (A k v))) A (sset S j t v) ln := by
  have so : ∀ j', j' ≠ j → sset S j t v j' = S j' := fun j' hj => sset_o hj
  have st : sset S j t v j t = v := by rw [sset_at, if_pos ⟨rfl, rfl⟩]
  refine Hp.tnum (S := S) (t := t) (h.put hu f _) hA (fun j' hj => so j' (by omega)) (fun j' i j1 j2 hi => by rw [sset_at, if_neg (fun x => hi x.2)]) (fun k i f' c => fup_n (fun x => c ⟨x.1, x.2.1⟩)) ?_
  have nx : nxtL (sset S j t v) ln t = nxtL S ln t := by
    unfold nxtL
    rw [so 18 (by omega)]
  rcases hjf with ⟨rfl, rfl, rfl⟩ | ⟨rfl, rfl, rfl⟩
  all_goals
    refine Fthr_all (p := fun f' v' => fup (xFv A S ln) 2 (8 * (t : Int)) _ (pv v (A _ v)) 2 (8 * (t : Int)) f' = some v') ?_ ?_ ?_ ?_ ?_ ?_ ?_ ?_ ?_ ?_ ?_ ?_ (fun c => ?_) (fun c => ?_) (fun c => ?_) (fun c => ?_)
    all_goals first
      | (rw [so 10 (by omega)] at c; rw [fup_n (by omega), Fv_thr, so _ (by omega)]; unfold Fthr; simp [c])
      | (rw [fup_e, st])
      | (rw [fup_n (by omega), Fv_thr, nx]; rfl)
      | (rw [fup_n (by omega), Fv_thr, so _ (by omega)]; rfl)
      | (rw [fup_n (by omega), Fv_thr]; rfl)
end KN
