/-! marks on live slots -/
theorem Inv.mark {S S' : xS} (h : Inv S) (hR : RgS S') (e : ∀ j, j ≠ 9 → S' j = S j) (h9 : ∀ p, p < 128 → S' 9 p = 0 ∨ (S' 9 p = 1 ∧ 0 ≤ S 0 p)) : InvW S' := by
  obtain ⟨⟨-, hA, hM, hT, hD, tA, tB, tC, tD, mA, mB, hB⟩, hz⟩ := h
  have q0 := e 0 (by omega)
  have q1 := e 1 (by omega)
  refine ⟨hR, hA.cg q0 q1 (e 2 (by omega)) (e 3 (by omega)) (e 5 (by omega)) (e 6 (by omega)), hM.cg q0 q1 (e 4 (by omega)) (e 5 (by omega)) (e 6 (by omega)), fun p hp => ?_, fun p hp => ?_, tA.cg q0 q1 (e 10 (by omega)) (e 11 (by omega)), tB.cg q0 q1 (e 10 (by omega)) (e 11 (by omega)) (e 12 (by omega)) (e 13 (by omega)) (e 14 (by omega)) (e 19 (by omega)), tC.cg (e 10 (by omega)) (e 18 (by omega)) (e 28 (by omega)), tD.cg (e 10 (by omega)) (e 19 (by omega)), mA.cg q0 q1 (e 25 (by omega)) (e 26 (by omega)), mB.cg q0 q1 (e 7 (by omega)) (e 8 (by omega)), hB.cg q0 q1 (e 24 (by omega)) (e 27 (by omega))⟩
  · rw [hd_cg q0 q1, q0]
    exact fun g _ => hT p hp g (hz p hp)
  · rw [q0]
    exact h9 p hp
/-- delete keeps it -/
theorem Inv.delete {S : xS} (h : Inv S) (a : Int) : Inv (s_delete S a).2 := by
  have hW := h.gs.1
  have hn := s_now_in S
  unfold s_delete
  split
  · exact h
  next c1 =>
    split
    · exact h
    next c2 =>
      have hh := s_having_in hW (by omega) a (-1)
      refine InvW.sweep (h.mark (h.1.1.set ⟨by omega, by omega⟩) (fun j c => sset_o c) (fun p hp => ?_))
      rw [sset_at]
      split
      next c =>
        refine Or.inr ⟨rfl, ?_⟩
        rw [c.2]
        exact (hh.2.2 (by omega)).1
      · exact Or.inl (h.2 p hp)
