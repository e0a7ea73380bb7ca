theorem Inv.revoke {S : xS} (h : Inv S) (a : Int) : Inv (s_revoke S a).2 := by
  have hW := h.gs.1
  have hn := s_now_in S
  unfold s_revoke
  split
  · exact h
  next c1 =>
    split
    · exact h
    next c2 =>
      have hh := s_having_in hW (by omega) a (-1)
      have hr : RgS (mapA S 9 128 (rv_doo S (s_having S a (-1)))) := h.1.1.map fun i _ => by
        rcases rv_doo_in S (s_having S a (-1)) i with e | e <;> rw [e] <;> exact ⟨by omega, by omega⟩
      refine InvW.sweep (h.mark hr (fun j c => mapA_o c) (fun p hp => ?_))
      rw [mapA_at, if_pos ⟨rfl, hp⟩]
      rcases rv_doo_in S (s_having S a (-1)) p with e | e
      · exact Or.inl e
      · refine Or.inr ⟨e, ?_⟩
        by_cases c : S 0 p < 0
        · exfalso
          unfold rv_doo at e
          rw [if_pos c] at e
          have : upL S (s_having S a (-1)) 128 (-1) = -1 := by
            unfold upL
            rw [if_pos rfl]
          rw [this, if_neg (by omega)] at e
          omega
        · omega
theorem having_hd {S : xS} (h : Inv S) (hn : 0 ≤ s_now S) {a k : Int} (hk : 0 ≤ k) (hg : ¬ s_having S a k < 0) : hd S k (S 1 (s_having S a k).toNat) := by
  have hh := s_having_in h.gs.1 (by omega) a k
  exact ⟨(s_having S a k).toNat, by omega, (hh.2.2 (by omega)).2 (by omega), rfl⟩
theorem Inv.bind {S : xS} (h : Inv S) (n b : Int) : Inv (s_bind S n b).2 := by
  unfold s_bind
  split
  · exact h
  next c1 =>
    (repeat' split) <;> first
      | exact h
      | exact h.line (Or.inl rfl)
      | exact h.line (Or.inr (having_hd h (by omega) (by omega) (by assumption)))
