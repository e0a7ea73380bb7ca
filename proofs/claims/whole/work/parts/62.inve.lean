/-! the clock goes on by one a call at most -/
theorem rmA_28 (S : xS) (s : Int) : s_rmA S s 28 = S 28 := by
  unfold s_rmA
  rw [mapA_o (by omega), sset_o (by omega), sset_o (by omega)]
theorem destroy_28 (S : xS) (k u : Int) : s_destroy S k u 28 = S 28 := by
  unfold s_destroy s_rmE s_rmD s_rmC s_rmB
  rw [mapA_o (by omega), mapA_o (by omega), mapA_o (by omega), mapA_o (by omega), mapA_o (by omega), mapA_o (by omega), mapA_o (by omega)]
theorem remove_28 (S : xS) (s : Int) : s_remove S s 28 = S 28 := by
  unfold s_remove
  split
  · exact rmA_28 S s
  split
  · exact rmA_28 S s
  · rw [destroy_28, rmA_28]
theorem swI_28 : ∀ (d s : Nat) (S : xS) (b : Int), (swI d s S b).1 28 = S 28 := by
  intro d
  induction d with
  | zero => intro s S b; rfl
  | succ d ih =>
    intro s S b
    unfold swI
    split
    · exact ih _ _ _
    · rw [ih, remove_28]
theorem swO_28 : ∀ (d : Nat) (S : xS) (b : Int), swO d S b 28 = S 28 := by
  intro d
  induction d with
  | zero => intro S b; rfl
  | succ d ih =>
    intro S b
    unfold swO
    split
    · rfl
    · rw [ih, swI_28]
theorem sweep_28 (S : xS) : s_sweep S 28 = S 28 := swO_28 _ _ _
theorem ready_28 (S : xS) (t : Int) : s_ready S t 28 0 = S 28 0 + 1 := by
  unfold s_ready
  simp [sset_at]
theorem waits_28 (S : xS) (t how u a : Int) : s_waits S t how u a 28 0 = S 28 0 + 1 := by
  unfold s_waits
  simp [sset_at]
theorem hears_28 (S : xS) (t n : Int) : s_hears S t n 28 = S 28 := by
  unfold s_hears
  rw [sset_o (by omega), sset_o (by omega), sset_o (by omega)]
theorem ring_28 (S : xS) (u n : Int) : s_ring S u n 28 0 ≤ S 28 0 + 1 := by
  unfold s_ring
  split
  · rw [sset_o (by omega)]; omega
  · rw [ready_28, hears_28]; omega
theorem delete_28 (S : xS) (a : Int) : (s_delete S a).2 28 0 ≤ S 28 0 + 1 := by
  unfold s_delete
  split
  · dsimp only; omega
  split
  · dsimp only; omega
  · dsimp only; rw [sweep_28, sset_o (by omega)]; omega
theorem revoke_28 (S : xS) (a : Int) : (s_revoke S a).2 28 0 ≤ S 28 0 + 1 := by
  unfold s_revoke
  split
  · dsimp only; omega
  split
  · dsimp only; omega
  · dsimp only; rw [sweep_28, mapA_o (by omega)]; omega
theorem run_28 (S : xS) (t on : Int) : (s_run S t on).2 28 0 ≤ S 28 0 + 1 := by
  unfold s_run
  (repeat' split) <;> dsimp only <;> first | omega | (rw [ready_28]; omega) | (rw [sset_o (by omega)]; omega)
theorem signal_28 (S : xS) (b : Int) : (s_signal S b).2 28 0 ≤ S 28 0 + 1 := by
  unfold s_signal
  split
  · dsimp only; omega
  split
  · dsimp only; omega
  split
  · dsimp only; omega
  · exact ring_28 _ _ _
theorem bind_28 (S : xS) (n b : Int) : (s_bind S n b).2 28 0 ≤ S 28 0 + 1 := by
  unfold s_bind
  (repeat' split) <;> dsimp only <;> first | omega | (rw [sset_o (by omega)]; omega)
theorem interrupt_28 (S : xS) (n : Int) : (s_interrupt S n).2 28 0 ≤ S 28 0 + 1 := by
  unfold s_interrupt
  split
  · dsimp only; omega
  split
  · dsimp only; omega
  split
  · dsimp only; omega
  · exact ring_28 _ _ _
theorem tick_28 (S : xS) : (s_tick S).2 28 0 ≤ S 28 0 + 1 := by
  unfold s_tick
  (repeat' split) <;> dsimp only <;> first | omega | (rw [ready_28, sset_o (by omega)]; omega) | (rw [sset_o (by omega)]; omega)
theorem unmap_28 (S : xS) (c : Int) : (s_unmap S c).2 28 0 ≤ S 28 0 + 1 := by
  unfold s_unmap
  (repeat' split) <;> dsimp only <;> first | omega | (rw [sset_o (by omega)]; omega)
theorem map_28 (S : xS) (c sp e : Int) : (s_map S c sp e).2 28 0 ≤ S 28 0 + 1 := by
  unfold s_map
  (repeat' split) <;> dsimp only <;> first | omega | (rw [sset_o (by omega), sset_o (by omega)]; omega)
theorem listen_28 (S : xS) (b block : Int) : (s_listen S b block).2 28 0 ≤ S 28 0 + 1 := by
  unfold s_listen
  (repeat' split) <;> dsimp only <;> first | omega | (rw [waits_28]; omega) | (rw [sset_o (by omega), hears_28]; omega)
theorem copy_28 (S : xS) (src dest rg mine : Int) : (s_copy S src dest rg mine).2 28 0 ≤ S 28 0 + 1 := by
  have k : ∀ (k u z f : Int) (x y : Int), sset (sset (s_fill S (s_vacant S dest) k u z f) 2 (s_vacant S dest).toNat x) 3 (s_vacant S dest).toNat y 28 0 ≤ S 28 0 + 1 := by
    intro k u z f x y
    rw [sset_o (by omega), sset_o (by omega), fill_o (by omega)]; omega
  unfold s_copy
  split
  · dsimp only; omega
  split
  · dsimp only; omega
  split
  · dsimp only; omega
  split
  · dsimp only; omega
  split
  · dsimp only; omega
  split
  · dsimp only; omega
  split
  · dsimp only; omega
  split
  · dsimp only; omega
  · dsimp only; exact k _ _ _ _ _ _
theorem move_28 (S : xS) (src dest : Int) : (s_move S src dest).2 28 0 ≤ S 28 0 + 1 := by
  unfold s_move
  (repeat' split) <;> dsimp only <;> first | omega | (rw [mapA_o (by omega), mv1_o (by omega)]; omega)
theorem configure_28 (S : xS) (t tab spc prio : Int) : (s_configure S t tab spc prio).2 28 0 ≤ S 28 0 + 1 := by
  have k : ∀ (i x y z : Int), s_cf2 (s_cf1 S i x y) i z 28 0 ≤ S 28 0 + 1 := by
    intro i x y z
    have e : s_cf1 S i x y 28 = S 28 := by
      unfold s_cf1
      rw [sset_o (by omega), sset_o (by omega)]
    rw [← e]
    generalize s_cf1 S i x y = T
    unfold s_cf2
    split
    · rw [sset_o (by omega)]; omega
    · rw [sset_o (by omega), sset_o (by omega), sset_at, if_pos ⟨rfl, rfl⟩]; omega
  unfold s_configure
  split
  · dsimp only; omega
  split
  · dsimp only; omega
  split
  · dsimp only; omega
  split
  · dsimp only; omega
  split
  · dsimp only; omega
  split
  · dsimp only; omega
  split
  · dsimp only; omega
  · dsimp only; exact k _ _ _ _
theorem send_28 (S : xS) (g word c bl : Int) : (s_send S g word c bl).2 28 0 ≤ S 28 0 + 1 := by
  unfold s_send
  split
  · dsimp only; omega
  split
  · dsimp only; omega
  split
  · dsimp only; omega
  split
  · split
    · dsimp only; omega
    · dsimp only; rw [waits_28, send0_e (by omega)]; omega
  · dsimp only; rw [ready_28, transfer_e (by omega), send0_e (by omega)]; omega
theorem receive_28 (S : xS) (g d bl : Int) : (s_receive S g d bl).2 28 0 ≤ S 28 0 + 1 := by
  unfold s_receive
  split
  · dsimp only; omega
  split
  · dsimp only; omega
  split
  · dsimp only; omega
  split
  · split
    · dsimp only; omega
    · dsimp only; rw [waits_28]; omega
  · dsimp only; rw [ready_28, transfer_e (by omega), sset_o (by omega)]; omega
theorem retype_28 (S : xS) (u k b dest : Int) : (s_retype S u k b dest).2 28 0 ≤ S 28 0 + 1 := by
  have e : ∀ (f x d : Int), s_begin (s_fill (sset S 6 f.toNat (x + s_size k b)) d k x b f) k x 28 0 ≤ S 28 0 + 1 := by
    intro f x d
    rw [begin_o (by omega), fill_o (by omega), sset_o (by omega)]; omega
  unfold s_retype
  split
  · dsimp only; omega
  split
  · dsimp only; omega
  split
  · dsimp only; omega
  split
  · dsimp only; omega
  split
  · dsimp only; omega
  split
  · dsimp only; omega
  split
  · dsimp only; omega
  · dsimp only; exact e _ _ _
