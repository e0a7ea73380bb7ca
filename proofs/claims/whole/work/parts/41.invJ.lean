/-! the last capability for a thing goes: the thing is destroyed -/
section DS
variable {S : xS} {k u : Int}
theorem ds_o {j : Nat} (h : j ≠ 11) (h2 : j ≠ 12) (h3 : j ≠ 10) (h4 : j ≠ 9) (h5 : j ≠ 7) (h6 : j ≠ 25) (h7 : j ≠ 27) : s_destroy S k u j = S j := by
  funext i
  exact s_destroy_at h h2 h3 h4 h5 h6 h7 i
theorem ds_11 {i : Nat} (hi : i < 16) : s_destroy S k u 11 i = rm_tab S k u i := by
  unfold s_destroy s_rmE s_rmD s_rmC s_rmB
  simp [mapA_at, hi]
theorem ds_12 {i : Nat} (hi : i < 16) : s_destroy S k u 12 i = rm_spa S k u i := by
  unfold s_destroy s_rmE s_rmD s_rmC s_rmB
  simp [mapA_at, hi]
theorem ds_10 {i : Nat} (hi : i < 16) : s_destroy S k u 10 i = rm_sta S k u i := by
  unfold s_destroy s_rmE s_rmD s_rmC s_rmB
  simp [mapA_at, hi]
theorem ds_9 {i : Nat} (hi : i < 128) : s_destroy S k u 9 i = rm_doo S k u i := by
  unfold s_destroy s_rmE s_rmD s_rmC s_rmB rm_doo
  simp [mapA_at, hi]
theorem ds_7 {i : Nat} (hi : i < 128) : s_destroy S k u 7 i = rm_inl S k u i := by
  unfold s_destroy s_rmE s_rmD s_rmC s_rmB rm_inl
  simp [mapA_at, hi]
theorem ds_25 {i : Nat} (hi : i < 32) : s_destroy S k u 25 i = rm_les S k u i := by
  unfold s_destroy s_rmE s_rmD s_rmC s_rmB rm_les
  simp [mapA_at, hi]
theorem ds_27 {i : Nat} (hi : i < 4) : s_destroy S k u 27 i = rm_lin S k u i := by
  unfold s_destroy s_rmE s_rmD s_rmC s_rmB rm_lin
  simp [mapA_at, hi]
end DS
