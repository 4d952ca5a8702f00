/-! the tables' words stay true where they grow -/
theorem xe_kw_ok {w : Cond} (h : xe_kw w = true) : xe_kp w := by
  unfold xe_kw at h
  rw [Bool.or_eq_true] at h
  rcases h with h | h
  · exact xe_kp_of (good_of_word h)
  · split at h
    · exact xe_kp_M _ _ _ _
    · exact xe_kp_F _ _ _ _ _ _
    · exact fun _ _ _ _ hW hb => va_Nw.use rfl (va_Nw.warmD hW (va_Nw.of rfl hb))
    · exact fun _ _ _ _ hW hb => va_Nw.use rfl (va_Nw.warmC hW (va_Nw.of rfl hb))
    · exact fun _ _ _ _ hW hb => va_AO.use ((va_AO.of hb).moved hW.alike)
    · cases h
theorem xg_kp : ∀ w ∈ xg_tb, xe_kp w := fun _ hw => xe_kw_ok (List.mem_filter.mp hw).2
