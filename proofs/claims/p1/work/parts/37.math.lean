/-! Math.max, Math.min -/
def xe_imax : xe_F := fun k ls st μ => match st with
  | .int y :: .int x :: r => if (r.map fun v => v.category).sum ≤ 40 then some (k + 1, ls, .int (if x < y then y else x) :: r, μ) else none
  | _ => none
def xe_imin : xe_F := fun k ls st μ => match st with
  | .int y :: .int x :: r => if (r.map fun v => v.category).sum ≤ 40 then some (k + 1, ls, .int (if y < x then y else x) :: r, μ) else none
  | _ => none
theorem xo_imax {δ : xe_Dy} {Y : xe_Y} {k pc index : Nat} (hk : xe_pc Y k = pc) (hk1 : xe_pc Y (k + 1) = pc + 3) (w1 : Cond.methodLink (xy_n Y).cls index Lib.Math.max.name ∈ xg_tb) (hd : decode (xy_b Y) pc = .ok (.invokestatic index, 3)) : xe_OKL δ Y k xe_imax := by
  intro p l e R s m args below meth c n0 s0 H locs cells slots Q lsJ ls st μ k' ls' st' μ' hC hfr hlo hR hl hf kk
  obtain ⟨hx, hb, hml, hown, hnm, hret, hlk, hts, hK, hE, hhd⟩ := hC
  unfold xe_imax at hf
  split at hf
  · rename_i y x r
    split at hf
    · rename_i hq
      cases hf
      rw [hk]
      have kk := kk H locs cells slots lsJ hR hl
      rw [hk1] at kk
      have h1 := hR.2.2.2.2.1
      have h2 := hR.2.2.2.2.2.1
      have h3 := hR.2.2.2.2.2.2.1
      have h4 := hR.2.2.2.2.2.2.2.1
      have h5 := hR.2.2.2.2.2.2.2.2.1
      have h6 := hR.2.2.2.2.2.2.2.2.2
      exact va_mmax hx hb (hml.trans hl.1.symm) hown (hts _ w1) (hts _ (xg_w 839 (by decide +kernel))) (hts _ (xg_w 24 (by decide +kernel))) (hts _ (xg_w 840 (by decide +kernel))) hfr (by rw [xe_sum_v]; omega) (by omega) (by omega) hd kk
    · cases hf
  · cases hf
theorem xo_imin {δ : xe_Dy} {Y : xe_Y} {k pc index : Nat} (hk : xe_pc Y k = pc) (hk1 : xe_pc Y (k + 1) = pc + 3) (w1 : Cond.methodLink (xy_n Y).cls index Lib.Math.min.name ∈ xg_tb) (hd : decode (xy_b Y) pc = .ok (.invokestatic index, 3)) : xe_OKL δ Y k xe_imin := by
  intro p l e R s m args below meth c n0 s0 H locs cells slots Q lsJ ls st μ k' ls' st' μ' hC hfr hlo hR hl hf kk
  obtain ⟨hx, hb, hml, hown, hnm, hret, hlk, hts, hK, hE, hhd⟩ := hC
  unfold xe_imin at hf
  split at hf
  · rename_i y x r
    split at hf
    · rename_i hq
      cases hf
      rw [hk]
      have kk := kk H locs cells slots lsJ hR hl
      rw [hk1] at kk
      have h1 := hR.2.2.2.2.1
      have h2 := hR.2.2.2.2.2.1
      have h3 := hR.2.2.2.2.2.2.1
      have h4 := hR.2.2.2.2.2.2.2.1
      have h5 := hR.2.2.2.2.2.2.2.2.1
      have h6 := hR.2.2.2.2.2.2.2.2.2
      exact va_mmin hx hb (hml.trans hl.1.symm) hown (hts _ w1) (hts _ (xg_w 925 (by decide +kernel))) (hts _ (xg_w 24 (by decide +kernel))) (hts _ (xg_w 926 (by decide +kernel))) hfr (by rw [xe_sum_v]; omega) (by omega) (by omega) hd kk
    · cases hf
  · cases hf
