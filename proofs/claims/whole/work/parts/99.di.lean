/-! the law's calls and its loop (by wip/whole/gen/loop.py) -/
section
variable {δ : xe_Dy} {c i : Nat} {σ : xe_Mem} {o : xe_Out}
theorem z_op_feed (hF : xF c σ) (hc : c ≤ 511) (hJ : zJJ σ σ) (hi : i + 6 ≤ xd_n δ) (hn : xd_n δ ≤ 3072) (h : ∀ σ2, xF (c + 1) σ2 → zJJ σ2 σ2 → ∃ μ', ∀ l5 l6, xs_G δ 1000 0 541 (xl_ls i l5 l6) [] σ2 o μ') : ∃ μ', ∀ l5 l6, xs_G δ 1000 0 25 (xl_ls i l5 l6) [] σ o μ' := by
  obtain ⟨v, σ1, σ2, a1, a2, a5, a6, a7⟩ := z_feed (δ := δ) (a := xd_x δ (i + 1)) (b := xd_x δ (i + 2)) (e := xd_x δ (i + 3)) (f := xd_x δ (i + 4)) (g := xd_x δ (i + 5)) hF hJ
  obtain ⟨μ', h'⟩ := h σ2 a7 a5
  exact ⟨μ', fun l5 l6 => xl_feed hi hn (xF_sh hF rfl) (xF_sh a6 rfl) a1 a2 h'⟩
theorem z_op_end (hF : xF c σ) (hc : c ≤ 511) (hJ : zJJ σ σ) (hi : i + 6 ≤ xd_n δ) (hn : xd_n δ ≤ 3072) (h : ∀ σ2, xF (c + 1) σ2 → zJJ σ2 σ2 → ∃ μ', ∀ l5 l6, xs_G δ 1000 0 541 (xl_ls i l5 l6) [] σ2 o μ') : ∃ μ', ∀ l5 l6, xs_G δ 1000 0 82 (xl_ls i l5 l6) [] σ o μ' := by
  obtain ⟨v, σ1, σ2, a1, a2, a5, a6, a7⟩ := z_lawd (δ := δ) (y := 14) (z := 131) (asC := [.ref 0, .int (xd_x δ (i + 1))]) (asR := [.ref 203, .int (xd_x δ (i + 1))]) (Dc := zD14 (xd_x δ (i + 1))) (Dr := zD131 (xd_x δ (i + 1))) hF hJ (fun μ hT => zD14_ok (by decide) _ μ hT) (fun μ0 μ hT => zD131_ok (by decide) _ μ hT) (fun μ ν q => z_cend q)
  obtain ⟨μ', h'⟩ := h σ2 a7 a5
  exact ⟨μ', fun l5 l6 => xl_end hi hn (xF_sh hF rfl) (xF_sh a6 rfl) a1 a2 h'⟩
theorem z_op_compile (hF : xF c σ) (hc : c ≤ 511) (hJ : zJJ σ σ) (hi : i + 6 ≤ xd_n δ) (hn : xd_n δ ≤ 3072) (h : ∀ σ2, xF (c + 1) σ2 → zJJ σ2 σ2 → ∃ μ', ∀ l5 l6, xs_G δ 1000 0 541 (xl_ls i l5 l6) [] σ2 o μ') : ∃ μ', ∀ l5 l6, xs_G δ 1000 0 99 (xl_ls i l5 l6) [] σ o μ' := by
  obtain ⟨v, σ1, σ2, a1, a2, a5, a6, a7⟩ := z_compile (δ := δ) hF hc hJ
  obtain ⟨μ', h'⟩ := h σ2 a7 a5
  exact ⟨μ', fun l5 l6 => xl_compile hi hn (xF_sh hF rfl) (xF_sh a6 rfl) a1 a2 h'⟩
theorem z_op_count (hF : xF c σ) (hc : c ≤ 511) (hJ : zJJ σ σ) (hi : i + 6 ≤ xd_n δ) (hn : xd_n δ ≤ 3072) (h : ∀ σ2, xF (c + 1) σ2 → zJJ σ2 σ2 → ∃ μ', ∀ l5 l6, xs_G δ 1000 0 541 (xl_ls i l5 l6) [] σ2 o μ') : ∃ μ', ∀ l5 l6, xs_G δ 1000 0 106 (xl_ls i l5 l6) [] σ o μ' := by
  obtain ⟨v, σ1, σ2, a1, a2, a5, a6, a7⟩ := z_lawd (δ := δ) (y := 81) (z := 178) (asC := [.ref 0, .int (xd_x δ (i + 1))]) (asR := [.ref 203, .int (xd_x δ (i + 1))]) (Dc := zD81 (xd_x δ (i + 1))) (Dr := zD178 (xd_x δ (i + 1))) hF hJ (fun μ hT => zD81_ok (by decide) _ μ hT) (fun μ0 μ hT => zD178_ok (by decide) _ μ hT) (fun μ ν q => z_ccount q)
  obtain ⟨μ', h'⟩ := h σ2 a7 a5
  exact ⟨μ', fun l5 l6 => xl_count hi hn (xF_sh hF rfl) (xF_sh a6 rfl) a1 a2 h'⟩
theorem z_op_task (hF : xF c σ) (hc : c ≤ 511) (hJ : zJJ σ σ) (hi : i + 6 ≤ xd_n δ) (hn : xd_n δ ≤ 3072) (h : ∀ σ2, xF (c + 1) σ2 → zJJ σ2 σ2 → ∃ μ', ∀ l5 l6, xs_G δ 1000 0 541 (xl_ls i l5 l6) [] σ2 o μ') : ∃ μ', ∀ l5 l6, xs_G δ 1000 0 123 (xl_ls i l5 l6) [] σ o μ' := by
  rcases z_lawv (δ := δ) (y := 84) (z := 179) (asC := [.ref 0, .int (xd_x δ (i + 1)), .int (xd_x δ (i + 2))]) (asR := [.ref 203, .int (xd_x δ (i + 1)), .int (xd_x δ (i + 2))]) (Dc := zD84 (xd_x δ (i + 1)) (xd_x δ (i + 2))) (Dr := zD179 (xd_x δ (i + 1)) (xd_x δ (i + 2))) hF hc hJ (fun μ hT => zD84_ok (by decide) _ _ μ hT) (fun μ0 μ hT => zD179_ok (by decide) _ _ μ hT) (fun μ ν q w => z_ctask q w) with ⟨v, σ1, σ2, a1, a2, a3, a4, a5, a6, a7⟩ | ⟨ci, kk, a, b, σ1, σ2, ok, a1, a2, a3, a4, a5, a6, a7⟩
  · obtain ⟨μ', h'⟩ := h σ2 a7 a5
    exact ⟨μ', fun l5 l6 => xl_task (K := 0) (b := v) hi hn (xF_sh hF rfl) (xF_sh (xF_setL (j := 0) (a := 264) (v := v.toInt64) a6) rfl) (xg_task_ok (d := 998) (xF_sh hF rfl) (xF_sh a6 rfl) a1) a2 (xF_sh a7 rfl) a3 (xF_sh a7 rfl) (fun _ => a4) h'⟩
  · obtain ⟨μ', h'⟩ := h σ2 a7 a5
    rcases ok with ⟨rfl, rfl⟩
    · exact ⟨μ', fun l5 l6 => xl_task (b := b) hi hn (xF_sh hF rfl) (xF_sh a6 rfl) (xg_task_14 (d := 998) (xF_sh hF rfl) a1 a2) a3 (xF_sh a7 rfl) a4 (xF_sh a7 rfl) (fun w => absurd w (by decide)) h'⟩
theorem z_op_check (hF : xF c σ) (hc : c ≤ 511) (hJ : zJJ σ σ) (hi : i + 6 ≤ xd_n δ) (hn : xd_n δ ≤ 3072) (h : ∀ σ2, xF (c + 1) σ2 → zJJ σ2 σ2 → ∃ μ', ∀ l5 l6, xs_G δ 1000 0 541 (xl_ls i l5 l6) [] σ2 o μ') : ∃ μ', ∀ l5 l6, xs_G δ 1000 0 168 (xl_ls i l5 l6) [] σ o μ' := by
  rcases z_lawv (δ := δ) (y := 89) (z := 181) (asC := [.ref 0, .int (xd_x δ (i + 1))]) (asR := [.ref 203, .int (xd_x δ (i + 1))]) (Dc := zD89 (xd_x δ (i + 1))) (Dr := zD181 (xd_x δ (i + 1))) hF hc hJ (fun μ hT => zD89_ok (by decide) _ μ hT) (fun μ0 μ hT => zD181_ok (by decide) _ μ hT) (fun μ ν q w => z_ccheck q w) with ⟨v, σ1, σ2, a1, a2, a3, a4, a5, a6, a7⟩ | ⟨ci, kk, a, b, σ1, σ2, ok, a1, a2, a3, a4, a5, a6, a7⟩
  · obtain ⟨μ', h'⟩ := h σ2 a7 a5
    exact ⟨μ', fun l5 l6 => xl_check (K := 0) (b := v) hi hn (xF_sh hF rfl) (xF_sh (xF_setL (j := 0) (a := 264) (v := v.toInt64) a6) rfl) (xg_check_ok (d := 998) (xF_sh hF rfl) (xF_sh a6 rfl) a1) a2 (xF_sh a7 rfl) a3 (xF_sh a7 rfl) (fun _ => a4) h'⟩
  · obtain ⟨μ', h'⟩ := h σ2 a7 a5
    rcases ok with ⟨rfl, rfl⟩
    · exact ⟨μ', fun l5 l6 => xl_check (b := b) hi hn (xF_sh hF rfl) (xF_sh a6 rfl) (xg_check_14 (d := 998) (xF_sh hF rfl) a1 a2) a3 (xF_sh a7 rfl) a4 (xF_sh a7 rfl) (fun w => absurd w (by decide)) h'⟩
theorem z_op_slack (hF : xF c σ) (hc : c ≤ 511) (hJ : zJJ σ σ) (hi : i + 6 ≤ xd_n δ) (hn : xd_n δ ≤ 3072) (h : ∀ σ2, xF (c + 1) σ2 → zJJ σ2 σ2 → ∃ μ', ∀ l5 l6, xs_G δ 1000 0 541 (xl_ls i l5 l6) [] σ2 o μ') : ∃ μ', ∀ l5 l6, xs_G δ 1000 0 203 (xl_ls i l5 l6) [] σ o μ' := by
  rcases z_lawv (δ := δ) (y := 92) (z := 182) (asC := [.ref 0, .int (xd_x δ (i + 1))]) (asR := [.ref 203, .int (xd_x δ (i + 1))]) (Dc := zD92 (xd_x δ (i + 1))) (Dr := zD182 (xd_x δ (i + 1))) hF hc hJ (fun μ hT => zD92_ok (by decide) _ μ hT) (fun μ0 μ hT => zD182_ok (by decide) _ μ hT) (fun μ ν q w => z_cslack q w) with ⟨v, σ1, σ2, a1, a2, a3, a4, a5, a6, a7⟩ | ⟨ci, kk, a, b, σ1, σ2, ok, a1, a2, a3, a4, a5, a6, a7⟩
  · obtain ⟨μ', h'⟩ := h σ2 a7 a5
    exact ⟨μ', fun l5 l6 => xl_slack (K := 0) (b := v) hi hn (xF_sh hF rfl) (xF_sh (xF_setL (j := 0) (a := 264) (v := v.toInt64) a6) rfl) (xg_slack_ok (d := 998) (xF_sh hF rfl) (xF_sh a6 rfl) a1) a2 (xF_sh a7 rfl) a3 (xF_sh a7 rfl) (fun _ => a4) h'⟩
  · obtain ⟨μ', h'⟩ := h σ2 a7 a5
    rcases ok with ⟨rfl, rfl⟩
    · exact ⟨μ', fun l5 l6 => xl_slack (b := b) hi hn (xF_sh hF rfl) (xF_sh a6 rfl) (xg_slack_14 (d := 998) (xF_sh hF rfl) a1 a2) a3 (xF_sh a7 rfl) a4 (xF_sh a7 rfl) (fun w => absurd w (by decide)) h'⟩
theorem z_op_slot (hF : xF c σ) (hc : c ≤ 511) (hJ : zJJ σ σ) (hi : i + 6 ≤ xd_n δ) (hn : xd_n δ ≤ 3072) (h : ∀ σ2, xF (c + 1) σ2 → zJJ σ2 σ2 → ∃ μ', ∀ l5 l6, xs_G δ 1000 0 541 (xl_ls i l5 l6) [] σ2 o μ') : ∃ μ', ∀ l5 l6, xs_G δ 1000 0 238 (xl_ls i l5 l6) [] σ o μ' := by
  rcases z_lawv (δ := δ) (y := 94) (z := 183) (asC := [.ref 0, .int (xd_x δ (i + 1)), .int (xd_x δ (i + 2))]) (asR := [.ref 203, .int (xd_x δ (i + 1)), .int (xd_x δ (i + 2))]) (Dc := zD94 (xd_x δ (i + 1)) (xd_x δ (i + 2))) (Dr := zD183 (xd_x δ (i + 1)) (xd_x δ (i + 2))) hF hc hJ (fun μ hT => zD94_ok (by decide) _ _ μ hT) (fun μ0 μ hT => zD183_ok (by decide) _ _ μ hT) (fun μ ν q w => z_cslot q w) with ⟨v, σ1, σ2, a1, a2, a3, a4, a5, a6, a7⟩ | ⟨ci, kk, a, b, σ1, σ2, ok, a1, a2, a3, a4, a5, a6, a7⟩
  · obtain ⟨μ', h'⟩ := h σ2 a7 a5
    exact ⟨μ', fun l5 l6 => xl_slot (K := 0) (b := v) hi hn (xF_sh hF rfl) (xF_sh (xF_setL (j := 0) (a := 264) (v := v.toInt64) a6) rfl) (xg_slot_ok (d := 998) (xF_sh hF rfl) (xF_sh a6 rfl) a1) a2 (xF_sh a7 rfl) a3 (xF_sh a7 rfl) (fun _ => a4) h'⟩
  · obtain ⟨μ', h'⟩ := h σ2 a7 a5
    rcases ok with ⟨rfl, rfl⟩
    · exact ⟨μ', fun l5 l6 => xl_slot (b := b) hi hn (xF_sh hF rfl) (xF_sh a6 rfl) (xg_slot_14 (d := 998) (xF_sh hF rfl) a1 a2) a3 (xF_sh a7 rfl) a4 (xF_sh a7 rfl) (fun w => absurd w (by decide)) h'⟩
theorem z_op_reset (hF : xF c σ) (hc : c ≤ 511) (hJ : zJJ σ σ) (hi : i + 6 ≤ xd_n δ) (hn : xd_n δ ≤ 3072) (h : ∀ σ2, xF (c + 1) σ2 → zJJ σ2 σ2 → ∃ μ', ∀ l5 l6, xs_G δ 1000 0 541 (xl_ls i l5 l6) [] σ2 o μ') : ∃ μ', ∀ l5 l6, xs_G δ 1000 0 283 (xl_ls i l5 l6) [] σ o μ' := by
  rcases z_lawn (δ := δ) (y := 96) (z := 177) (asC := [.ref 0, .int (xd_x δ (i + 1))]) (asR := [.ref 203, .int (xd_x δ (i + 1))]) (Dc := zD96 (xd_x δ (i + 1))) (Dr := zD177 (xd_x δ (i + 1))) hF hc hJ (fun μ hT => zD96_ok (by decide) _ μ hT) (fun μ0 μ hT => zD177_ok (by decide) _ μ hT) (fun μ ν q w => z_creset q w) with ⟨σ1, σ2, a1, a2, a3, a5, a6, a7⟩ | ⟨ci, kk, a, σ1, σ2, ok, a1, a2, a3, a4, a5, a6, a7⟩
  · obtain ⟨μ', h'⟩ := h σ2 a7 a5
    exact ⟨μ', fun l5 l6 => xl_reset (K := 0) hi hn (xF_sh hF rfl) (xF_sh a6 rfl) (xg_reset_ok (d := 998) (xF_sh hF rfl) a1) a2 (xF_sh a7 rfl) a3 h'⟩
  · obtain ⟨μ', h'⟩ := h σ2 a7 a5
    rcases ok with ⟨rfl, rfl⟩
    · exact ⟨μ', fun l5 l6 => xl_reset hi hn (xF_sh hF rfl) (xF_sh a6 rfl) (xg_reset_14 (d := 998) (xF_sh hF rfl) a1 a2) a3 (xF_sh a7 rfl) a4 h'⟩
theorem z_op_takes (hF : xF c σ) (hc : c ≤ 511) (hJ : zJJ σ σ) (hi : i + 6 ≤ xd_n δ) (hn : xd_n δ ≤ 3072) (h : ∀ σ2, xF (c + 1) σ2 → zJJ σ2 σ2 → ∃ μ', ∀ l5 l6, xs_G δ 1000 0 541 (xl_ls i l5 l6) [] σ2 o μ') : ∃ μ', ∀ l5 l6, xs_G δ 1000 0 305 (xl_ls i l5 l6) [] σ o μ' := by
  rcases z_lawn (δ := δ) (y := 99) (z := 184) (asC := [.ref 0, .int (xd_x δ (i + 1)), .int (xd_x δ (i + 2))]) (asR := [.ref 203, .int (xd_x δ (i + 1)), .int (xd_x δ (i + 2))]) (Dc := zD99 (xd_x δ (i + 1)) (xd_x δ (i + 2))) (Dr := zD184 (xd_x δ (i + 1)) (xd_x δ (i + 2))) hF hc hJ (fun μ hT => zD99_ok (by decide) _ _ μ hT) (fun μ0 μ hT => zD184_ok (by decide) _ _ μ hT) (fun μ ν q w => z_ctakes q w) with ⟨σ1, σ2, a1, a2, a3, a5, a6, a7⟩ | ⟨ci, kk, a, σ1, σ2, ok, a1, a2, a3, a4, a5, a6, a7⟩
  · obtain ⟨μ', h'⟩ := h σ2 a7 a5
    exact ⟨μ', fun l5 l6 => xl_takes (K := 0) hi hn (xF_sh hF rfl) (xF_sh a6 rfl) (xg_takes_ok (d := 998) (xF_sh hF rfl) a1) a2 (xF_sh a7 rfl) a3 h'⟩
  · obtain ⟨μ', h'⟩ := h σ2 a7 a5
    rcases ok with ⟨rfl, rfl⟩ | ⟨rfl, rfl⟩ | ⟨rfl, rfl⟩
    · exact ⟨μ', fun l5 l6 => xl_takes hi hn (xF_sh hF rfl) (xF_sh a6 rfl) (xg_takes_13 (d := 998) (xF_sh hF rfl) a1 a2) a3 (xF_sh a7 rfl) a4 h'⟩
    · exact ⟨μ', fun l5 l6 => xl_takes hi hn (xF_sh hF rfl) (xF_sh a6 rfl) (xg_takes_14 (d := 998) (xF_sh hF rfl) a1 a2) a3 (xF_sh a7 rfl) a4 h'⟩
    · exact ⟨μ', fun l5 l6 => xl_takes hi hn (xF_sh hF rfl) (xF_sh a6 rfl) (xg_takes_12 (d := 998) (xF_sh hF rfl) a1 a2) a3 (xF_sh a7 rfl) a4 h'⟩
theorem z_op_sensor (hF : xF c σ) (hc : c ≤ 511) (hJ : zJJ σ σ) (hi : i + 6 ≤ xd_n δ) (hn : xd_n δ ≤ 3072) (h : ∀ σ2, xF (c + 1) σ2 → zJJ σ2 σ2 → ∃ μ', ∀ l5 l6, xs_G δ 1000 0 541 (xl_ls i l5 l6) [] σ2 o μ') : ∃ μ', ∀ l5 l6, xs_G δ 1000 0 337 (xl_ls i l5 l6) [] σ o μ' := by
  rcases z_lawn (δ := δ) (y := 102) (z := 185) (asC := [.ref 0, .int (xd_x δ (i + 1)), .int (xd_x δ (i + 2))]) (asR := [.ref 203, .int (xd_x δ (i + 1)), .int (xd_x δ (i + 2))]) (Dc := zD102 (xd_x δ (i + 1)) (xd_x δ (i + 2))) (Dr := zD185 (xd_x δ (i + 1)) (xd_x δ (i + 2))) hF hc hJ (fun μ hT => zD102_ok (by decide) _ _ μ hT) (fun μ0 μ hT => zD185_ok (by decide) _ _ μ hT) (fun μ ν q w => z_csensor q w) with ⟨σ1, σ2, a1, a2, a3, a5, a6, a7⟩ | ⟨ci, kk, a, σ1, σ2, ok, a1, a2, a3, a4, a5, a6, a7⟩
  · obtain ⟨μ', h'⟩ := h σ2 a7 a5
    exact ⟨μ', fun l5 l6 => xl_sensor (K := 0) hi hn (xF_sh hF rfl) (xF_sh a6 rfl) (xg_sensor_ok (d := 998) (xF_sh hF rfl) a1) a2 (xF_sh a7 rfl) a3 h'⟩
  · obtain ⟨μ', h'⟩ := h σ2 a7 a5
    rcases ok with ⟨rfl, rfl⟩ | ⟨rfl, rfl⟩
    · exact ⟨μ', fun l5 l6 => xl_sensor hi hn (xF_sh hF rfl) (xF_sh a6 rfl) (xg_sensor_13 (d := 998) (xF_sh hF rfl) a1 a2) a3 (xF_sh a7 rfl) a4 h'⟩
    · exact ⟨μ', fun l5 l6 => xl_sensor hi hn (xF_sh hF rfl) (xF_sh a6 rfl) (xg_sensor_14 (d := 998) (xF_sh hF rfl) a1 a2) a3 (xF_sh a7 rfl) a4 h'⟩
theorem z_op_tick (hF : xF c σ) (hc : c ≤ 511) (hJ : zJJ σ σ) (hi : i + 6 ≤ xd_n δ) (hn : xd_n δ ≤ 3072) (h : ∀ σ2, xF (c + 1) σ2 → zJJ σ2 σ2 → ∃ μ', ∀ l5 l6, xs_G δ 1000 0 541 (xl_ls i l5 l6) [] σ2 o μ') : ∃ μ', ∀ l5 l6, xs_G δ 1000 0 369 (xl_ls i l5 l6) [] σ o μ' := by
  rcases z_lawn (δ := δ) (y := 104) (z := 186) (asC := [.ref 0, .int (xd_x δ (i + 1))]) (asR := [.ref 203, .int (xd_x δ (i + 1))]) (Dc := zD104 (xd_x δ (i + 1))) (Dr := zD186 (xd_x δ (i + 1))) hF hc hJ (fun μ hT => zD104_ok (by decide) _ μ hT) (fun μ0 μ hT => zD186_ok (by decide) _ μ hT) (fun μ ν q w => z_ctick q w) with ⟨σ1, σ2, a1, a2, a3, a5, a6, a7⟩ | ⟨ci, kk, a, σ1, σ2, ok, a1, a2, a3, a4, a5, a6, a7⟩
  · obtain ⟨μ', h'⟩ := h σ2 a7 a5
    exact ⟨μ', fun l5 l6 => xl_tick (K := 0) hi hn (xF_sh hF rfl) (xF_sh a6 rfl) (xg_tick_ok (d := 998) (xF_sh hF rfl) a1) a2 (xF_sh a7 rfl) a3 h'⟩
  · obtain ⟨μ', h'⟩ := h σ2 a7 a5
    rcases ok with ⟨rfl, rfl⟩ | ⟨rfl, rfl⟩
    · exact ⟨μ', fun l5 l6 => xl_tick hi hn (xF_sh hF rfl) (xF_sh a6 rfl) (xg_tick_13 (d := 998) (xF_sh hF rfl) a1 a2) a3 (xF_sh a7 rfl) a4 h'⟩
    · exact ⟨μ', fun l5 l6 => xl_tick hi hn (xF_sh hF rfl) (xF_sh a6 rfl) (xg_tick_12 (d := 998) (xF_sh hF rfl) a1 a2) a3 (xF_sh a7 rfl) a4 h'⟩
theorem z_op_port (hF : xF c σ) (hc : c ≤ 511) (hJ : zJJ σ σ) (hi : i + 6 ≤ xd_n δ) (hn : xd_n δ ≤ 3072) (h : ∀ σ2, xF (c + 1) σ2 → zJJ σ2 σ2 → ∃ μ', ∀ l5 l6, xs_G δ 1000 0 541 (xl_ls i l5 l6) [] σ2 o μ') : ∃ μ', ∀ l5 l6, xs_G δ 1000 0 391 (xl_ls i l5 l6) [] σ o μ' := by
  rcases z_lawv (δ := δ) (y := 121) (z := 194) (asC := [.ref 0, .int (xd_x δ (i + 1)), .int (xd_x δ (i + 2))]) (asR := [.ref 203, .int (xd_x δ (i + 1)), .int (xd_x δ (i + 2))]) (Dc := zD121 (xd_x δ (i + 1)) (xd_x δ (i + 2))) (Dr := zD194 (xd_x δ (i + 1)) (xd_x δ (i + 2))) hF hc hJ (fun μ hT => zD121_ok (by decide) _ _ μ hT) (fun μ0 μ hT => zD194_ok (by decide) _ _ μ hT) (fun μ ν q w => z_cport q w) with ⟨v, σ1, σ2, a1, a2, a3, a4, a5, a6, a7⟩ | ⟨ci, kk, a, b, σ1, σ2, ok, a1, a2, a3, a4, a5, a6, a7⟩
  · obtain ⟨μ', h'⟩ := h σ2 a7 a5
    exact ⟨μ', fun l5 l6 => xl_port (K := 0) (b := v) hi hn (xF_sh hF rfl) (xF_sh (xF_setL (j := 0) (a := 264) (v := v.toInt64) a6) rfl) (xg_port_ok (d := 998) (xF_sh hF rfl) (xF_sh a6 rfl) a1) a2 (xF_sh a7 rfl) a3 (xF_sh a7 rfl) (fun _ => a4) h'⟩
  · obtain ⟨μ', h'⟩ := h σ2 a7 a5
    rcases ok with ⟨rfl, rfl⟩ | ⟨rfl, rfl⟩
    · exact ⟨μ', fun l5 l6 => xl_port (b := b) hi hn (xF_sh hF rfl) (xF_sh a6 rfl) (xg_port_13 (d := 998) (xF_sh hF rfl) a1 a2) a3 (xF_sh a7 rfl) a4 (xF_sh a7 rfl) (fun w => absurd w (by decide)) h'⟩
    · exact ⟨μ', fun l5 l6 => xl_port (b := b) hi hn (xF_sh hF rfl) (xF_sh a6 rfl) (xg_port_14 (d := 998) (xF_sh hF rfl) a1 a2) a3 (xF_sh a7 rfl) a4 (xF_sh a7 rfl) (fun w => absurd w (by decide)) h'⟩
theorem z_op_denoted (hF : xF c σ) (hc : c ≤ 511) (hJ : zJJ σ σ) (hi : i + 6 ≤ xd_n δ) (hn : xd_n δ ≤ 3072) (h : ∀ σ2, xF (c + 1) σ2 → zJJ σ2 σ2 → ∃ μ', ∀ l5 l6, xs_G δ 1000 0 541 (xl_ls i l5 l6) [] σ2 o μ') : ∃ μ', ∀ l5 l6, xs_G δ 1000 0 436 (xl_ls i l5 l6) [] σ o μ' := by
  rcases z_lawv (δ := δ) (y := 123) (z := 195) (asC := [.ref 0, .int (xd_x δ (i + 1))]) (asR := [.ref 203, .int (xd_x δ (i + 1))]) (Dc := zD123 (xd_x δ (i + 1))) (Dr := zD195 (xd_x δ (i + 1))) hF hc hJ (fun μ hT => zD123_ok (by decide) _ μ hT) (fun μ0 μ hT => zD195_ok (by decide) _ μ hT) (fun μ ν q w => z_cdenoted q w) with ⟨v, σ1, σ2, a1, a2, a3, a4, a5, a6, a7⟩ | ⟨ci, kk, a, b, σ1, σ2, ok, a1, a2, a3, a4, a5, a6, a7⟩
  · obtain ⟨μ', h'⟩ := h σ2 a7 a5
    exact ⟨μ', fun l5 l6 => xl_denoted (K := 0) (b := v) hi hn (xF_sh hF rfl) (xF_sh (xF_setL (j := 0) (a := 264) (v := v.toInt64) a6) rfl) (xg_denoted_ok (d := 998) (xF_sh hF rfl) (xF_sh a6 rfl) a1) a2 (xF_sh a7 rfl) a3 (xF_sh a7 rfl) (fun _ => a4) h'⟩
  · obtain ⟨μ', h'⟩ := h σ2 a7 a5
    rcases ok with ⟨rfl, rfl⟩ | ⟨rfl, rfl⟩
    · exact ⟨μ', fun l5 l6 => xl_denoted (b := b) hi hn (xF_sh hF rfl) (xF_sh a6 rfl) (xg_denoted_13 (d := 998) (xF_sh hF rfl) a1 a2) a3 (xF_sh a7 rfl) a4 (xF_sh a7 rfl) (fun w => absurd w (by decide)) h'⟩
    · exact ⟨μ', fun l5 l6 => xl_denoted (b := b) hi hn (xF_sh hF rfl) (xF_sh a6 rfl) (xg_denoted_14 (d := 998) (xF_sh hF rfl) a1 a2) a3 (xF_sh a7 rfl) a4 (xF_sh a7 rfl) (fun w => absurd w (by decide)) h'⟩
theorem z_op_state (hF : xF c σ) (hc : c ≤ 511) (hJ : zJJ σ σ) (hi : i + 6 ≤ xd_n δ) (hn : xd_n δ ≤ 3072) (h : ∀ σ2, xF (c + 1) σ2 → zJJ σ2 σ2 → ∃ μ', ∀ l5 l6, xs_G δ 1000 0 541 (xl_ls i l5 l6) [] σ2 o μ') : ∃ μ', ∀ l5 l6, xs_G δ 1000 0 471 (xl_ls i l5 l6) [] σ o μ' := by
  rcases z_lawv (δ := δ) (y := 125) (z := 196) (asC := [.ref 0, .int (xd_x δ (i + 1))]) (asR := [.ref 203, .int (xd_x δ (i + 1))]) (Dc := zD125 (xd_x δ (i + 1))) (Dr := zD196 (xd_x δ (i + 1))) hF hc hJ (fun μ hT => zD125_ok (by decide) _ μ hT) (fun μ0 μ hT => zD196_ok (by decide) _ μ hT) (fun μ ν q w => z_cstate q w) with ⟨v, σ1, σ2, a1, a2, a3, a4, a5, a6, a7⟩ | ⟨ci, kk, a, b, σ1, σ2, ok, a1, a2, a3, a4, a5, a6, a7⟩
  · obtain ⟨μ', h'⟩ := h σ2 a7 a5
    exact ⟨μ', fun l5 l6 => xl_state (K := 0) (b := v) hi hn (xF_sh hF rfl) (xF_sh (xF_setL (j := 0) (a := 264) (v := v.toInt64) a6) rfl) (xg_state_ok (d := 998) (xF_sh hF rfl) (xF_sh a6 rfl) a1) a2 (xF_sh a7 rfl) a3 (xF_sh a7 rfl) (fun _ => a4) h'⟩
  · obtain ⟨μ', h'⟩ := h σ2 a7 a5
    rcases ok with ⟨rfl, rfl⟩ | ⟨rfl, rfl⟩
    · exact ⟨μ', fun l5 l6 => xl_state (b := b) hi hn (xF_sh hF rfl) (xF_sh a6 rfl) (xg_state_13 (d := 998) (xF_sh hF rfl) a1 a2) a3 (xF_sh a7 rfl) a4 (xF_sh a7 rfl) (fun w => absurd w (by decide)) h'⟩
    · exact ⟨μ', fun l5 l6 => xl_state (b := b) hi hn (xF_sh hF rfl) (xF_sh a6 rfl) (xg_state_14 (d := 998) (xF_sh hF rfl) a1 a2) a3 (xF_sh a7 rfl) a4 (xF_sh a7 rfl) (fun w => absurd w (by decide)) h'⟩
theorem z_op_running (hF : xF c σ) (hc : c ≤ 511) (hJ : zJJ σ σ) (hi : i + 6 ≤ xd_n δ) (hn : xd_n δ ≤ 3072) (h : ∀ σ2, xF (c + 1) σ2 → zJJ σ2 σ2 → ∃ μ', ∀ l5 l6, xs_G δ 1000 0 541 (xl_ls i l5 l6) [] σ2 o μ') : ∃ μ', ∀ l5 l6, xs_G δ 1000 0 506 (xl_ls i l5 l6) [] σ o μ' := by
  rcases z_lawv (δ := δ) (y := 127) (z := 197) (asC := [.ref 0, .int (xd_x δ (i + 1))]) (asR := [.ref 203, .int (xd_x δ (i + 1))]) (Dc := zD127 (xd_x δ (i + 1))) (Dr := zD197 (xd_x δ (i + 1))) hF hc hJ (fun μ hT => zD127_ok (by decide) _ μ hT) (fun μ0 μ hT => zD197_ok (by decide) _ μ hT) (fun μ ν q w => z_crunning q w) with ⟨v, σ1, σ2, a1, a2, a3, a4, a5, a6, a7⟩ | ⟨ci, kk, a, b, σ1, σ2, ok, a1, a2, a3, a4, a5, a6, a7⟩
  · obtain ⟨μ', h'⟩ := h σ2 a7 a5
    exact ⟨μ', fun l5 l6 => xl_running (K := 0) (b := v) hi hn (xF_sh hF rfl) (xF_sh (xF_setL (j := 0) (a := 264) (v := v.toInt64) a6) rfl) (xg_running_ok (d := 998) (xF_sh hF rfl) (xF_sh a6 rfl) a1) a2 (xF_sh a7 rfl) a3 (xF_sh a7 rfl) (fun _ => a4) h'⟩
  · obtain ⟨μ', h'⟩ := h σ2 a7 a5
    rcases ok with ⟨rfl, rfl⟩ | ⟨rfl, rfl⟩
    · exact ⟨μ', fun l5 l6 => xl_running (b := b) hi hn (xF_sh hF rfl) (xF_sh a6 rfl) (xg_running_13 (d := 998) (xF_sh hF rfl) a1 a2) a3 (xF_sh a7 rfl) a4 (xF_sh a7 rfl) (fun w => absurd w (by decide)) h'⟩
    · exact ⟨μ', fun l5 l6 => xl_running (b := b) hi hn (xF_sh hF rfl) (xF_sh a6 rfl) (xg_running_14 (d := 998) (xF_sh hF rfl) a1 a2) a3 (xF_sh a7 rfl) a4 (xF_sh a7 rfl) (fun w => absurd w (by decide)) h'⟩
end
/-- both objects are new -/
theorem zI_0 : ∀ t, t < 24 → (xv_it.getD (61 + 5 * t) []).lookup 0 = some (nI t) := by decide +kernel
theorem zI_1 : ∀ m, m < 4 → (xv_it.getD (17 + 11 * m) []).lookup 0 = some (nI m) := by decide +kernel
theorem zWn_0 : ∀ w, w < 11 → xv_wn.getD w 0 = nL (zlr (zwd w).reverse) := by decide +kernel
theorem zL_0 {w : Nat} (hw : w < 11) : xe_L xv_0 206 w = xv_wn.getD w 0 := by
  have h := xv_ok
  unfold xv_chk at h
  simp only [Bool.and_eq_true, decide_eq_true_eq, List.all_eq_true] at h
  exact h.2 w (List.mem_range.mpr hw)
theorem zJ_00 : zJJ xv_0 xv_0 := by
  refine ⟨⟨fun _ => 0, fun _ => 0, 0, 0, ⟨by omega, by omega, by omega⟩, ⟨xI_0 rfl, xI_0 rfl, xI_0 rfl, xI_0 rfl⟩, fun i hi => by omega, fun i hi => by omega, fun i hi => by omega, fun i hi => by omega, fun w hw => (zL_0 hw).trans (zWn_0 w hw)⟩, ⟨⟨xF_0.2.1, xF_0.1⟩, fun t ht => xI_0 (zI_0 t ht), fun i hi => xI_0 (zI_1 i hi), 0, by decide, xI_0 rfl⟩, 0, 0, 0, 0, 0, 0, fun _ => 0, fun _ => 0, fun _ => 0, fun _ => 0, ⟨⟨by omega, by omega, by omega, by omega⟩, ⟨⟨xI_0 rfl, xI_0 rfl, xI_0 rfl, xI_0 rfl⟩, ⟨xI_0 rfl, xI_0 rfl, xI_0 rfl, xI_0 rfl⟩⟩, fun j hj => by omega, fun t ht => by omega, fun m hm => by omega⟩, Or.inl rfl, Or.inl ⟨xI_0 rfl, xI_0 rfl⟩⟩
theorem z_lawloop {δ : xe_Dy} (hn : xd_n δ ≤ 3072) : ∀ (r q : Nat) (σ : xe_Mem), q ≤ 512 → xd_n δ < 6 * q + 6 * r + 6 → xF q σ → zJJ σ σ → ∃ μ', ∀ l5 l6, xs_G δ 1000 0 13 (xl_ls (6 * q) l5 l6) [] σ (.inl (some (.int 1))) μ' := by
  intro r
  induction r with
  | zero =>
    intro q σ h512 h hF hJ
    exact ⟨σ, fun l5 l6 => xl_exit (by omega) (by omega) hn⟩
  | succ r ih =>
    intro q σ h512 h hF hJ
    by_cases hx : xd_n δ < 6 * q + 6
    · exact ih q σ h512 (by omega) hF hJ
    · have hi : 6 * q + 6 ≤ xd_n δ := by omega
      have hc : q ≤ 511 := by omega
      have hk : ∀ σ2, xF (q + 1) σ2 → zJJ σ2 σ2 → ∃ μ', ∀ l5 l6, xs_G δ 1000 0 541 (xl_ls (6 * q) l5 l6) [] σ2 (.inl (some (.int 1))) μ' := fun σ2 hF2 hJ2 => by
        obtain ⟨μ', h'⟩ := ih (q + 1) σ2 (by omega) (by omega) hF2 hJ2
        exact ⟨μ', fun l5 l6 => xl_next (h' l5 l6)⟩
      obtain ⟨j, hj, hjx⟩ := xl_and15 (xd_x δ (6 * q))
      have hd : ∀ b, [25, 82, 99, 106, 123, 168, 203, 238, 283, 305, 337, 369, 391, 436, 471, 506][j]? = some b → (∃ μ', ∀ l5 l6, xs_G δ 1000 0 b (xl_ls (6 * q) l5 l6) [] σ (.inl (some (.int 1))) μ') → ∃ μ', ∀ l5 l6, xs_G δ 1000 0 13 (xl_ls (6 * q) l5 l6) [] σ (.inl (some (.int 1))) μ' := fun b hb ⟨μ', h'⟩ => ⟨μ', fun l5 l6 => xl_disp hi hn hj hjx hb (h' l5 l6)⟩
      clear hjx
      match j, hj, hd with
      | 0, _, hd => exact hd 25 rfl (z_op_feed hF hc hJ hi hn hk)
      | 1, _, hd => exact hd 82 rfl (z_op_end hF hc hJ hi hn hk)
      | 2, _, hd => exact hd 99 rfl (z_op_compile hF hc hJ hi hn hk)
      | 3, _, hd => exact hd 106 rfl (z_op_count hF hc hJ hi hn hk)
      | 4, _, hd => exact hd 123 rfl (z_op_task hF hc hJ hi hn hk)
      | 5, _, hd => exact hd 168 rfl (z_op_check hF hc hJ hi hn hk)
      | 6, _, hd => exact hd 203 rfl (z_op_slack hF hc hJ hi hn hk)
      | 7, _, hd => exact hd 238 rfl (z_op_slot hF hc hJ hi hn hk)
      | 8, _, hd => exact hd 283 rfl (z_op_reset hF hc hJ hi hn hk)
      | 9, _, hd => exact hd 305 rfl (z_op_takes hF hc hJ hi hn hk)
      | 10, _, hd => exact hd 337 rfl (z_op_sensor hF hc hJ hi hn hk)
      | 11, _, hd => exact hd 369 rfl (z_op_tick hF hc hJ hi hn hk)
      | 12, _, hd => exact hd 391 rfl (z_op_port hF hc hJ hi hn hk)
      | 13, _, hd => exact hd 436 rfl (z_op_denoted hF hc hJ hi hn hk)
      | 14, _, hd => exact hd 471 rfl (z_op_state hF hc hJ hi hn hk)
      | 15, _, hd => exact hd 506 rfl (z_op_running hF hc hJ hi hn hk)
      | n + 16, h, _ => exact absurd h (by omega)
theorem xw_law : xw_Law := by
  intro δ hn
  obtain ⟨μ', h⟩ := z_lawloop hn 512 0 xv_0 (by omega) (by omega) xF_0 zJ_00
  obtain ⟨n, h⟩ := xl_begin (h none none)
  exact ⟨n, μ', h⟩
theorem i_vc : Claimed_1_1 ∧ Claimed_1_2 := xw_claim xw_law
