/-! refusals, of the class and of the reference (by wip/whole/gen/api.py) -/
theorem xe_ci_add {μ : xe_Mem} {ci n : Nat} : xe_ci (xe_add μ (.inl ci) n) (xe_sh μ).length = some ci := by
  unfold xe_ci
  have : (xe_sh (xe_add μ (.inl ci) n))[(xe_sh μ).length]? = some (.inl ci) := by
    show (xe_sh μ ++ [_])[(xe_sh μ).length]? = _
    rw [List.getElem?_append_right (Nat.le_refl _), Nat.sub_self]
    rfl
  rw [this]
theorem xu_I {μ : xe_Mem} {a j : Nat} {v : Int32} : xe_I (xe_setI μ a j v) a j = v := by
  show (if a = a ∧ j = j then v else _) = v
  rw [if_pos ⟨rfl, rfl⟩]
theorem xu_In {μ : xe_Mem} {a b j i : Nat} {v : Int32} (h : ¬ (b = a ∧ i = j)) : xe_I (xe_setI μ a j v) b i = xe_I μ b i := by
  show (if b = a ∧ i = j then v else _) = _
  rw [if_neg h]
section
variable {δ : xe_Dy} {c d : Nat} {μ : xe_Mem}
theorem xc_below_no {n s : Int32} (hF : xF c μ) (hc : c ≤ 512) (h : n < 0 ∨ ¬ n < s) : xs_M δ d 86 [.int n, .int s] μ (.inr (xe_sh μ).length) (xe_add μ (.inl 14) 6) := by
  by_cases h0 : n < 0
  · skip
    refine xs_op rfl rfl ?_
    refine xs_ifltT rfl h0 ?_
    exact xs_thr (c := 14) rfl (xF_len hF hc) (xF_sl hF hc) (by decide) (by decide)
  · have h1 : ¬ n < s := h.resolve_left h0
    refine xs_op rfl rfl ?_
    refine xs_ifltF rfl h0 ?_
    refine xs_op rfl rfl ?_
    refine xs_op rfl rfl ?_
    refine xs_icltF rfl h1 ?_
    exact xs_thr (c := 14) rfl (xF_len hF hc) (xF_sl hF hc) (by decide) (by decide)
theorem xc_below_ok {n s : Int32} (h0 : ¬ n < 0) (h1 : n < s) : xs_M δ d 86 [.int n, .int s] μ (.inl none) μ := by
  refine xs_op rfl rfl ?_
  refine xs_ifltF rfl h0 ?_
  refine xs_op rfl rfl ?_
  refine xs_op rfl rfl ?_
  refine xs_icltT rfl h1 ?_
  exact xs_ret0 rfl
theorem xc_taskNo {t : Int32} (hF : xF c μ) (hc : c ≤ 512) (h : t < 0 ∨ ¬ t < xe_I μ 7 7) : xs_M δ (d + 1) 85 [.ref 0, .int t] μ (.inr (xe_sh μ).length) (xe_add μ (.inl 14) 6) := by
  refine xs_op rfl rfl ?_
  refine xs_op rfl rfl ?_
  refine xs_gR rfl (xF_sh hF rfl) (xF_r hF rfl) ?_
  refine xs_gI rfl (xF_sh hF rfl) ?_
  exact xs_callT rfl (as := [.int t, .int (xe_I μ 7 7)]) (rest := []) rfl rfl rfl (Nat.le_of_ble_eq_true rfl) (Nat.le_of_ble_eq_true rfl) (by decide) (xc_below_no hF hc h) xe_ci_add (by decide)
theorem xc_modeNo {t : Int32} (hF : xF c μ) (hc : c ≤ 512) (h : t < 0 ∨ ¬ t < xe_I μ 7 6) : xs_M δ (d + 1) 90 [.ref 0, .int t] μ (.inr (xe_sh μ).length) (xe_add μ (.inl 14) 6) := by
  refine xs_op rfl rfl ?_
  refine xs_op rfl rfl ?_
  refine xs_gR rfl (xF_sh hF rfl) (xF_r hF rfl) ?_
  refine xs_gI rfl (xF_sh hF rfl) ?_
  exact xs_callT rfl (as := [.int t, .int (xe_I μ 7 6)]) (rest := []) rfl rfl rfl (Nat.le_of_ble_eq_true rfl) (Nat.le_of_ble_eq_true rfl) (by decide) (xc_below_no hF hc h) xe_ci_add (by decide)
theorem xc_runs_no (hF : xF c μ) (hc : c ≤ 512) (h : xe_I μ 194 1 = 0) : xs_M δ d 100 [.ref 0] μ (.inr (xe_sh μ).length) (xe_add μ (.inl 13) 6) := by
  refine xs_op rfl rfl ?_
  refine xs_gR rfl (xF_sh hF rfl) (xF_r hF rfl) ?_
  refine xs_gIv rfl (xF_sh hF rfl) h ?_
  refine xs_ifneF rfl rfl ?_
  exact xs_thr (c := 13) rfl (xF_len hF hc) (xF_sl hF hc) (by decide) (by decide)
theorem xc_runs_ok (hF : xF c μ) (h : ¬ xe_I μ 194 1 = 0) : xs_M δ d 100 [.ref 0] μ (.inl none) μ := by
  refine xs_op rfl rfl ?_
  refine xs_gR rfl (xF_sh hF rfl) (xF_r hF rfl) ?_
  refine xs_gI rfl (xF_sh hF rfl) ?_
  refine xs_ifneT rfl h ?_
  exact xs_ret0 rfl
theorem xc_task_no {t w : Int32} (hF : xF c μ) (hc : c ≤ 512) (h : t < 0 ∨ ¬ t < xe_I μ 7 7) : xs_M δ (d + 2) 84 [.ref 0, .int t, .int w] μ (.inr (xe_sh μ).length) (xe_add μ (.inl 14) 6) := by
  refine xs_op rfl rfl ?_
  refine xs_op rfl rfl ?_
  exact xs_callT rfl (as := [.ref 0, .int t]) (rest := []) rfl rfl (xe_rcvO (xF_sh hF rfl)) (Nat.le_of_ble_eq_true rfl) (Nat.le_of_ble_eq_true rfl) (by decide) (xc_taskNo hF hc h) xe_ci_add (by decide)
theorem xc_check_no {t : Int32} (hF : xF c μ) (hc : c ≤ 512) (h : t < 0 ∨ ¬ t < xe_I μ 7 6) : xs_M δ (d + 2) 89 [.ref 0, .int t] μ (.inr (xe_sh μ).length) (xe_add μ (.inl 14) 6) := by
  refine xs_op rfl rfl ?_
  refine xs_op rfl rfl ?_
  exact xs_callT rfl (as := [.ref 0, .int t]) (rest := []) rfl rfl (xe_rcvO (xF_sh hF rfl)) (Nat.le_of_ble_eq_true rfl) (Nat.le_of_ble_eq_true rfl) (by decide) (xc_modeNo hF hc h) xe_ci_add (by decide)
theorem xc_slack_no {t : Int32} (hF : xF c μ) (hc : c ≤ 512) (h : t < 0 ∨ ¬ t < xe_I μ 7 7) : xs_M δ (d + 2) 92 [.ref 0, .int t] μ (.inr (xe_sh μ).length) (xe_add μ (.inl 14) 6) := by
  refine xs_op rfl rfl ?_
  refine xs_op rfl rfl ?_
  exact xs_callT rfl (as := [.ref 0, .int t]) (rest := []) rfl rfl (xe_rcvO (xF_sh hF rfl)) (Nat.le_of_ble_eq_true rfl) (Nat.le_of_ble_eq_true rfl) (by decide) (xc_taskNo hF hc h) xe_ci_add (by decide)
theorem xc_slot_no {t w : Int32} (hF : xF c μ) (hc : c ≤ 512) (h : t < 0 ∨ ¬ t < xe_I μ 7 6) : xs_M δ (d + 2) 94 [.ref 0, .int t, .int w] μ (.inr (xe_sh μ).length) (xe_add μ (.inl 14) 6) := by
  refine xs_op rfl rfl ?_
  refine xs_op rfl rfl ?_
  exact xs_callT rfl (as := [.ref 0, .int t]) (rest := []) rfl rfl (xe_rcvO (xF_sh hF rfl)) (Nat.le_of_ble_eq_true rfl) (Nat.le_of_ble_eq_true rfl) (by decide) (xc_modeNo hF hc h) xe_ci_add (by decide)
theorem xc_reset_no {t : Int32} (hF : xF c μ) (hc : c ≤ 512) (h : t < 0 ∨ ¬ t < xe_I μ 7 6) : xs_M δ (d + 2) 96 [.ref 0, .int t] μ (.inr (xe_sh μ).length) (xe_add μ (.inl 14) 6) := by
  refine xs_op rfl rfl ?_
  refine xs_op rfl rfl ?_
  exact xs_callT rfl (as := [.ref 0, .int t]) (rest := []) rfl rfl (xe_rcvO (xF_sh hF rfl)) (Nat.le_of_ble_eq_true rfl) (Nat.le_of_ble_eq_true rfl) (by decide) (xc_modeNo hF hc h) xe_ci_add (by decide)
theorem xc_takes_not {t w : Int32} (hF : xF c μ) (hc : c ≤ 512) (h : xe_I μ 194 1 = 0) : xs_M δ (d + 1) 99 [.ref 0, .int t, .int w] μ (.inr (xe_sh μ).length) (xe_add μ (.inl 13) 6) := by
  refine xs_op rfl rfl ?_
  exact xs_callT rfl (as := [.ref 0]) (rest := []) rfl rfl (xe_rcvO (xF_sh hF rfl)) (Nat.le_of_ble_eq_true rfl) (Nat.le_of_ble_eq_true rfl) (by decide) (xc_runs_no hF hc h) xe_ci_add (by decide)
theorem xc_sensor_not {t w : Int32} (hF : xF c μ) (hc : c ≤ 512) (h : xe_I μ 194 1 = 0) : xs_M δ (d + 1) 102 [.ref 0, .int t, .int w] μ (.inr (xe_sh μ).length) (xe_add μ (.inl 13) 6) := by
  refine xs_op rfl rfl ?_
  exact xs_callT rfl (as := [.ref 0]) (rest := []) rfl rfl (xe_rcvO (xF_sh hF rfl)) (Nat.le_of_ble_eq_true rfl) (Nat.le_of_ble_eq_true rfl) (by decide) (xc_runs_no hF hc h) xe_ci_add (by decide)
theorem xc_tick_not {t : Int32} (hF : xF c μ) (hc : c ≤ 512) (h : xe_I μ 194 1 = 0) : xs_M δ (d + 1) 104 [.ref 0, .int t] μ (.inr (xe_sh μ).length) (xe_add μ (.inl 13) 6) := by
  refine xs_op rfl rfl ?_
  exact xs_callT rfl (as := [.ref 0]) (rest := []) rfl rfl (xe_rcvO (xF_sh hF rfl)) (Nat.le_of_ble_eq_true rfl) (Nat.le_of_ble_eq_true rfl) (by decide) (xc_runs_no hF hc h) xe_ci_add (by decide)
theorem xc_port_not {t w : Int32} (hF : xF c μ) (hc : c ≤ 512) (h : xe_I μ 194 1 = 0) : xs_M δ (d + 1) 121 [.ref 0, .int t, .int w] μ (.inr (xe_sh μ).length) (xe_add μ (.inl 13) 6) := by
  refine xs_op rfl rfl ?_
  exact xs_callT rfl (as := [.ref 0]) (rest := []) rfl rfl (xe_rcvO (xF_sh hF rfl)) (Nat.le_of_ble_eq_true rfl) (Nat.le_of_ble_eq_true rfl) (by decide) (xc_runs_no hF hc h) xe_ci_add (by decide)
theorem xc_denoted_not {t : Int32} (hF : xF c μ) (hc : c ≤ 512) (h : xe_I μ 194 1 = 0) : xs_M δ (d + 1) 123 [.ref 0, .int t] μ (.inr (xe_sh μ).length) (xe_add μ (.inl 13) 6) := by
  refine xs_op rfl rfl ?_
  exact xs_callT rfl (as := [.ref 0]) (rest := []) rfl rfl (xe_rcvO (xF_sh hF rfl)) (Nat.le_of_ble_eq_true rfl) (Nat.le_of_ble_eq_true rfl) (by decide) (xc_runs_no hF hc h) xe_ci_add (by decide)
theorem xc_state_not {t : Int32} (hF : xF c μ) (hc : c ≤ 512) (h : xe_I μ 194 1 = 0) : xs_M δ (d + 1) 125 [.ref 0, .int t] μ (.inr (xe_sh μ).length) (xe_add μ (.inl 13) 6) := by
  refine xs_op rfl rfl ?_
  exact xs_callT rfl (as := [.ref 0]) (rest := []) rfl rfl (xe_rcvO (xF_sh hF rfl)) (Nat.le_of_ble_eq_true rfl) (Nat.le_of_ble_eq_true rfl) (by decide) (xc_runs_no hF hc h) xe_ci_add (by decide)
theorem xc_running_not {t : Int32} (hF : xF c μ) (hc : c ≤ 512) (h : xe_I μ 194 1 = 0) : xs_M δ (d + 1) 127 [.ref 0, .int t] μ (.inr (xe_sh μ).length) (xe_add μ (.inl 13) 6) := by
  refine xs_op rfl rfl ?_
  exact xs_callT rfl (as := [.ref 0]) (rest := []) rfl rfl (xe_rcvO (xF_sh hF rfl)) (Nat.le_of_ble_eq_true rfl) (Nat.le_of_ble_eq_true rfl) (by decide) (xc_runs_no hF hc h) xe_ci_add (by decide)
theorem xh_task_no {t w : Int32} (hF : xF c μ) (hc : c ≤ 512) (h : t < 0 ∨ ¬ t < xe_I μ 7 7) : xs_M δ (d + 3) 83 [.ref 0, .int t, .int w, .ref 264] μ (.inl (some (.int 1))) (xe_add μ (.inl 14) 6) := by
  refine xs_op rfl rfl ?_
  refine xs_op rfl rfl ?_
  refine xs_op rfl rfl ?_
  refine xs_op rfl rfl ?_
  refine xs_op rfl rfl ?_
  refine xs_callC rfl (as := [.ref 0, .int t, .int w]) (rest := [.int 0, .ref 264]) rfl rfl (xe_rcvO (xF_sh hF rfl)) (Nat.le_of_ble_eq_true rfl) (Nat.le_of_ble_eq_true rfl) (by decide) (xc_task_no hF hc h) xe_ci_add (kh := 9) (by decide) ?_
  refine xs_op rfl rfl ?_
  refine xs_op rfl rfl ?_
  exact xs_ret1 rfl
theorem xh_check_no {t : Int32} (hF : xF c μ) (hc : c ≤ 512) (h : t < 0 ∨ ¬ t < xe_I μ 7 6) : xs_M δ (d + 3) 88 [.ref 0, .int t, .ref 264] μ (.inl (some (.int 1))) (xe_add μ (.inl 14) 6) := by
  refine xs_op rfl rfl ?_
  refine xs_op rfl rfl ?_
  refine xs_op rfl rfl ?_
  refine xs_op rfl rfl ?_
  refine xs_callC rfl (as := [.ref 0, .int t]) (rest := [.int 0, .ref 264]) rfl rfl (xe_rcvO (xF_sh hF rfl)) (Nat.le_of_ble_eq_true rfl) (Nat.le_of_ble_eq_true rfl) (by decide) (xc_check_no hF hc h) xe_ci_add (kh := 8) (by decide) ?_
  refine xs_op rfl rfl ?_
  refine xs_op rfl rfl ?_
  exact xs_ret1 rfl
theorem xh_slack_no {t : Int32} (hF : xF c μ) (hc : c ≤ 512) (h : t < 0 ∨ ¬ t < xe_I μ 7 7) : xs_M δ (d + 3) 91 [.ref 0, .int t, .ref 264] μ (.inl (some (.int 1))) (xe_add μ (.inl 14) 6) := by
  refine xs_op rfl rfl ?_
  refine xs_op rfl rfl ?_
  refine xs_op rfl rfl ?_
  refine xs_op rfl rfl ?_
  refine xs_callC rfl (as := [.ref 0, .int t]) (rest := [.int 0, .ref 264]) rfl rfl (xe_rcvO (xF_sh hF rfl)) (Nat.le_of_ble_eq_true rfl) (Nat.le_of_ble_eq_true rfl) (by decide) (xc_slack_no hF hc h) xe_ci_add (kh := 8) (by decide) ?_
  refine xs_op rfl rfl ?_
  refine xs_op rfl rfl ?_
  exact xs_ret1 rfl
theorem xh_slot_no {t w : Int32} (hF : xF c μ) (hc : c ≤ 512) (h : t < 0 ∨ ¬ t < xe_I μ 7 6) : xs_M δ (d + 3) 93 [.ref 0, .int t, .int w, .ref 264] μ (.inl (some (.int 1))) (xe_add μ (.inl 14) 6) := by
  refine xs_op rfl rfl ?_
  refine xs_op rfl rfl ?_
  refine xs_op rfl rfl ?_
  refine xs_op rfl rfl ?_
  refine xs_op rfl rfl ?_
  refine xs_callC rfl (as := [.ref 0, .int t, .int w]) (rest := [.int 0, .ref 264]) rfl rfl (xe_rcvO (xF_sh hF rfl)) (Nat.le_of_ble_eq_true rfl) (Nat.le_of_ble_eq_true rfl) (by decide) (xc_slot_no hF hc h) xe_ci_add (kh := 9) (by decide) ?_
  refine xs_op rfl rfl ?_
  refine xs_op rfl rfl ?_
  exact xs_ret1 rfl
theorem xh_reset_no {t : Int32} (hF : xF c μ) (hc : c ≤ 512) (h : t < 0 ∨ ¬ t < xe_I μ 7 6) : xs_M δ (d + 3) 95 [.ref 0, .int t] μ (.inl (some (.int 1))) (xe_add μ (.inl 14) 6) := by
  refine xs_op rfl rfl ?_
  refine xs_op rfl rfl ?_
  refine xs_callC rfl (as := [.ref 0, .int t]) (rest := []) rfl rfl (xe_rcvO (xF_sh hF rfl)) (Nat.le_of_ble_eq_true rfl) (Nat.le_of_ble_eq_true rfl) (by decide) (xc_reset_no hF hc h) xe_ci_add (kh := 4) (by decide) ?_
  refine xs_op rfl rfl ?_
  refine xs_op rfl rfl ?_
  exact xs_ret1 rfl
theorem xh_takes_no {t w : Int32} (hF : xF c μ) (hc : c ≤ 512) (h : xe_I μ 194 1 = 0) : xs_M δ (d + 2) 98 [.ref 0, .int t, .int w] μ (.inl (some (.int 1))) (xe_add μ (.inl 13) 6) := by
  refine xs_op rfl rfl ?_
  refine xs_op rfl rfl ?_
  refine xs_op rfl rfl ?_
  refine xs_callC rfl (as := [.ref 0, .int t, .int w]) (rest := []) rfl rfl (xe_rcvO (xF_sh hF rfl)) (Nat.le_of_ble_eq_true rfl) (Nat.le_of_ble_eq_true rfl) (by decide) (xc_takes_not hF hc h) xe_ci_add (kh := 5) (by decide) ?_
  refine xs_op rfl rfl ?_
  refine xs_op rfl rfl ?_
  exact xs_ret1 rfl
theorem xh_sensor_no {t w : Int32} (hF : xF c μ) (hc : c ≤ 512) (h : xe_I μ 194 1 = 0) : xs_M δ (d + 2) 101 [.ref 0, .int t, .int w] μ (.inl (some (.int 1))) (xe_add μ (.inl 13) 6) := by
  refine xs_op rfl rfl ?_
  refine xs_op rfl rfl ?_
  refine xs_op rfl rfl ?_
  refine xs_callC rfl (as := [.ref 0, .int t, .int w]) (rest := []) rfl rfl (xe_rcvO (xF_sh hF rfl)) (Nat.le_of_ble_eq_true rfl) (Nat.le_of_ble_eq_true rfl) (by decide) (xc_sensor_not hF hc h) xe_ci_add (kh := 5) (by decide) ?_
  refine xs_op rfl rfl ?_
  refine xs_op rfl rfl ?_
  exact xs_ret1 rfl
theorem xh_tick_no {t : Int32} (hF : xF c μ) (hc : c ≤ 512) (h : xe_I μ 194 1 = 0) : xs_M δ (d + 2) 103 [.ref 0, .int t] μ (.inl (some (.int 1))) (xe_add μ (.inl 13) 6) := by
  refine xs_op rfl rfl ?_
  refine xs_op rfl rfl ?_
  refine xs_callC rfl (as := [.ref 0, .int t]) (rest := []) rfl rfl (xe_rcvO (xF_sh hF rfl)) (Nat.le_of_ble_eq_true rfl) (Nat.le_of_ble_eq_true rfl) (by decide) (xc_tick_not hF hc h) xe_ci_add (kh := 4) (by decide) ?_
  refine xs_op rfl rfl ?_
  refine xs_op rfl rfl ?_
  exact xs_ret1 rfl
theorem xh_port_no {t w : Int32} (hF : xF c μ) (hc : c ≤ 512) (h : xe_I μ 194 1 = 0) : xs_M δ (d + 2) 120 [.ref 0, .int t, .int w, .ref 264] μ (.inl (some (.int 1))) (xe_add μ (.inl 13) 6) := by
  refine xs_op rfl rfl ?_
  refine xs_op rfl rfl ?_
  refine xs_op rfl rfl ?_
  refine xs_op rfl rfl ?_
  refine xs_op rfl rfl ?_
  refine xs_callC rfl (as := [.ref 0, .int t, .int w]) (rest := [.int 0, .ref 264]) rfl rfl (xe_rcvO (xF_sh hF rfl)) (Nat.le_of_ble_eq_true rfl) (Nat.le_of_ble_eq_true rfl) (by decide) (xc_port_not hF hc h) xe_ci_add (kh := 9) (by decide) ?_
  refine xs_op rfl rfl ?_
  refine xs_op rfl rfl ?_
  exact xs_ret1 rfl
theorem xh_denoted_no {t : Int32} (hF : xF c μ) (hc : c ≤ 512) (h : xe_I μ 194 1 = 0) : xs_M δ (d + 2) 122 [.ref 0, .int t, .ref 264] μ (.inl (some (.int 1))) (xe_add μ (.inl 13) 6) := by
  refine xs_op rfl rfl ?_
  refine xs_op rfl rfl ?_
  refine xs_op rfl rfl ?_
  refine xs_op rfl rfl ?_
  refine xs_callC rfl (as := [.ref 0, .int t]) (rest := [.int 0, .ref 264]) rfl rfl (xe_rcvO (xF_sh hF rfl)) (Nat.le_of_ble_eq_true rfl) (Nat.le_of_ble_eq_true rfl) (by decide) (xc_denoted_not hF hc h) xe_ci_add (kh := 8) (by decide) ?_
  refine xs_op rfl rfl ?_
  refine xs_op rfl rfl ?_
  exact xs_ret1 rfl
theorem xh_state_no {t : Int32} (hF : xF c μ) (hc : c ≤ 512) (h : xe_I μ 194 1 = 0) : xs_M δ (d + 2) 124 [.ref 0, .int t, .ref 264] μ (.inl (some (.int 1))) (xe_add μ (.inl 13) 6) := by
  refine xs_op rfl rfl ?_
  refine xs_op rfl rfl ?_
  refine xs_op rfl rfl ?_
  refine xs_op rfl rfl ?_
  refine xs_callC rfl (as := [.ref 0, .int t]) (rest := [.int 0, .ref 264]) rfl rfl (xe_rcvO (xF_sh hF rfl)) (Nat.le_of_ble_eq_true rfl) (Nat.le_of_ble_eq_true rfl) (by decide) (xc_state_not hF hc h) xe_ci_add (kh := 8) (by decide) ?_
  refine xs_op rfl rfl ?_
  refine xs_op rfl rfl ?_
  exact xs_ret1 rfl
theorem xh_running_no {t : Int32} (hF : xF c μ) (hc : c ≤ 512) (h : xe_I μ 194 1 = 0) : xs_M δ (d + 2) 126 [.ref 0, .int t, .ref 264] μ (.inl (some (.int 1))) (xe_add μ (.inl 13) 6) := by
  refine xs_op rfl rfl ?_
  refine xs_op rfl rfl ?_
  refine xs_op rfl rfl ?_
  refine xs_op rfl rfl ?_
  refine xs_callC rfl (as := [.ref 0, .int t]) (rest := [.int 0, .ref 264]) rfl rfl (xe_rcvO (xF_sh hF rfl)) (Nat.le_of_ble_eq_true rfl) (Nat.le_of_ble_eq_true rfl) (by decide) (xc_running_not hF hc h) xe_ci_add (kh := 8) (by decide) ?_
  refine xs_op rfl rfl ?_
  refine xs_op rfl rfl ?_
  exact xs_ret1 rfl
theorem xr_in_no {v lo hi : Int64} (h : v < lo ∨ hi < v) : xs_M δ d 132 [.long v, .long lo, .long hi] μ (.inl (some (.int 0))) μ := by
  by_cases h0 : v < lo
  · have h1 : lg_cmp v lo < 0 := (lg_cmp_lt _ _).mpr h0
    refine xs_op rfl rfl ?_
    refine xs_op rfl rfl ?_
    refine xs_op rfl rfl ?_
    refine xs_ifltT rfl h1 ?_
    refine xs_op rfl rfl ?_
    exact xs_ret3 rfl (Or.inl rfl)
  · have h1 : ¬ lg_cmp v lo < 0 := fun hc => h0 ((lg_cmp_lt _ _).mp hc)
    have h2 : 0 < lg_cmp v hi := (lg_cmp_gt _ _).mpr (h.resolve_left h0)
    refine xs_op rfl rfl ?_
    refine xs_op rfl rfl ?_
    refine xs_op rfl rfl ?_
    refine xs_ifltF rfl h1 ?_
    refine xs_op rfl rfl ?_
    refine xs_op rfl rfl ?_
    refine xs_op rfl rfl ?_
    refine xs_ifgtT rfl h2 ?_
    refine xs_op rfl rfl ?_
    exact xs_ret3 rfl (Or.inl rfl)
theorem xr_in_yes {v lo hi : Int64} (h0 : ¬ v < lo) (h1 : ¬ hi < v) : xs_M δ d 132 [.long v, .long lo, .long hi] μ (.inl (some (.int 1))) μ := by
  have g0 : ¬ lg_cmp v lo < 0 := fun hc => h0 ((lg_cmp_lt _ _).mp hc)
  have g1 : ¬ 0 < lg_cmp v hi := fun hc => h1 ((lg_cmp_gt _ _).mp hc)
  refine xs_op rfl rfl ?_
  refine xs_op rfl rfl ?_
  refine xs_op rfl rfl ?_
  refine xs_ifltF rfl g0 ?_
  refine xs_op rfl rfl ?_
  refine xs_op rfl rfl ?_
  refine xs_op rfl rfl ?_
  refine xs_ifgtF rfl g1 ?_
  refine xs_op rfl rfl ?_
  refine xs_op rfl rfl ?_
  exact xs_ret3 rfl (Or.inr rfl)
theorem xr_none (t : Int32) : t.toInt64 < 0 ∨ ((0 : Int32) - 1).toInt64 < t.toInt64 := by
  rw [Int64.lt_iff_toInt_lt, Int64.lt_iff_toInt_lt, Int32.toInt_toInt64, Int32.toInt_toInt64]
  have e0 : (0 : Int64).toInt = 0 := rfl
  have e1 : ((0 : Int32) - 1).toInt = -1 := by decide
  omega
theorem xr_isTask0 {t : Int32} (hF : xF c μ) (h : xe_I μ 203 22 = 0) : xs_M δ (d + 1) 180 [.ref 203, .int t] μ (.inl (some (.int 0))) μ := by
  refine xs_op rfl rfl ?_
  refine xs_op rfl rfl ?_
  refine xs_op rfl rfl ?_
  refine xs_op rfl rfl ?_
  refine xs_gIv rfl (xF_sh hF rfl) h ?_
  refine xs_op rfl rfl ?_
  refine xs_op rfl rfl ?_
  refine xs_op rfl rfl ?_
  refine xs_cv rfl (as := [.long t.toInt64, .long 0, .long ((0 : Int32) - 1).toInt64]) (rest := []) rfl rfl rfl (Nat.le_of_ble_eq_true rfl) (Nat.le_of_ble_eq_true rfl) (by decide) (xr_in_no (xr_none t)) ?_
  exact xs_ret3 rfl (Or.inl rfl)
theorem xr_task0 {t w : Int32} (hF : xF c μ) (h : xe_I μ 203 22 = 0) : xs_M δ (d + 2) 179 [.ref 203, .int t, .int w] μ (.inl (some (.int 0))) (xe_setI μ 203 0 1) := by
  refine xs_op rfl rfl ?_
  refine xs_op rfl rfl ?_
  refine xs_op rfl rfl ?_
  refine xs_cv rfl (as := [.ref 203, .int t]) (rest := [.ref 203]) rfl rfl (xe_rcvO (xF_sh hF rfl)) (Nat.le_of_ble_eq_true rfl) (Nat.le_of_ble_eq_true rfl) (by decide) (xr_isTask0 hF h) ?_
  refine xs_ifeqT rfl rfl ?_
  refine xs_op rfl rfl ?_
  refine xs_pI rfl (xF_sh hF rfl) ?_
  refine xs_op rfl rfl ?_
  refine xs_gIv rfl (xF_sh hF rfl) xu_I ?_
  refine xs_ifleF rfl (by decide) ?_
  refine xs_op rfl rfl ?_
  exact xs_ret1 rfl
theorem xr_slack0 {t : Int32} (hF : xF c μ) (h : xe_I μ 203 22 = 0) : xs_M δ (d + 2) 182 [.ref 203, .int t] μ (.inl (some (.int 0))) (xe_setI μ 203 0 1) := by
  refine xs_op rfl rfl ?_
  refine xs_op rfl rfl ?_
  refine xs_op rfl rfl ?_
  refine xs_cv rfl (as := [.ref 203, .int t]) (rest := [.ref 203]) rfl rfl (xe_rcvO (xF_sh hF rfl)) (Nat.le_of_ble_eq_true rfl) (Nat.le_of_ble_eq_true rfl) (by decide) (xr_isTask0 hF h) ?_
  refine xs_ifeqT rfl rfl ?_
  refine xs_op rfl rfl ?_
  refine xs_pI rfl (xF_sh hF rfl) ?_
  refine xs_op rfl rfl ?_
  refine xs_gIv rfl (xF_sh hF rfl) xu_I ?_
  refine xs_ifleF rfl (by decide) ?_
  refine xs_op rfl rfl ?_
  refine xs_op rfl rfl ?_
  exact xs_ret1 rfl
theorem xr_check0 {t : Int32} (hF : xF c μ) (h : xe_I μ 203 17 = 0) : xs_M δ (d + 1) 181 [.ref 203, .int t] μ (.inl (some (.int 0))) (xe_setI μ 203 0 1) := by
  refine xs_op rfl rfl ?_
  refine xs_op rfl rfl ?_
  refine xs_op rfl rfl ?_
  refine xs_op rfl rfl ?_
  refine xs_op rfl rfl ?_
  refine xs_gIv rfl (xF_sh hF rfl) h ?_
  refine xs_op rfl rfl ?_
  refine xs_op rfl rfl ?_
  refine xs_op rfl rfl ?_
  refine xs_cv rfl (as := [.long t.toInt64, .long 0, .long ((0 : Int32) - 1).toInt64]) (rest := [.ref 203]) rfl rfl rfl (Nat.le_of_ble_eq_true rfl) (Nat.le_of_ble_eq_true rfl) (by decide) (xr_in_no (xr_none t)) ?_
  refine xs_ifeqT rfl rfl ?_
  refine xs_op rfl rfl ?_
  refine xs_pI rfl (xF_sh hF rfl) ?_
  refine xs_op rfl rfl ?_
  refine xs_gIv rfl (xF_sh hF rfl) xu_I ?_
  refine xs_ifleF rfl (by decide) ?_
  refine xs_op rfl rfl ?_
  refine xs_op rfl rfl ?_
  exact xs_ret1 rfl
theorem xr_slot0 {t w : Int32} (hF : xF c μ) (h : xe_I μ 203 17 = 0) : xs_M δ (d + 1) 183 [.ref 203, .int t, .int w] μ (.inl (some (.int 0))) (xe_setI μ 203 0 1) := by
  refine xs_op rfl rfl ?_
  refine xs_op rfl rfl ?_
  refine xs_op rfl rfl ?_
  refine xs_op rfl rfl ?_
  refine xs_op rfl rfl ?_
  refine xs_gIv rfl (xF_sh hF rfl) h ?_
  refine xs_op rfl rfl ?_
  refine xs_op rfl rfl ?_
  refine xs_op rfl rfl ?_
  refine xs_cv rfl (as := [.long t.toInt64, .long 0, .long ((0 : Int32) - 1).toInt64]) (rest := [.ref 203]) rfl rfl rfl (Nat.le_of_ble_eq_true rfl) (Nat.le_of_ble_eq_true rfl) (by decide) (xr_in_no (xr_none t)) ?_
  refine xs_ifeqT rfl rfl ?_
  refine xs_op rfl rfl ?_
  refine xs_pI rfl (xF_sh hF rfl) ?_
  refine xs_op rfl rfl ?_
  refine xs_gIv rfl (xF_sh hF rfl) xu_I ?_
  refine xs_ifleF rfl (by decide) ?_
  refine xs_op rfl rfl ?_
  refine xs_op rfl rfl ?_
  exact xs_ret1 rfl
theorem xr_reset0 {t : Int32} (hF : xF c μ) (h : xe_I μ 203 17 = 0) : xs_M δ (d + 1) 177 [.ref 203, .int t] μ (.inl none) (xe_setI μ 203 0 1) := by
  refine xs_op rfl rfl ?_
  refine xs_op rfl rfl ?_
  refine xs_op rfl rfl ?_
  refine xs_op rfl rfl ?_
  refine xs_op rfl rfl ?_
  refine xs_gIv rfl (xF_sh hF rfl) h ?_
  refine xs_op rfl rfl ?_
  refine xs_op rfl rfl ?_
  refine xs_op rfl rfl ?_
  refine xs_cv rfl (as := [.long t.toInt64, .long 0, .long ((0 : Int32) - 1).toInt64]) (rest := [.ref 203]) rfl rfl rfl (Nat.le_of_ble_eq_true rfl) (Nat.le_of_ble_eq_true rfl) (by decide) (xr_in_no (xr_none t)) ?_
  refine xs_ifeqT rfl rfl ?_
  refine xs_op rfl rfl ?_
  refine xs_pI rfl (xF_sh hF rfl) ?_
  refine xs_op rfl rfl ?_
  refine xs_gIv rfl (xF_sh hF rfl) xu_I ?_
  refine xs_ifleF rfl (by decide) ?_
  exact xs_ret0 rfl
theorem xr_takes0 {t w : Int32} (hF : xF c μ) (h : xe_I μ 203 70 = 0) : xs_M δ d 184 [.ref 203, .int t, .int w] μ (.inl none) (xe_setI μ 203 0 1) := by
  refine xs_op rfl rfl ?_
  refine xs_op rfl rfl ?_
  refine xs_gIv rfl (xF_sh hF rfl) h ?_
  refine xs_ifneF rfl rfl ?_
  refine xs_op rfl rfl ?_
  refine xs_op rfl rfl ?_
  refine xs_pI rfl (xF_sh hF rfl) ?_
  refine xs_op rfl rfl ?_
  refine xs_gIv rfl (xF_sh hF rfl) xu_I ?_
  refine xs_ifneT rfl (by decide) ?_
  exact xs_ret0 rfl
theorem xr_sensor0 {t w : Int32} (hF : xF c μ) (h : xe_I μ 203 70 = 0) : xs_M δ d 185 [.ref 203, .int t, .int w] μ (.inl none) (xe_setI μ 203 0 1) := by
  refine xs_op rfl rfl ?_
  refine xs_op rfl rfl ?_
  refine xs_gIv rfl (xF_sh hF rfl) h ?_
  refine xs_ifneF rfl rfl ?_
  refine xs_op rfl rfl ?_
  refine xs_op rfl rfl ?_
  refine xs_pI rfl (xF_sh hF rfl) ?_
  refine xs_op rfl rfl ?_
  refine xs_gIv rfl (xF_sh hF rfl) xu_I ?_
  refine xs_ifneT rfl (by decide) ?_
  exact xs_ret0 rfl
theorem xr_port0 {t w : Int32} (hF : xF c μ) (h : xe_I μ 203 70 = 0) : xs_M δ d 194 [.ref 203, .int t, .int w] μ (.inl (some (.int 0))) (xe_setI μ 203 0 1) := by
  refine xs_op rfl rfl ?_
  refine xs_op rfl rfl ?_
  refine xs_gIv rfl (xF_sh hF rfl) h ?_
  refine xs_ifneF rfl rfl ?_
  refine xs_op rfl rfl ?_
  refine xs_op rfl rfl ?_
  refine xs_pI rfl (xF_sh hF rfl) ?_
  refine xs_op rfl rfl ?_
  refine xs_gIv rfl (xF_sh hF rfl) xu_I ?_
  refine xs_ifleF rfl (by decide) ?_
  refine xs_op rfl rfl ?_
  refine xs_op rfl rfl ?_
  exact xs_ret1 rfl
theorem xr_denoted0 {t : Int32} (hF : xF c μ) (h : xe_I μ 203 70 = 0) : xs_M δ d 195 [.ref 203, .int t] μ (.inl (some (.int 0))) (xe_setI μ 203 0 1) := by
  refine xs_op rfl rfl ?_
  refine xs_op rfl rfl ?_
  refine xs_gIv rfl (xF_sh hF rfl) h ?_
  refine xs_ifneF rfl rfl ?_
  refine xs_op rfl rfl ?_
  refine xs_op rfl rfl ?_
  refine xs_pI rfl (xF_sh hF rfl) ?_
  refine xs_op rfl rfl ?_
  refine xs_gIv rfl (xF_sh hF rfl) xu_I ?_
  refine xs_ifleF rfl (by decide) ?_
  refine xs_op rfl rfl ?_
  refine xs_op rfl rfl ?_
  exact xs_ret1 rfl
theorem xr_state0 {t : Int32} (hF : xF c μ) (h : xe_I μ 203 70 = 0) : xs_M δ d 196 [.ref 203, .int t] μ (.inl (some (.int 0))) (xe_setI μ 203 0 1) := by
  refine xs_op rfl rfl ?_
  refine xs_op rfl rfl ?_
  refine xs_gIv rfl (xF_sh hF rfl) h ?_
  refine xs_ifneF rfl rfl ?_
  refine xs_op rfl rfl ?_
  refine xs_op rfl rfl ?_
  refine xs_pI rfl (xF_sh hF rfl) ?_
  refine xs_op rfl rfl ?_
  refine xs_gIv rfl (xF_sh hF rfl) xu_I ?_
  refine xs_ifleF rfl (by decide) ?_
  refine xs_op rfl rfl ?_
  exact xs_ret1 rfl
theorem xr_running0 {t : Int32} (hF : xF c μ) (h : xe_I μ 203 70 = 0) : xs_M δ d 197 [.ref 203, .int t] μ (.inl (some (.int 0))) (xe_setI μ 203 0 1) := by
  refine xs_op rfl rfl ?_
  refine xs_op rfl rfl ?_
  refine xs_gIv rfl (xF_sh hF rfl) h ?_
  refine xs_ifneF rfl rfl ?_
  refine xs_op rfl rfl ?_
  refine xs_op rfl rfl ?_
  refine xs_pI rfl (xF_sh hF rfl) ?_
  refine xs_op rfl rfl ?_
  refine xs_gIv rfl (xF_sh hF rfl) xu_I ?_
  refine xs_ifleF rfl (by decide) ?_
  refine xs_op rfl rfl ?_
  refine xs_op rfl rfl ?_
  exact xs_ret1 rfl
theorem xr_tick0 {t : Int32} (hF : xF c μ) (h : xe_I μ 203 70 = 0) : xs_M δ d 186 [.ref 203, .int t] μ (.inl none) (xe_setI μ 203 0 1) := by
  refine xs_op rfl rfl ?_
  refine xs_op rfl rfl ?_
  refine xs_gIv rfl (xF_sh hF rfl) h ?_
  refine xs_ifneF rfl rfl ?_
  refine xs_op rfl rfl ?_
  refine xs_op rfl rfl ?_
  refine xs_pI rfl (xF_sh hF rfl) ?_
  refine xs_op rfl rfl ?_
  refine xs_op rfl rfl ?_
  refine xs_op rfl rfl ?_
  refine xs_op rfl rfl ?_
  by_cases ht : t ≤ 0
  · skip
    refine xs_icgeT rfl ht ?_
    exact xs_ret0 rfl
  · skip
    refine xs_icgeF rfl ht ?_
    refine xs_op rfl rfl ?_
    refine xs_gIv rfl (xF_sh hF rfl) xu_I ?_
    refine xs_ifneT rfl (by decide) ?_
    exact xs_ret0 rfl
end
