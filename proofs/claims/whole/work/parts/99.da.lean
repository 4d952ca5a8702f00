/-! the law's helpers, from what the class answers (by wip/whole/gen/help.py) -/
section
variable {δ : xe_Dy} {d a : Nat} {μ μ1 : xe_Mem} {t w v : Int32}
theorem xg_task_ok (h0 : (xe_sh μ)[0]? = some (.inl 10)) (h264 : (xe_sh μ1)[264]? = some (.inr (1, 1))) (h : xs_M δ d 84 [.ref 0, .int t, .int w] μ (.inl (some (.int v))) μ1) : xs_M δ (d + 1) 83 [.ref 0, .int t, .int w, .ref 264] μ (.inl (some (.int 0))) (xe_setL μ1 264 0 v.toInt64) := by
  refine xs_op rfl rfl ?_
  refine xs_op rfl rfl ?_
  refine xs_op rfl rfl ?_
  refine xs_op rfl rfl ?_
  refine xs_op rfl rfl ?_
  refine xs_cv rfl (as := [.ref 0, .int t, .int w]) (rest := [.int 0, .ref 264]) rfl rfl (xe_rcvO h0) (Nat.le_of_ble_eq_true rfl) (Nat.le_of_ble_eq_true rfl) (by decide) h ?_
  refine xs_op rfl rfl ?_
  refine xs_sL (j := 0) rfl h264 rfl (by decide) (by decide) ?_
  refine xs_op rfl rfl ?_
  refine xs_op rfl rfl ?_
  exact xs_ret1 rfl
theorem xg_task_14 (h0 : (xe_sh μ)[0]? = some (.inl 10)) (h : xs_M δ d 84 [.ref 0, .int t, .int w] μ (.inr a) μ1) (hci : xe_ci μ1 a = some 14) : xs_M δ (d + 1) 83 [.ref 0, .int t, .int w, .ref 264] μ (.inl (some (.int 1))) μ1 := by
  refine xs_op rfl rfl ?_
  refine xs_op rfl rfl ?_
  refine xs_op rfl rfl ?_
  refine xs_op rfl rfl ?_
  refine xs_op rfl rfl ?_
  refine xs_callC rfl (as := [.ref 0, .int t, .int w]) (rest := [.int 0, .ref 264]) rfl rfl (xe_rcvO h0) (Nat.le_of_ble_eq_true rfl) (Nat.le_of_ble_eq_true rfl) (by decide) h hci (kh := 9) (by decide) ?_
  refine xs_op rfl rfl ?_
  refine xs_op rfl rfl ?_
  exact xs_ret1 rfl
theorem xg_check_ok (h0 : (xe_sh μ)[0]? = some (.inl 10)) (h264 : (xe_sh μ1)[264]? = some (.inr (1, 1))) (h : xs_M δ d 89 [.ref 0, .int t] μ (.inl (some (.int v))) μ1) : xs_M δ (d + 1) 88 [.ref 0, .int t, .ref 264] μ (.inl (some (.int 0))) (xe_setL μ1 264 0 v.toInt64) := by
  refine xs_op rfl rfl ?_
  refine xs_op rfl rfl ?_
  refine xs_op rfl rfl ?_
  refine xs_op rfl rfl ?_
  refine xs_cv rfl (as := [.ref 0, .int t]) (rest := [.int 0, .ref 264]) rfl rfl (xe_rcvO h0) (Nat.le_of_ble_eq_true rfl) (Nat.le_of_ble_eq_true rfl) (by decide) h ?_
  refine xs_op rfl rfl ?_
  refine xs_sL (j := 0) rfl h264 rfl (by decide) (by decide) ?_
  refine xs_op rfl rfl ?_
  refine xs_op rfl rfl ?_
  exact xs_ret1 rfl
theorem xg_check_14 (h0 : (xe_sh μ)[0]? = some (.inl 10)) (h : xs_M δ d 89 [.ref 0, .int t] μ (.inr a) μ1) (hci : xe_ci μ1 a = some 14) : xs_M δ (d + 1) 88 [.ref 0, .int t, .ref 264] μ (.inl (some (.int 1))) μ1 := by
  refine xs_op rfl rfl ?_
  refine xs_op rfl rfl ?_
  refine xs_op rfl rfl ?_
  refine xs_op rfl rfl ?_
  refine xs_callC rfl (as := [.ref 0, .int t]) (rest := [.int 0, .ref 264]) rfl rfl (xe_rcvO h0) (Nat.le_of_ble_eq_true rfl) (Nat.le_of_ble_eq_true rfl) (by decide) h hci (kh := 8) (by decide) ?_
  refine xs_op rfl rfl ?_
  refine xs_op rfl rfl ?_
  exact xs_ret1 rfl
theorem xg_slack_ok (h0 : (xe_sh μ)[0]? = some (.inl 10)) (h264 : (xe_sh μ1)[264]? = some (.inr (1, 1))) (h : xs_M δ d 92 [.ref 0, .int t] μ (.inl (some (.int v))) μ1) : xs_M δ (d + 1) 91 [.ref 0, .int t, .ref 264] μ (.inl (some (.int 0))) (xe_setL μ1 264 0 v.toInt64) := by
  refine xs_op rfl rfl ?_
  refine xs_op rfl rfl ?_
  refine xs_op rfl rfl ?_
  refine xs_op rfl rfl ?_
  refine xs_cv rfl (as := [.ref 0, .int t]) (rest := [.int 0, .ref 264]) rfl rfl (xe_rcvO h0) (Nat.le_of_ble_eq_true rfl) (Nat.le_of_ble_eq_true rfl) (by decide) h ?_
  refine xs_op rfl rfl ?_
  refine xs_sL (j := 0) rfl h264 rfl (by decide) (by decide) ?_
  refine xs_op rfl rfl ?_
  refine xs_op rfl rfl ?_
  exact xs_ret1 rfl
theorem xg_slack_14 (h0 : (xe_sh μ)[0]? = some (.inl 10)) (h : xs_M δ d 92 [.ref 0, .int t] μ (.inr a) μ1) (hci : xe_ci μ1 a = some 14) : xs_M δ (d + 1) 91 [.ref 0, .int t, .ref 264] μ (.inl (some (.int 1))) μ1 := by
  refine xs_op rfl rfl ?_
  refine xs_op rfl rfl ?_
  refine xs_op rfl rfl ?_
  refine xs_op rfl rfl ?_
  refine xs_callC rfl (as := [.ref 0, .int t]) (rest := [.int 0, .ref 264]) rfl rfl (xe_rcvO h0) (Nat.le_of_ble_eq_true rfl) (Nat.le_of_ble_eq_true rfl) (by decide) h hci (kh := 8) (by decide) ?_
  refine xs_op rfl rfl ?_
  refine xs_op rfl rfl ?_
  exact xs_ret1 rfl
theorem xg_slot_ok (h0 : (xe_sh μ)[0]? = some (.inl 10)) (h264 : (xe_sh μ1)[264]? = some (.inr (1, 1))) (h : xs_M δ d 94 [.ref 0, .int t, .int w] μ (.inl (some (.int v))) μ1) : xs_M δ (d + 1) 93 [.ref 0, .int t, .int w, .ref 264] μ (.inl (some (.int 0))) (xe_setL μ1 264 0 v.toInt64) := by
  refine xs_op rfl rfl ?_
  refine xs_op rfl rfl ?_
  refine xs_op rfl rfl ?_
  refine xs_op rfl rfl ?_
  refine xs_op rfl rfl ?_
  refine xs_cv rfl (as := [.ref 0, .int t, .int w]) (rest := [.int 0, .ref 264]) rfl rfl (xe_rcvO h0) (Nat.le_of_ble_eq_true rfl) (Nat.le_of_ble_eq_true rfl) (by decide) h ?_
  refine xs_op rfl rfl ?_
  refine xs_sL (j := 0) rfl h264 rfl (by decide) (by decide) ?_
  refine xs_op rfl rfl ?_
  refine xs_op rfl rfl ?_
  exact xs_ret1 rfl
theorem xg_slot_14 (h0 : (xe_sh μ)[0]? = some (.inl 10)) (h : xs_M δ d 94 [.ref 0, .int t, .int w] μ (.inr a) μ1) (hci : xe_ci μ1 a = some 14) : xs_M δ (d + 1) 93 [.ref 0, .int t, .int w, .ref 264] μ (.inl (some (.int 1))) μ1 := by
  refine xs_op rfl rfl ?_
  refine xs_op rfl rfl ?_
  refine xs_op rfl rfl ?_
  refine xs_op rfl rfl ?_
  refine xs_op rfl rfl ?_
  refine xs_callC rfl (as := [.ref 0, .int t, .int w]) (rest := [.int 0, .ref 264]) rfl rfl (xe_rcvO h0) (Nat.le_of_ble_eq_true rfl) (Nat.le_of_ble_eq_true rfl) (by decide) h hci (kh := 9) (by decide) ?_
  refine xs_op rfl rfl ?_
  refine xs_op rfl rfl ?_
  exact xs_ret1 rfl
theorem xg_reset_ok (h0 : (xe_sh μ)[0]? = some (.inl 10)) (h : xs_M δ d 96 [.ref 0, .int t] μ (.inl none) μ1) : xs_M δ (d + 1) 95 [.ref 0, .int t] μ (.inl (some (.int 0))) μ1 := by
  refine xs_op rfl rfl ?_
  refine xs_op rfl rfl ?_
  refine xs_c0 rfl (as := [.ref 0, .int t]) (rest := []) rfl rfl (xe_rcvO h0) (Nat.le_of_ble_eq_true rfl) (Nat.le_of_ble_eq_true rfl) (by decide) h ?_
  refine xs_op rfl rfl ?_
  refine xs_op rfl rfl ?_
  exact xs_ret1 rfl
theorem xg_reset_14 (h0 : (xe_sh μ)[0]? = some (.inl 10)) (h : xs_M δ d 96 [.ref 0, .int t] μ (.inr a) μ1) (hci : xe_ci μ1 a = some 14) : xs_M δ (d + 1) 95 [.ref 0, .int t] μ (.inl (some (.int 1))) μ1 := by
  refine xs_op rfl rfl ?_
  refine xs_op rfl rfl ?_
  refine xs_callC rfl (as := [.ref 0, .int t]) (rest := []) rfl rfl (xe_rcvO h0) (Nat.le_of_ble_eq_true rfl) (Nat.le_of_ble_eq_true rfl) (by decide) h hci (kh := 4) (by decide) ?_
  refine xs_op rfl rfl ?_
  refine xs_op rfl rfl ?_
  exact xs_ret1 rfl
theorem xg_takes_ok (h0 : (xe_sh μ)[0]? = some (.inl 10)) (h : xs_M δ d 99 [.ref 0, .int t, .int w] μ (.inl none) μ1) : xs_M δ (d + 1) 98 [.ref 0, .int t, .int w] μ (.inl (some (.int 0))) μ1 := by
  refine xs_op rfl rfl ?_
  refine xs_op rfl rfl ?_
  refine xs_op rfl rfl ?_
  refine xs_c0 rfl (as := [.ref 0, .int t, .int w]) (rest := []) rfl rfl (xe_rcvO h0) (Nat.le_of_ble_eq_true rfl) (Nat.le_of_ble_eq_true rfl) (by decide) h ?_
  refine xs_op rfl rfl ?_
  refine xs_op rfl rfl ?_
  exact xs_ret1 rfl
theorem xg_takes_13 (h0 : (xe_sh μ)[0]? = some (.inl 10)) (h : xs_M δ d 99 [.ref 0, .int t, .int w] μ (.inr a) μ1) (hci : xe_ci μ1 a = some 13) : xs_M δ (d + 1) 98 [.ref 0, .int t, .int w] μ (.inl (some (.int 1))) μ1 := by
  refine xs_op rfl rfl ?_
  refine xs_op rfl rfl ?_
  refine xs_op rfl rfl ?_
  refine xs_callC rfl (as := [.ref 0, .int t, .int w]) (rest := []) rfl rfl (xe_rcvO h0) (Nat.le_of_ble_eq_true rfl) (Nat.le_of_ble_eq_true rfl) (by decide) h hci (kh := 5) (by decide) ?_
  refine xs_op rfl rfl ?_
  refine xs_op rfl rfl ?_
  exact xs_ret1 rfl
theorem xg_takes_14 (h0 : (xe_sh μ)[0]? = some (.inl 10)) (h : xs_M δ d 99 [.ref 0, .int t, .int w] μ (.inr a) μ1) (hci : xe_ci μ1 a = some 14) : xs_M δ (d + 1) 98 [.ref 0, .int t, .int w] μ (.inl (some (.int 2))) μ1 := by
  refine xs_op rfl rfl ?_
  refine xs_op rfl rfl ?_
  refine xs_op rfl rfl ?_
  refine xs_callC rfl (as := [.ref 0, .int t, .int w]) (rest := []) rfl rfl (xe_rcvO h0) (Nat.le_of_ble_eq_true rfl) (Nat.le_of_ble_eq_true rfl) (by decide) h hci (kh := 8) (by decide) ?_
  refine xs_op rfl rfl ?_
  refine xs_op rfl rfl ?_
  exact xs_ret1 rfl
theorem xg_takes_12 (h0 : (xe_sh μ)[0]? = some (.inl 10)) (h : xs_M δ d 99 [.ref 0, .int t, .int w] μ (.inr a) μ1) (hci : xe_ci μ1 a = some 12) : xs_M δ (d + 1) 98 [.ref 0, .int t, .int w] μ (.inl (some (.int 3))) μ1 := by
  refine xs_op rfl rfl ?_
  refine xs_op rfl rfl ?_
  refine xs_op rfl rfl ?_
  refine xs_callC rfl (as := [.ref 0, .int t, .int w]) (rest := []) rfl rfl (xe_rcvO h0) (Nat.le_of_ble_eq_true rfl) (Nat.le_of_ble_eq_true rfl) (by decide) h hci (kh := 11) (by decide) ?_
  refine xs_op rfl rfl ?_
  refine xs_op rfl rfl ?_
  exact xs_ret1 rfl
theorem xg_sensor_ok (h0 : (xe_sh μ)[0]? = some (.inl 10)) (h : xs_M δ d 102 [.ref 0, .int t, .int w] μ (.inl none) μ1) : xs_M δ (d + 1) 101 [.ref 0, .int t, .int w] μ (.inl (some (.int 0))) μ1 := by
  refine xs_op rfl rfl ?_
  refine xs_op rfl rfl ?_
  refine xs_op rfl rfl ?_
  refine xs_c0 rfl (as := [.ref 0, .int t, .int w]) (rest := []) rfl rfl (xe_rcvO h0) (Nat.le_of_ble_eq_true rfl) (Nat.le_of_ble_eq_true rfl) (by decide) h ?_
  refine xs_op rfl rfl ?_
  refine xs_op rfl rfl ?_
  exact xs_ret1 rfl
theorem xg_sensor_13 (h0 : (xe_sh μ)[0]? = some (.inl 10)) (h : xs_M δ d 102 [.ref 0, .int t, .int w] μ (.inr a) μ1) (hci : xe_ci μ1 a = some 13) : xs_M δ (d + 1) 101 [.ref 0, .int t, .int w] μ (.inl (some (.int 1))) μ1 := by
  refine xs_op rfl rfl ?_
  refine xs_op rfl rfl ?_
  refine xs_op rfl rfl ?_
  refine xs_callC rfl (as := [.ref 0, .int t, .int w]) (rest := []) rfl rfl (xe_rcvO h0) (Nat.le_of_ble_eq_true rfl) (Nat.le_of_ble_eq_true rfl) (by decide) h hci (kh := 5) (by decide) ?_
  refine xs_op rfl rfl ?_
  refine xs_op rfl rfl ?_
  exact xs_ret1 rfl
theorem xg_sensor_14 (h0 : (xe_sh μ)[0]? = some (.inl 10)) (h : xs_M δ d 102 [.ref 0, .int t, .int w] μ (.inr a) μ1) (hci : xe_ci μ1 a = some 14) : xs_M δ (d + 1) 101 [.ref 0, .int t, .int w] μ (.inl (some (.int 2))) μ1 := by
  refine xs_op rfl rfl ?_
  refine xs_op rfl rfl ?_
  refine xs_op rfl rfl ?_
  refine xs_callC rfl (as := [.ref 0, .int t, .int w]) (rest := []) rfl rfl (xe_rcvO h0) (Nat.le_of_ble_eq_true rfl) (Nat.le_of_ble_eq_true rfl) (by decide) h hci (kh := 8) (by decide) ?_
  refine xs_op rfl rfl ?_
  refine xs_op rfl rfl ?_
  exact xs_ret1 rfl
theorem xg_tick_ok (h0 : (xe_sh μ)[0]? = some (.inl 10)) (h : xs_M δ d 104 [.ref 0, .int t] μ (.inl none) μ1) : xs_M δ (d + 1) 103 [.ref 0, .int t] μ (.inl (some (.int 0))) μ1 := by
  refine xs_op rfl rfl ?_
  refine xs_op rfl rfl ?_
  refine xs_c0 rfl (as := [.ref 0, .int t]) (rest := []) rfl rfl (xe_rcvO h0) (Nat.le_of_ble_eq_true rfl) (Nat.le_of_ble_eq_true rfl) (by decide) h ?_
  refine xs_op rfl rfl ?_
  refine xs_op rfl rfl ?_
  exact xs_ret1 rfl
theorem xg_tick_13 (h0 : (xe_sh μ)[0]? = some (.inl 10)) (h : xs_M δ d 104 [.ref 0, .int t] μ (.inr a) μ1) (hci : xe_ci μ1 a = some 13) : xs_M δ (d + 1) 103 [.ref 0, .int t] μ (.inl (some (.int 1))) μ1 := by
  refine xs_op rfl rfl ?_
  refine xs_op rfl rfl ?_
  refine xs_callC rfl (as := [.ref 0, .int t]) (rest := []) rfl rfl (xe_rcvO h0) (Nat.le_of_ble_eq_true rfl) (Nat.le_of_ble_eq_true rfl) (by decide) h hci (kh := 4) (by decide) ?_
  refine xs_op rfl rfl ?_
  refine xs_op rfl rfl ?_
  exact xs_ret1 rfl
theorem xg_tick_12 (h0 : (xe_sh μ)[0]? = some (.inl 10)) (h : xs_M δ d 104 [.ref 0, .int t] μ (.inr a) μ1) (hci : xe_ci μ1 a = some 12) : xs_M δ (d + 1) 103 [.ref 0, .int t] μ (.inl (some (.int 2))) μ1 := by
  refine xs_op rfl rfl ?_
  refine xs_op rfl rfl ?_
  refine xs_callC rfl (as := [.ref 0, .int t]) (rest := []) rfl rfl (xe_rcvO h0) (Nat.le_of_ble_eq_true rfl) (Nat.le_of_ble_eq_true rfl) (by decide) h hci (kh := 7) (by decide) ?_
  refine xs_op rfl rfl ?_
  refine xs_op rfl rfl ?_
  exact xs_ret1 rfl
theorem xg_port_ok (h0 : (xe_sh μ)[0]? = some (.inl 10)) (h264 : (xe_sh μ1)[264]? = some (.inr (1, 1))) (h : xs_M δ d 121 [.ref 0, .int t, .int w] μ (.inl (some (.int v))) μ1) : xs_M δ (d + 1) 120 [.ref 0, .int t, .int w, .ref 264] μ (.inl (some (.int 0))) (xe_setL μ1 264 0 v.toInt64) := by
  refine xs_op rfl rfl ?_
  refine xs_op rfl rfl ?_
  refine xs_op rfl rfl ?_
  refine xs_op rfl rfl ?_
  refine xs_op rfl rfl ?_
  refine xs_cv rfl (as := [.ref 0, .int t, .int w]) (rest := [.int 0, .ref 264]) rfl rfl (xe_rcvO h0) (Nat.le_of_ble_eq_true rfl) (Nat.le_of_ble_eq_true rfl) (by decide) h ?_
  refine xs_op rfl rfl ?_
  refine xs_sL (j := 0) rfl h264 rfl (by decide) (by decide) ?_
  refine xs_op rfl rfl ?_
  refine xs_op rfl rfl ?_
  exact xs_ret1 rfl
theorem xg_port_13 (h0 : (xe_sh μ)[0]? = some (.inl 10)) (h : xs_M δ d 121 [.ref 0, .int t, .int w] μ (.inr a) μ1) (hci : xe_ci μ1 a = some 13) : xs_M δ (d + 1) 120 [.ref 0, .int t, .int w, .ref 264] μ (.inl (some (.int 1))) μ1 := by
  refine xs_op rfl rfl ?_
  refine xs_op rfl rfl ?_
  refine xs_op rfl rfl ?_
  refine xs_op rfl rfl ?_
  refine xs_op rfl rfl ?_
  refine xs_callC rfl (as := [.ref 0, .int t, .int w]) (rest := [.int 0, .ref 264]) rfl rfl (xe_rcvO h0) (Nat.le_of_ble_eq_true rfl) (Nat.le_of_ble_eq_true rfl) (by decide) h hci (kh := 9) (by decide) ?_
  refine xs_op rfl rfl ?_
  refine xs_op rfl rfl ?_
  exact xs_ret1 rfl
theorem xg_port_14 (h0 : (xe_sh μ)[0]? = some (.inl 10)) (h : xs_M δ d 121 [.ref 0, .int t, .int w] μ (.inr a) μ1) (hci : xe_ci μ1 a = some 14) : xs_M δ (d + 1) 120 [.ref 0, .int t, .int w, .ref 264] μ (.inl (some (.int 2))) μ1 := by
  refine xs_op rfl rfl ?_
  refine xs_op rfl rfl ?_
  refine xs_op rfl rfl ?_
  refine xs_op rfl rfl ?_
  refine xs_op rfl rfl ?_
  refine xs_callC rfl (as := [.ref 0, .int t, .int w]) (rest := [.int 0, .ref 264]) rfl rfl (xe_rcvO h0) (Nat.le_of_ble_eq_true rfl) (Nat.le_of_ble_eq_true rfl) (by decide) h hci (kh := 12) (by decide) ?_
  refine xs_op rfl rfl ?_
  refine xs_op rfl rfl ?_
  exact xs_ret1 rfl
theorem xg_denoted_ok (h0 : (xe_sh μ)[0]? = some (.inl 10)) (h264 : (xe_sh μ1)[264]? = some (.inr (1, 1))) (h : xs_M δ d 123 [.ref 0, .int t] μ (.inl (some (.int v))) μ1) : xs_M δ (d + 1) 122 [.ref 0, .int t, .ref 264] μ (.inl (some (.int 0))) (xe_setL μ1 264 0 v.toInt64) := by
  refine xs_op rfl rfl ?_
  refine xs_op rfl rfl ?_
  refine xs_op rfl rfl ?_
  refine xs_op rfl rfl ?_
  refine xs_cv rfl (as := [.ref 0, .int t]) (rest := [.int 0, .ref 264]) rfl rfl (xe_rcvO h0) (Nat.le_of_ble_eq_true rfl) (Nat.le_of_ble_eq_true rfl) (by decide) h ?_
  refine xs_op rfl rfl ?_
  refine xs_sL (j := 0) rfl h264 rfl (by decide) (by decide) ?_
  refine xs_op rfl rfl ?_
  refine xs_op rfl rfl ?_
  exact xs_ret1 rfl
theorem xg_denoted_13 (h0 : (xe_sh μ)[0]? = some (.inl 10)) (h : xs_M δ d 123 [.ref 0, .int t] μ (.inr a) μ1) (hci : xe_ci μ1 a = some 13) : xs_M δ (d + 1) 122 [.ref 0, .int t, .ref 264] μ (.inl (some (.int 1))) μ1 := by
  refine xs_op rfl rfl ?_
  refine xs_op rfl rfl ?_
  refine xs_op rfl rfl ?_
  refine xs_op rfl rfl ?_
  refine xs_callC rfl (as := [.ref 0, .int t]) (rest := [.int 0, .ref 264]) rfl rfl (xe_rcvO h0) (Nat.le_of_ble_eq_true rfl) (Nat.le_of_ble_eq_true rfl) (by decide) h hci (kh := 8) (by decide) ?_
  refine xs_op rfl rfl ?_
  refine xs_op rfl rfl ?_
  exact xs_ret1 rfl
theorem xg_denoted_14 (h0 : (xe_sh μ)[0]? = some (.inl 10)) (h : xs_M δ d 123 [.ref 0, .int t] μ (.inr a) μ1) (hci : xe_ci μ1 a = some 14) : xs_M δ (d + 1) 122 [.ref 0, .int t, .ref 264] μ (.inl (some (.int 2))) μ1 := by
  refine xs_op rfl rfl ?_
  refine xs_op rfl rfl ?_
  refine xs_op rfl rfl ?_
  refine xs_op rfl rfl ?_
  refine xs_callC rfl (as := [.ref 0, .int t]) (rest := [.int 0, .ref 264]) rfl rfl (xe_rcvO h0) (Nat.le_of_ble_eq_true rfl) (Nat.le_of_ble_eq_true rfl) (by decide) h hci (kh := 11) (by decide) ?_
  refine xs_op rfl rfl ?_
  refine xs_op rfl rfl ?_
  exact xs_ret1 rfl
theorem xg_state_ok (h0 : (xe_sh μ)[0]? = some (.inl 10)) (h264 : (xe_sh μ1)[264]? = some (.inr (1, 1))) (h : xs_M δ d 125 [.ref 0, .int t] μ (.inl (some (.int v))) μ1) : xs_M δ (d + 1) 124 [.ref 0, .int t, .ref 264] μ (.inl (some (.int 0))) (xe_setL μ1 264 0 v.toInt64) := by
  refine xs_op rfl rfl ?_
  refine xs_op rfl rfl ?_
  refine xs_op rfl rfl ?_
  refine xs_op rfl rfl ?_
  refine xs_cv rfl (as := [.ref 0, .int t]) (rest := [.int 0, .ref 264]) rfl rfl (xe_rcvO h0) (Nat.le_of_ble_eq_true rfl) (Nat.le_of_ble_eq_true rfl) (by decide) h ?_
  refine xs_op rfl rfl ?_
  refine xs_sL (j := 0) rfl h264 rfl (by decide) (by decide) ?_
  refine xs_op rfl rfl ?_
  refine xs_op rfl rfl ?_
  exact xs_ret1 rfl
theorem xg_state_13 (h0 : (xe_sh μ)[0]? = some (.inl 10)) (h : xs_M δ d 125 [.ref 0, .int t] μ (.inr a) μ1) (hci : xe_ci μ1 a = some 13) : xs_M δ (d + 1) 124 [.ref 0, .int t, .ref 264] μ (.inl (some (.int 1))) μ1 := by
  refine xs_op rfl rfl ?_
  refine xs_op rfl rfl ?_
  refine xs_op rfl rfl ?_
  refine xs_op rfl rfl ?_
  refine xs_callC rfl (as := [.ref 0, .int t]) (rest := [.int 0, .ref 264]) rfl rfl (xe_rcvO h0) (Nat.le_of_ble_eq_true rfl) (Nat.le_of_ble_eq_true rfl) (by decide) h hci (kh := 8) (by decide) ?_
  refine xs_op rfl rfl ?_
  refine xs_op rfl rfl ?_
  exact xs_ret1 rfl
theorem xg_state_14 (h0 : (xe_sh μ)[0]? = some (.inl 10)) (h : xs_M δ d 125 [.ref 0, .int t] μ (.inr a) μ1) (hci : xe_ci μ1 a = some 14) : xs_M δ (d + 1) 124 [.ref 0, .int t, .ref 264] μ (.inl (some (.int 2))) μ1 := by
  refine xs_op rfl rfl ?_
  refine xs_op rfl rfl ?_
  refine xs_op rfl rfl ?_
  refine xs_op rfl rfl ?_
  refine xs_callC rfl (as := [.ref 0, .int t]) (rest := [.int 0, .ref 264]) rfl rfl (xe_rcvO h0) (Nat.le_of_ble_eq_true rfl) (Nat.le_of_ble_eq_true rfl) (by decide) h hci (kh := 11) (by decide) ?_
  refine xs_op rfl rfl ?_
  refine xs_op rfl rfl ?_
  exact xs_ret1 rfl
theorem xg_running_ok (h0 : (xe_sh μ)[0]? = some (.inl 10)) (h264 : (xe_sh μ1)[264]? = some (.inr (1, 1))) (h : xs_M δ d 127 [.ref 0, .int t] μ (.inl (some (.int v))) μ1) : xs_M δ (d + 1) 126 [.ref 0, .int t, .ref 264] μ (.inl (some (.int 0))) (xe_setL μ1 264 0 v.toInt64) := by
  refine xs_op rfl rfl ?_
  refine xs_op rfl rfl ?_
  refine xs_op rfl rfl ?_
  refine xs_op rfl rfl ?_
  refine xs_cv rfl (as := [.ref 0, .int t]) (rest := [.int 0, .ref 264]) rfl rfl (xe_rcvO h0) (Nat.le_of_ble_eq_true rfl) (Nat.le_of_ble_eq_true rfl) (by decide) h ?_
  refine xs_op rfl rfl ?_
  refine xs_sL (j := 0) rfl h264 rfl (by decide) (by decide) ?_
  refine xs_op rfl rfl ?_
  refine xs_op rfl rfl ?_
  exact xs_ret1 rfl
theorem xg_running_13 (h0 : (xe_sh μ)[0]? = some (.inl 10)) (h : xs_M δ d 127 [.ref 0, .int t] μ (.inr a) μ1) (hci : xe_ci μ1 a = some 13) : xs_M δ (d + 1) 126 [.ref 0, .int t, .ref 264] μ (.inl (some (.int 1))) μ1 := by
  refine xs_op rfl rfl ?_
  refine xs_op rfl rfl ?_
  refine xs_op rfl rfl ?_
  refine xs_op rfl rfl ?_
  refine xs_callC rfl (as := [.ref 0, .int t]) (rest := [.int 0, .ref 264]) rfl rfl (xe_rcvO h0) (Nat.le_of_ble_eq_true rfl) (Nat.le_of_ble_eq_true rfl) (by decide) h hci (kh := 8) (by decide) ?_
  refine xs_op rfl rfl ?_
  refine xs_op rfl rfl ?_
  exact xs_ret1 rfl
theorem xg_running_14 (h0 : (xe_sh μ)[0]? = some (.inl 10)) (h : xs_M δ d 127 [.ref 0, .int t] μ (.inr a) μ1) (hci : xe_ci μ1 a = some 14) : xs_M δ (d + 1) 126 [.ref 0, .int t, .ref 264] μ (.inl (some (.int 2))) μ1 := by
  refine xs_op rfl rfl ?_
  refine xs_op rfl rfl ?_
  refine xs_op rfl rfl ?_
  refine xs_op rfl rfl ?_
  refine xs_callC rfl (as := [.ref 0, .int t]) (rest := [.int 0, .ref 264]) rfl rfl (xe_rcvO h0) (Nat.le_of_ble_eq_true rfl) (Nat.le_of_ble_eq_true rfl) (by decide) h hci (kh := 11) (by decide) ?_
  refine xs_op rfl rfl ?_
  refine xs_op rfl rfl ?_
  exact xs_ret1 rfl
end
