/-! one call on fresh objects (by wip/whole/gen/p1.py) -/
section
variable {δ : xe_Dy} {c d : Nat} {μ : xe_Mem}
theorem xc_all0 (hF : xF c μ) (h : xe_I μ 7 6 = 0) : xs_M δ d 82 [.ref 7] μ (.inl (some (.int 0))) μ := by
  refine xs_op rfl rfl ?_
  refine xs_op rfl rfl ?_
  refine xs_op rfl rfl ?_
  refine xs_op rfl rfl ?_
  refine xs_op rfl rfl ?_
  refine xs_op rfl rfl ?_
  refine xs_gIv rfl (xF_sh hF rfl) h ?_
  refine xs_icgeT rfl (by decide) ?_
  refine xs_op rfl rfl ?_
  exact xs_ret1 rfl
theorem xp_five (w : Int32) : w = 0 ∨ w = 1 ∨ w = 2 ∨ w = 3 ∨ w = 4 ∨ (w.toInt < 0 ∨ (0 : Int) + ([2, 6, 10, 14, 18] : List Nat).length ≤ w.toInt) := by
  by_cases h : w.toInt < 0 ∨ 5 ≤ w.toInt
  · exact Or.inr (Or.inr (Or.inr (Or.inr (Or.inr h))))
  · have key : ∀ n : Nat, (n : Int) = w.toInt → n < 2 ^ 31 → w = nI n := fun n hn hb => Int32.toInt_inj.mp (by rw [nI_toInt hb]; exact hn.symm)
    have h5 : w.toInt = 0 ∨ w.toInt = 1 ∨ w.toInt = 2 ∨ w.toInt = 3 ∨ w.toInt = 4 := by omega
    rcases h5 with h5 | h5 | h5 | h5 | h5
    · exact Or.inl (key 0 (by omega) (by decide))
    · exact Or.inr (Or.inl (key 1 (by omega) (by decide)))
    · exact Or.inr (Or.inr (Or.inl (key 2 (by omega) (by decide))))
    · exact Or.inr (Or.inr (Or.inr (Or.inl (key 3 (by omega) (by decide)))))
    · exact Or.inr (Or.inr (Or.inr (Or.inr (Or.inl (key 4 (by omega) (by decide))))))
theorem xc_count_0 (hF : xF c μ) (h4 : xe_I μ 7 4 = 0) (h5 : xe_I μ 7 5 = 0) (h6 : xe_I μ 7 6 = 0) (h7 : xe_I μ 7 7 = 0) : xs_M δ (d + 1) 81 [.ref 0, .int 0] μ (.inl (some (.int 0))) μ := by
  refine xs_op (y := 81) rfl rfl ?_
  refine xs_tswI (j := 0) rfl (by decide) rfl ?_
  refine xs_op rfl rfl ?_
  refine xs_gR rfl (xF_sh hF rfl) (xF_r hF rfl) ?_
  refine xs_gIv rfl (xF_sh hF rfl) h4 ?_
  exact xs_ret1 rfl
theorem xc_count_1 (hF : xF c μ) (h4 : xe_I μ 7 4 = 0) (h5 : xe_I μ 7 5 = 0) (h6 : xe_I μ 7 6 = 0) (h7 : xe_I μ 7 7 = 0) : xs_M δ (d + 1) 81 [.ref 0, .int 1] μ (.inl (some (.int 0))) μ := by
  refine xs_op (y := 81) rfl rfl ?_
  refine xs_tswI (j := 1) rfl (by decide) rfl ?_
  refine xs_op rfl rfl ?_
  refine xs_gR rfl (xF_sh hF rfl) (xF_r hF rfl) ?_
  refine xs_gIv rfl (xF_sh hF rfl) h5 ?_
  exact xs_ret1 rfl
theorem xc_count_2 (hF : xF c μ) (h4 : xe_I μ 7 4 = 0) (h5 : xe_I μ 7 5 = 0) (h6 : xe_I μ 7 6 = 0) (h7 : xe_I μ 7 7 = 0) : xs_M δ (d + 1) 81 [.ref 0, .int 2] μ (.inl (some (.int 0))) μ := by
  refine xs_op (y := 81) rfl rfl ?_
  refine xs_tswI (j := 2) rfl (by decide) rfl ?_
  refine xs_op rfl rfl ?_
  refine xs_gR rfl (xF_sh hF rfl) (xF_r hF rfl) ?_
  refine xs_gIv rfl (xF_sh hF rfl) h6 ?_
  exact xs_ret1 rfl
theorem xc_count_3 (hF : xF c μ) (h4 : xe_I μ 7 4 = 0) (h5 : xe_I μ 7 5 = 0) (h6 : xe_I μ 7 6 = 0) (h7 : xe_I μ 7 7 = 0) : xs_M δ (d + 1) 81 [.ref 0, .int 3] μ (.inl (some (.int 0))) μ := by
  refine xs_op (y := 81) rfl rfl ?_
  refine xs_tswI (j := 3) rfl (by decide) rfl ?_
  refine xs_op rfl rfl ?_
  refine xs_gR rfl (xF_sh hF rfl) (xF_r hF rfl) ?_
  refine xs_gIv rfl (xF_sh hF rfl) h7 ?_
  exact xs_ret1 rfl
theorem xc_count_4 (hF : xF c μ) (h4 : xe_I μ 7 4 = 0) (h5 : xe_I μ 7 5 = 0) (h6 : xe_I μ 7 6 = 0) (h7 : xe_I μ 7 7 = 0) : xs_M δ (d + 1) 81 [.ref 0, .int 4] μ (.inl (some (.int 0))) μ := by
  refine xs_op (y := 81) rfl rfl ?_
  refine xs_tswI (j := 4) rfl (by decide) rfl ?_
  refine xs_op rfl rfl ?_
  refine xs_gR rfl (xF_sh hF rfl) (xF_r hF rfl) ?_
  refine xs_cv rfl (as := [.ref 7]) (rest := []) rfl rfl (xe_rcvO (xF_sh hF rfl)) (Nat.le_of_ble_eq_true rfl) (Nat.le_of_ble_eq_true rfl) (by decide) (xc_all0 hF h6) ?_
  exact xs_ret1 rfl
theorem xc_count_x {w : Int32} (h : w.toInt < 0 ∨ (0 : Int) + ([2, 6, 10, 14, 18] : List Nat).length ≤ w.toInt) : xs_M δ (d + 1) 81 [.ref 0, .int w] μ (.inl (some (.int (-1)))) μ := by
  refine xs_op (y := 81) rfl rfl ?_
  refine xs_tswD rfl h ?_
  refine xs_op rfl rfl ?_
  exact xs_ret1 rfl
theorem xr_count_0 (hF : xF c μ) (g12 : xe_I μ 203 12 = 0) (g15 : xe_I μ 203 15 = 0) (g17 : xe_I μ 203 17 = 0) (g22 : xe_I μ 203 22 = 0) : xs_M δ d 178 [.ref 203, .int 0] μ (.inl (some (.int 0))) (xe_setI μ 203 0 0) := by
  have hm : xe_I (xe_setI μ 203 0 0) 203 17 = 0 := by rw [xu_In (by omega)]; exact g17
  have hv : xe_I (xe_setI μ 203 0 0) 203 12 = 0 := by rw [xu_In (by omega)]; exact g12
  refine xs_op rfl rfl ?_
  refine xs_op rfl rfl ?_
  refine xs_pI rfl (xF_sh hF rfl) ?_
  refine xs_op rfl rfl ?_
  refine xs_op rfl rfl ?_
  refine xs_op rfl rfl ?_
  refine xs_op rfl rfl ?_
  refine xs_op rfl rfl ?_
  refine xs_op rfl rfl ?_
  refine xs_gIv rfl (xF_sh hF rfl) hm ?_
  refine xs_icgeT rfl (by decide) ?_
  refine xs_op rfl rfl ?_
  refine xs_ifneF rfl (by decide) ?_
  refine xs_op rfl rfl ?_
  refine xs_gIv rfl (xF_sh hF rfl) hv ?_
  refine xs_op rfl rfl ?_
  exact xs_ret1 rfl
theorem xr_count_1 (hF : xF c μ) (g12 : xe_I μ 203 12 = 0) (g15 : xe_I μ 203 15 = 0) (g17 : xe_I μ 203 17 = 0) (g22 : xe_I μ 203 22 = 0) : xs_M δ d 178 [.ref 203, .int 1] μ (.inl (some (.int 0))) (xe_setI μ 203 0 0) := by
  have hm : xe_I (xe_setI μ 203 0 0) 203 17 = 0 := by rw [xu_In (by omega)]; exact g17
  have hv : xe_I (xe_setI μ 203 0 0) 203 15 = 0 := by rw [xu_In (by omega)]; exact g15
  refine xs_op rfl rfl ?_
  refine xs_op rfl rfl ?_
  refine xs_pI rfl (xF_sh hF rfl) ?_
  refine xs_op rfl rfl ?_
  refine xs_op rfl rfl ?_
  refine xs_op rfl rfl ?_
  refine xs_op rfl rfl ?_
  refine xs_op rfl rfl ?_
  refine xs_op rfl rfl ?_
  refine xs_gIv rfl (xF_sh hF rfl) hm ?_
  refine xs_icgeT rfl (by decide) ?_
  refine xs_op rfl rfl ?_
  refine xs_ifneT rfl (by decide) ?_
  refine xs_op rfl rfl ?_
  refine xs_op rfl rfl ?_
  refine xs_icneF rfl (by decide) ?_
  refine xs_op rfl rfl ?_
  refine xs_gIv rfl (xF_sh hF rfl) hv ?_
  refine xs_op rfl rfl ?_
  exact xs_ret1 rfl
theorem xr_count_2 (hF : xF c μ) (g12 : xe_I μ 203 12 = 0) (g15 : xe_I μ 203 15 = 0) (g17 : xe_I μ 203 17 = 0) (g22 : xe_I μ 203 22 = 0) : xs_M δ d 178 [.ref 203, .int 2] μ (.inl (some (.int 0))) (xe_setI μ 203 0 0) := by
  have hm : xe_I (xe_setI μ 203 0 0) 203 17 = 0 := by rw [xu_In (by omega)]; exact g17
  have hv : xe_I (xe_setI μ 203 0 0) 203 17 = 0 := by rw [xu_In (by omega)]; exact g17
  refine xs_op rfl rfl ?_
  refine xs_op rfl rfl ?_
  refine xs_pI rfl (xF_sh hF rfl) ?_
  refine xs_op rfl rfl ?_
  refine xs_op rfl rfl ?_
  refine xs_op rfl rfl ?_
  refine xs_op rfl rfl ?_
  refine xs_op rfl rfl ?_
  refine xs_op rfl rfl ?_
  refine xs_gIv rfl (xF_sh hF rfl) hm ?_
  refine xs_icgeT rfl (by decide) ?_
  refine xs_op rfl rfl ?_
  refine xs_ifneT rfl (by decide) ?_
  refine xs_op rfl rfl ?_
  refine xs_op rfl rfl ?_
  refine xs_icneT rfl (by decide) ?_
  refine xs_op rfl rfl ?_
  refine xs_op rfl rfl ?_
  refine xs_icneF rfl (by decide) ?_
  refine xs_op rfl rfl ?_
  refine xs_gIv rfl (xF_sh hF rfl) hv ?_
  refine xs_op rfl rfl ?_
  exact xs_ret1 rfl
theorem xr_count_3 (hF : xF c μ) (g12 : xe_I μ 203 12 = 0) (g15 : xe_I μ 203 15 = 0) (g17 : xe_I μ 203 17 = 0) (g22 : xe_I μ 203 22 = 0) : xs_M δ d 178 [.ref 203, .int 3] μ (.inl (some (.int 0))) (xe_setI μ 203 0 0) := by
  have hm : xe_I (xe_setI μ 203 0 0) 203 17 = 0 := by rw [xu_In (by omega)]; exact g17
  have hv : xe_I (xe_setI μ 203 0 0) 203 22 = 0 := by rw [xu_In (by omega)]; exact g22
  refine xs_op rfl rfl ?_
  refine xs_op rfl rfl ?_
  refine xs_pI rfl (xF_sh hF rfl) ?_
  refine xs_op rfl rfl ?_
  refine xs_op rfl rfl ?_
  refine xs_op rfl rfl ?_
  refine xs_op rfl rfl ?_
  refine xs_op rfl rfl ?_
  refine xs_op rfl rfl ?_
  refine xs_gIv rfl (xF_sh hF rfl) hm ?_
  refine xs_icgeT rfl (by decide) ?_
  refine xs_op rfl rfl ?_
  refine xs_ifneT rfl (by decide) ?_
  refine xs_op rfl rfl ?_
  refine xs_op rfl rfl ?_
  refine xs_icneT rfl (by decide) ?_
  refine xs_op rfl rfl ?_
  refine xs_op rfl rfl ?_
  refine xs_icneT rfl (by decide) ?_
  refine xs_op rfl rfl ?_
  refine xs_op rfl rfl ?_
  refine xs_icneF rfl (by decide) ?_
  refine xs_op rfl rfl ?_
  refine xs_gIv rfl (xF_sh hF rfl) hv ?_
  refine xs_op rfl rfl ?_
  exact xs_ret1 rfl
theorem xr_count_4 (hF : xF c μ) (g12 : xe_I μ 203 12 = 0) (g15 : xe_I μ 203 15 = 0) (g17 : xe_I μ 203 17 = 0) (g22 : xe_I μ 203 22 = 0) : xs_M δ d 178 [.ref 203, .int 4] μ (.inl (some (.int 0))) (xe_setI μ 203 0 0) := by
  have hm : xe_I (xe_setI μ 203 0 0) 203 17 = 0 := by rw [xu_In (by omega)]; exact g17
  refine xs_op rfl rfl ?_
  refine xs_op rfl rfl ?_
  refine xs_pI rfl (xF_sh hF rfl) ?_
  refine xs_op rfl rfl ?_
  refine xs_op rfl rfl ?_
  refine xs_op rfl rfl ?_
  refine xs_op rfl rfl ?_
  refine xs_op rfl rfl ?_
  refine xs_op rfl rfl ?_
  refine xs_gIv rfl (xF_sh hF rfl) hm ?_
  refine xs_icgeT rfl (by decide) ?_
  refine xs_op rfl rfl ?_
  refine xs_ifneT rfl (by decide) ?_
  refine xs_op rfl rfl ?_
  refine xs_op rfl rfl ?_
  refine xs_icneT rfl (by decide) ?_
  refine xs_op rfl rfl ?_
  refine xs_op rfl rfl ?_
  refine xs_icneT rfl (by decide) ?_
  refine xs_op rfl rfl ?_
  refine xs_op rfl rfl ?_
  refine xs_icneT rfl (by decide) ?_
  refine xs_op rfl rfl ?_
  refine xs_op rfl rfl ?_
  refine xs_icneF rfl (by decide) ?_
  refine xs_op rfl rfl ?_
  refine xs_op rfl rfl ?_
  exact xs_ret1 rfl
theorem xr_count_x {w : Int32} (hF : xF c μ) (g12 : xe_I μ 203 12 = 0) (g15 : xe_I μ 203 15 = 0) (g17 : xe_I μ 203 17 = 0) (g22 : xe_I μ 203 22 = 0) (h : w.toInt < 0 ∨ (0 : Int) + ([2, 6, 10, 14, 18] : List Nat).length ≤ w.toInt) : xs_M δ d 178 [.ref 203, .int w] μ (.inl (some (.int (-1)))) (xe_setI μ 203 0 0) := by
  have hm : xe_I (xe_setI μ 203 0 0) 203 17 = 0 := by rw [xu_In (by omega)]; exact g17
  have hl : (0 : Int) + ([2, 6, 10, 14, 18] : List Nat).length = 5 := by decide
  have n0 : ¬ w = 0 := fun hc => by have e : w.toInt = 0 := by rw [hc]; decide
                                    omega
  have n1 : ¬ w = 1 := fun hc => by have e : w.toInt = 1 := by rw [hc]; decide
                                    omega
  have n2 : ¬ w = 2 := fun hc => by have e : w.toInt = 2 := by rw [hc]; decide
                                    omega
  have n3 : ¬ w = 3 := fun hc => by have e : w.toInt = 3 := by rw [hc]; decide
                                    omega
  have n4 : ¬ w = 4 := fun hc => by have e : w.toInt = 4 := by rw [hc]; decide
                                    omega
  refine xs_op rfl rfl ?_
  refine xs_op rfl rfl ?_
  refine xs_pI rfl (xF_sh hF rfl) ?_
  refine xs_op rfl rfl ?_
  refine xs_op rfl rfl ?_
  refine xs_op rfl rfl ?_
  refine xs_op rfl rfl ?_
  refine xs_op rfl rfl ?_
  refine xs_op rfl rfl ?_
  refine xs_gIv rfl (xF_sh hF rfl) hm ?_
  refine xs_icgeT rfl (by decide) ?_
  refine xs_op rfl rfl ?_
  refine xs_ifneT rfl n0 ?_
  refine xs_op rfl rfl ?_
  refine xs_op rfl rfl ?_
  refine xs_icneT rfl n1 ?_
  refine xs_op rfl rfl ?_
  refine xs_op rfl rfl ?_
  refine xs_icneT rfl n2 ?_
  refine xs_op rfl rfl ?_
  refine xs_op rfl rfl ?_
  refine xs_icneT rfl n3 ?_
  refine xs_op rfl rfl ?_
  refine xs_op rfl rfl ?_
  refine xs_icneT rfl n4 ?_
  refine xs_op rfl rfl ?_
  exact xs_ret1 rfl
theorem xc_end_no {n : Int32} (hF : xF c μ) (hs : xe_I μ 0 2 = 0) (h : ¬ n = 0) : xs_M δ d 14 [.ref 0, .int n] μ (.inl (some (.int 0))) μ := by
  by_cases h0 : n < 0
  · skip
    refine xs_op rfl rfl ?_
    refine xs_ifltT rfl h0 ?_
    refine xs_op rfl rfl ?_
    exact xs_ret3 rfl (Or.inl rfl)
  · have h1 : ¬ n ≤ 0 := fun hc => h (Int32.le_antisymm hc (Int32.not_lt.mp h0))
    refine xs_op rfl rfl ?_
    refine xs_ifltF rfl h0 ?_
    refine xs_op rfl rfl ?_
    refine xs_op rfl rfl ?_
    refine xs_gIv rfl (xF_sh hF rfl) hs ?_
    refine xs_icleF rfl h1 ?_
    refine xs_op rfl rfl ?_
    exact xs_ret3 rfl (Or.inl rfl)
theorem xr_end_no {n : Int32} (hF : xF c μ) (hs : xe_I μ 203 1 = 0) (h : ¬ n = 0) : xs_M δ (d + 1) 131 [.ref 203, .int n] μ (.inl (some (.int 0))) (xe_setI μ 203 0 0) := by
  have hv : xe_I (xe_setI μ 203 0 0) 203 1 = 0 := by rw [xu_In (by omega)]; exact hs
  have hx : n.toInt64 < 0 ∨ (0 : Int32).toInt64 < n.toInt64 := by
    rw [Int64.lt_iff_toInt_lt, Int64.lt_iff_toInt_lt, Int32.toInt_toInt64, Int32.toInt_toInt64]
    have e0 : (0 : Int64).toInt = 0 := rfl
    have e1 : (0 : Int32).toInt = 0 := rfl
    have e2 : n.toInt ≠ 0 := fun hc => h (Int32.toInt_inj.mp (by rw [hc]; rfl))
    omega
  refine xs_op rfl rfl ?_
  refine xs_op rfl rfl ?_
  refine xs_pI rfl (xF_sh hF rfl) ?_
  refine xs_op rfl rfl ?_
  refine xs_op rfl rfl ?_
  refine xs_op rfl rfl ?_
  refine xs_op rfl rfl ?_
  refine xs_gIv rfl (xF_sh hF rfl) hv ?_
  refine xs_op rfl rfl ?_
  refine xs_cv rfl (as := [.long n.toInt64, .long 0, .long (0 : Int32).toInt64]) (rest := []) rfl rfl rfl (Nat.le_of_ble_eq_true rfl) (Nat.le_of_ble_eq_true rfl) (by decide) (xr_in_no hx) ?_
  refine xs_ifneF rfl rfl ?_
  refine xs_op rfl rfl ?_
  exact xs_ret3 rfl (Or.inl rfl)
end
/-- end(0), compile(): nothing is asked, so they are run -/
def xv_val (r : Option (xe_Out × xe_Mem)) (v : Int32) : Bool := match r with
  | some (.inl (some (.int w)), _) => decide (w = v)
  | _ => false
theorem xv_vals {r : Option (xe_Out × xe_Mem)} {v : Int32} (h : xv_val r v = true) : r = some (.inl (some (.int v)), (r.map (fun r => r.2)).getD xe_m00) := by
  unfold xv_val at h
  split at h
  · have := of_decide_eq_true h
    subst this
    rfl
  · cases h
def xv_q1 : Option (xe_Out × xe_Mem) := xe_run xv_C xM_L xM_H 20000 900 14 0 (xe_init [.ref 0, .int 0] 2) [] xv_0
def xv_E : xe_Mem := (xv_q1.map (fun r => r.2)).getD xe_m00
def xv_q2 : Option (xe_Out × xe_Mem) := xe_run xv_C xM_L xM_H 20000 900 131 0 (xe_init [.ref 203, .int 0] 3) [] xv_E
def xv_E2 : xe_Mem := (xv_q2.map (fun r => r.2)).getD xe_m00
def xv_q3 : Option (xe_Out × xe_Mem) := xe_run xv_C xM_L xM_H 20000 900 15 0 (xe_init [.ref 0] 2) [] xv_0
def xv_P : xe_Mem := (xv_q3.map (fun r => r.2)).getD xe_m00
def xv_q4 : Option (xe_Out × xe_Mem) := xe_run xv_C xM_L xM_H 20000 900 133 0 (xe_init [.ref 203] 4) [] xv_P
theorem xv_k : xv_val xv_q1 1 = true ∧ xv_val xv_q2 1 = true ∧ xv_val xv_q3 1 = true ∧ xv_val xv_q4 1 = true ∧ (xe_sh xv_E)[203]? = some (.inl 11) ∧ (xe_sh xv_P)[203]? = some (.inl 11) := by decide +kernel
theorem xv_lift {δ : xe_Dy} {y : Nat} {as : List Value} {μ : xe_Mem} {n : Nat} {v : Int32} (hn : xM_L y = n) (h : xv_val (xe_run xv_C xM_L xM_H 20000 900 y 0 (xe_init as n) [] μ) v = true) : xs_M δ 999 y as μ (.inl (some (.int v))) (((xe_run xv_C xM_L xM_H 20000 900 y 0 (xe_init as n) [] μ).map (fun r => r.2)).getD xe_m00) := by
  subst hn
  exact ⟨20000, xs_mono (xv_sub δ) _ _ _ _ _ _ _ _ (xv_vals h) _ _ (Nat.le_refl _) (by decide)⟩
section
variable {δ : xe_Dy}
theorem xp_nob (t : Int32) : t < 0 ∨ ¬ t < 0 := by
  by_cases h : t < 0
  · exact Or.inl h
  · exact Or.inr h
theorem xe_addI {μ : xe_Mem} {z : xe_Sh} {n a j : Nat} (h : a ≠ (xe_sh μ).length) : xe_I (xe_add μ z n) a j = xe_I μ a j := by
  show xe_w μ.2.1 μ.1.length (fun _ => 0) a j = μ.2.1 a j
  rw [xe_w_ne _ _ h]
theorem xv_0l : (xe_sh xv_0).length = 265 := by
  obtain ⟨⟨g, hg⟩, -, hl, -⟩ := xF_0
  rw [hg, List.length_append, xv_Sl] at hl ⊢
  omega
theorem xv_exI {ci j : Nat} : xe_I (xe_add xv_0 (.inl ci) 6) 203 j = xe_I xv_0 203 j := xe_addI (by rw [xv_0l]; decide)
theorem xw_one (hi : 0 + 6 ≤ xd_n δ) (hn : xd_n δ ≤ 6) : ∃ μ', xs_G δ 1000 0 13 (xl_ls 0 none none) [] xv_0 (.inl (some (.int 1))) μ' := by
  have hend : ∀ (l5 l6 : Option Value) (μ : xe_Mem), xs_G δ 1000 0 541 (xl_ls 0 l5 l6) [] μ (.inl (some (.int 1))) μ := fun l5 l6 μ => xl_next (xl_exit (by omega) (by decide) (by omega))
  obtain ⟨j, hj, hx⟩ := xl_and15 (xd_x δ 0)
  have hd : ∀ (b : Nat), [25, 82, 99, 106, 123, 168, 203, 238, 283, 305, 337, 369, 391, 436, 471, 506][j]? = some b → (∃ μ', xs_G δ 1000 0 b (xl_ls 0 none none) [] xv_0 (.inl (some (.int 1))) μ') → ∃ μ', xs_G δ 1000 0 13 (xl_ls 0 none none) [] xv_0 (.inl (some (.int 1))) μ' := by
    rintro b hb ⟨μ', h⟩
    exact ⟨μ', xl_disp hi (by omega) hj hx hb h⟩
  match j, hj, hd with
  | 0, _, hd =>
    refine hd 25 rfl ?_
    · exact ⟨_, xl_feed hi (by omega) (xF_sh xF_0 rfl) (xF_sh (xp_20_F xF_0) rfl) (xc_feed_ok (s := 0) (d := 998) xF_0 (by rw [xI_0 (a := 0) (j := 2) (v := 0) rfl]; decide) (by decide)) (xr_feed_ok (s := 0) (xp_20_F xF_0) (by rw [xp_20_o (by decide) (by decide), xI_0 (a := 203) (j := 1) (v := 0) rfl]; decide) (by decide)) (fun l5 l6 => hend l5 l6 _)⟩
  | 1, _, hd =>
    refine hd 82 rfl ?_
    · by_cases hz : xd_x δ (0 + 1) = 0
      · have e1 : xs_M δ 999 14 [.ref 0, .int (xd_x δ (0 + 1))] xv_0 (.inl (some (.int 1))) xv_E := by rw [hz]; exact xv_lift (n := 2) rfl xv_k.1
        have e2 : xs_M δ 999 131 [.ref 203, .int (xd_x δ (0 + 1))] xv_E (.inl (some (.int 1))) xv_E2 := by rw [hz]; exact xv_lift (n := 3) rfl xv_k.2.1
        exact ⟨_, xl_end hi (by omega) (xF_sh xF_0 rfl) xv_k.2.2.2.2.1 e1 e2 (fun l5 l6 => hend l5 l6 _)⟩
      · exact ⟨_, xl_end hi (by omega) (xF_sh xF_0 rfl) (xF_sh xF_0 rfl) (xc_end_no xF_0 (xI_0 rfl) hz) (xr_end_no (d := 998) xF_0 (xI_0 rfl) hz) (fun l5 l6 => hend l5 l6 _)⟩
  | 2, _, hd =>
    refine hd 99 rfl ?_
    · exact ⟨_, xl_compile hi (by omega) (xF_sh xF_0 rfl) xv_k.2.2.2.2.2 (xv_lift (n := 2) rfl xv_k.2.2.1) (xv_lift (n := 4) rfl xv_k.2.2.2.1) (fun l5 l6 => hend l5 l6 _)⟩
  | 3, _, hd =>
    refine hd 106 rfl ?_
    · rcases xp_five (xd_x δ (0 + 1)) with hw | hw | hw | hw | hw | hw
      · have e1 : xs_M δ 999 81 [.ref 0, .int (xd_x δ (0 + 1))] xv_0 (.inl (some (.int 0))) xv_0 := by rw [hw]; exact xc_count_0 (d := 998) xF_0 (xI_0 rfl) (xI_0 rfl) (xI_0 rfl) (xI_0 rfl)
        have e2 : xs_M δ 999 178 [.ref 203, .int (xd_x δ (0 + 1))] xv_0 (.inl (some (.int 0))) (xe_setI xv_0 203 0 0) := by rw [hw]; exact xr_count_0 xF_0 (xI_0 rfl) (xI_0 rfl) (xI_0 rfl) (xI_0 rfl)
        exact ⟨_, xl_count hi (by omega) (xF_sh xF_0 rfl) (xF_sh xF_0 rfl) e1 e2 (fun l5 l6 => hend l5 l6 _)⟩
      · have e1 : xs_M δ 999 81 [.ref 0, .int (xd_x δ (0 + 1))] xv_0 (.inl (some (.int 0))) xv_0 := by rw [hw]; exact xc_count_1 (d := 998) xF_0 (xI_0 rfl) (xI_0 rfl) (xI_0 rfl) (xI_0 rfl)
        have e2 : xs_M δ 999 178 [.ref 203, .int (xd_x δ (0 + 1))] xv_0 (.inl (some (.int 0))) (xe_setI xv_0 203 0 0) := by rw [hw]; exact xr_count_1 xF_0 (xI_0 rfl) (xI_0 rfl) (xI_0 rfl) (xI_0 rfl)
        exact ⟨_, xl_count hi (by omega) (xF_sh xF_0 rfl) (xF_sh xF_0 rfl) e1 e2 (fun l5 l6 => hend l5 l6 _)⟩
      · have e1 : xs_M δ 999 81 [.ref 0, .int (xd_x δ (0 + 1))] xv_0 (.inl (some (.int 0))) xv_0 := by rw [hw]; exact xc_count_2 (d := 998) xF_0 (xI_0 rfl) (xI_0 rfl) (xI_0 rfl) (xI_0 rfl)
        have e2 : xs_M δ 999 178 [.ref 203, .int (xd_x δ (0 + 1))] xv_0 (.inl (some (.int 0))) (xe_setI xv_0 203 0 0) := by rw [hw]; exact xr_count_2 xF_0 (xI_0 rfl) (xI_0 rfl) (xI_0 rfl) (xI_0 rfl)
        exact ⟨_, xl_count hi (by omega) (xF_sh xF_0 rfl) (xF_sh xF_0 rfl) e1 e2 (fun l5 l6 => hend l5 l6 _)⟩
      · have e1 : xs_M δ 999 81 [.ref 0, .int (xd_x δ (0 + 1))] xv_0 (.inl (some (.int 0))) xv_0 := by rw [hw]; exact xc_count_3 (d := 998) xF_0 (xI_0 rfl) (xI_0 rfl) (xI_0 rfl) (xI_0 rfl)
        have e2 : xs_M δ 999 178 [.ref 203, .int (xd_x δ (0 + 1))] xv_0 (.inl (some (.int 0))) (xe_setI xv_0 203 0 0) := by rw [hw]; exact xr_count_3 xF_0 (xI_0 rfl) (xI_0 rfl) (xI_0 rfl) (xI_0 rfl)
        exact ⟨_, xl_count hi (by omega) (xF_sh xF_0 rfl) (xF_sh xF_0 rfl) e1 e2 (fun l5 l6 => hend l5 l6 _)⟩
      · have e1 : xs_M δ 999 81 [.ref 0, .int (xd_x δ (0 + 1))] xv_0 (.inl (some (.int 0))) xv_0 := by rw [hw]; exact xc_count_4 (d := 998) xF_0 (xI_0 rfl) (xI_0 rfl) (xI_0 rfl) (xI_0 rfl)
        have e2 : xs_M δ 999 178 [.ref 203, .int (xd_x δ (0 + 1))] xv_0 (.inl (some (.int 0))) (xe_setI xv_0 203 0 0) := by rw [hw]; exact xr_count_4 xF_0 (xI_0 rfl) (xI_0 rfl) (xI_0 rfl) (xI_0 rfl)
        exact ⟨_, xl_count hi (by omega) (xF_sh xF_0 rfl) (xF_sh xF_0 rfl) e1 e2 (fun l5 l6 => hend l5 l6 _)⟩
      · exact ⟨_, xl_count hi (by omega) (xF_sh xF_0 rfl) (xF_sh xF_0 rfl) (xc_count_x (d := 998) hw) (xr_count_x xF_0 (xI_0 rfl) (xI_0 rfl) (xI_0 rfl) (xI_0 rfl) hw) (fun l5 l6 => hend l5 l6 _)⟩
  | 4, _, hd =>
    refine hd 123 rfl ?_
    · exact ⟨_, xl_task hi (by omega) (xF_sh xF_0 rfl) (xF_sh (xF_exc (ci := 14) xF_0) rfl) (xh_task_no (d := 996) xF_0 (by decide) (by rw [xI_0 (a := 7) (j := 7) (v := 0) rfl]; exact xp_nob _)) (xr_task0 (d := 997) (xF_exc (ci := 14) xF_0) (by rw [xv_exI]; exact xI_0 rfl)) (xF_sh (xF_exc (ci := 14) xF_0) rfl) xu_I (xF_sh (xF_exc (ci := 14) xF_0) rfl) (fun hc => absurd hc (by decide)) (fun l5 l6 => hend l5 l6 _)⟩
  | 5, _, hd =>
    refine hd 168 rfl ?_
    · exact ⟨_, xl_check hi (by omega) (xF_sh xF_0 rfl) (xF_sh (xF_exc (ci := 14) xF_0) rfl) (xh_check_no (d := 996) xF_0 (by decide) (by rw [xI_0 (a := 7) (j := 6) (v := 0) rfl]; exact xp_nob _)) (xr_check0 (d := 998) (xF_exc (ci := 14) xF_0) (by rw [xv_exI]; exact xI_0 rfl)) (xF_sh (xF_exc (ci := 14) xF_0) rfl) xu_I (xF_sh (xF_exc (ci := 14) xF_0) rfl) (fun hc => absurd hc (by decide)) (fun l5 l6 => hend l5 l6 _)⟩
  | 6, _, hd =>
    refine hd 203 rfl ?_
    · exact ⟨_, xl_slack hi (by omega) (xF_sh xF_0 rfl) (xF_sh (xF_exc (ci := 14) xF_0) rfl) (xh_slack_no (d := 996) xF_0 (by decide) (by rw [xI_0 (a := 7) (j := 7) (v := 0) rfl]; exact xp_nob _)) (xr_slack0 (d := 997) (xF_exc (ci := 14) xF_0) (by rw [xv_exI]; exact xI_0 rfl)) (xF_sh (xF_exc (ci := 14) xF_0) rfl) xu_I (xF_sh (xF_exc (ci := 14) xF_0) rfl) (fun hc => absurd hc (by decide)) (fun l5 l6 => hend l5 l6 _)⟩
  | 7, _, hd =>
    refine hd 238 rfl ?_
    · exact ⟨_, xl_slot hi (by omega) (xF_sh xF_0 rfl) (xF_sh (xF_exc (ci := 14) xF_0) rfl) (xh_slot_no (d := 996) xF_0 (by decide) (by rw [xI_0 (a := 7) (j := 6) (v := 0) rfl]; exact xp_nob _)) (xr_slot0 (d := 998) (xF_exc (ci := 14) xF_0) (by rw [xv_exI]; exact xI_0 rfl)) (xF_sh (xF_exc (ci := 14) xF_0) rfl) xu_I (xF_sh (xF_exc (ci := 14) xF_0) rfl) (fun hc => absurd hc (by decide)) (fun l5 l6 => hend l5 l6 _)⟩
  | 8, _, hd =>
    refine hd 283 rfl ?_
    · exact ⟨_, xl_reset hi (by omega) (xF_sh xF_0 rfl) (xF_sh (xF_exc (ci := 14) xF_0) rfl) (xh_reset_no (d := 996) xF_0 (by decide) (by rw [xI_0 (a := 7) (j := 6) (v := 0) rfl]; exact xp_nob _)) (xr_reset0 (d := 998) (xF_exc (ci := 14) xF_0) (by rw [xv_exI]; exact xI_0 rfl)) (xF_sh (xF_exc (ci := 14) xF_0) rfl) xu_I (fun l5 l6 => hend l5 l6 _)⟩
  | 9, _, hd =>
    refine hd 305 rfl ?_
    · exact ⟨_, xl_takes hi (by omega) (xF_sh xF_0 rfl) (xF_sh (xF_exc (ci := 13) xF_0) rfl) (xh_takes_no (d := 997) xF_0 (by decide) (xI_0 rfl)) (xr_takes0 (xF_exc (ci := 13) xF_0) (by rw [xv_exI]; exact xI_0 rfl)) (xF_sh (xF_exc (ci := 13) xF_0) rfl) xu_I (fun l5 l6 => hend l5 l6 _)⟩
  | 10, _, hd =>
    refine hd 337 rfl ?_
    · exact ⟨_, xl_sensor hi (by omega) (xF_sh xF_0 rfl) (xF_sh (xF_exc (ci := 13) xF_0) rfl) (xh_sensor_no (d := 997) xF_0 (by decide) (xI_0 rfl)) (xr_sensor0 (xF_exc (ci := 13) xF_0) (by rw [xv_exI]; exact xI_0 rfl)) (xF_sh (xF_exc (ci := 13) xF_0) rfl) xu_I (fun l5 l6 => hend l5 l6 _)⟩
  | 11, _, hd =>
    refine hd 369 rfl ?_
    · exact ⟨_, xl_tick hi (by omega) (xF_sh xF_0 rfl) (xF_sh (xF_exc (ci := 13) xF_0) rfl) (xh_tick_no (d := 997) xF_0 (by decide) (xI_0 rfl)) (xr_tick0 (xF_exc (ci := 13) xF_0) (by rw [xv_exI]; exact xI_0 rfl)) (xF_sh (xF_exc (ci := 13) xF_0) rfl) xu_I (fun l5 l6 => hend l5 l6 _)⟩
  | 12, _, hd =>
    refine hd 391 rfl ?_
    · exact ⟨_, xl_port hi (by omega) (xF_sh xF_0 rfl) (xF_sh (xF_exc (ci := 13) xF_0) rfl) (xh_port_no (d := 997) xF_0 (by decide) (xI_0 rfl)) (xr_port0 (xF_exc (ci := 13) xF_0) (by rw [xv_exI]; exact xI_0 rfl)) (xF_sh (xF_exc (ci := 13) xF_0) rfl) xu_I (xF_sh (xF_exc (ci := 13) xF_0) rfl) (fun hc => absurd hc (by decide)) (fun l5 l6 => hend l5 l6 _)⟩
  | 13, _, hd =>
    refine hd 436 rfl ?_
    · exact ⟨_, xl_denoted hi (by omega) (xF_sh xF_0 rfl) (xF_sh (xF_exc (ci := 13) xF_0) rfl) (xh_denoted_no (d := 997) xF_0 (by decide) (xI_0 rfl)) (xr_denoted0 (xF_exc (ci := 13) xF_0) (by rw [xv_exI]; exact xI_0 rfl)) (xF_sh (xF_exc (ci := 13) xF_0) rfl) xu_I (xF_sh (xF_exc (ci := 13) xF_0) rfl) (fun hc => absurd hc (by decide)) (fun l5 l6 => hend l5 l6 _)⟩
  | 14, _, hd =>
    refine hd 471 rfl ?_
    · exact ⟨_, xl_state hi (by omega) (xF_sh xF_0 rfl) (xF_sh (xF_exc (ci := 13) xF_0) rfl) (xh_state_no (d := 997) xF_0 (by decide) (xI_0 rfl)) (xr_state0 (xF_exc (ci := 13) xF_0) (by rw [xv_exI]; exact xI_0 rfl)) (xF_sh (xF_exc (ci := 13) xF_0) rfl) xu_I (xF_sh (xF_exc (ci := 13) xF_0) rfl) (fun hc => absurd hc (by decide)) (fun l5 l6 => hend l5 l6 _)⟩
  | 15, _, hd =>
    refine hd 506 rfl ?_
    · exact ⟨_, xl_running hi (by omega) (xF_sh xF_0 rfl) (xF_sh (xF_exc (ci := 13) xF_0) rfl) (xh_running_no (d := 997) xF_0 (by decide) (xI_0 rfl)) (xr_running0 (xF_exc (ci := 13) xF_0) (by rw [xv_exI]; exact xI_0 rfl)) (xF_sh (xF_exc (ci := 13) xF_0) rfl) xu_I (xF_sh (xF_exc (ci := 13) xF_0) rfl) (fun hc => absurd hc (by decide)) (fun l5 l6 => hend l5 l6 _)⟩
  | n + 16, h, _ => exact absurd h (by omega)
theorem xw_law : xw_Law := by
  intro δ hn
  by_cases hi : 0 + 6 ≤ xd_n δ
  · obtain ⟨μ', h⟩ := xw_one hi hn
    obtain ⟨n, h⟩ := xl_begin h
    exact ⟨n, μ', h⟩
  · obtain ⟨n, h⟩ := xl_begin (δ := δ) (xl_exit (l5 := none) (l6 := none) (μ := xv_0) (by omega) (by decide) (by omega))
    exact ⟨n, _, h⟩
end
theorem i_vc : Claimed_1_1 ∧ Claimed_1_2 := xw_claim xw_law
