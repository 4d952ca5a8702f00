/-! the law's calls, from what the class and the reference answer (by wip/whole/gen/law.py) -/
theorem xe_rcvO {μ : xe_Mem} {ci a : Nat} {as : List Value} (h : (xe_sh μ)[a]? = some (.inl ci)) (hci : ci < 100 := by decide) : xe_rcv μ (ci + 1) (.ref a :: as) = true := by
  unfold xe_rcv
  dsimp only
  rw [if_neg (by omega), if_neg (by omega)]
  exact decide_eq_true h
theorem xs_sld {δ : xe_Dy} {d y k j : Nat} {ls : xe_Ls} {r : List Value} {μ μ' : xe_Mem} {o : xe_Out} {i : Int32} (hi : (xM_C δ y)[k]? = some (.inl (xe_sld δ))) (hj : i.toNatClampNeg = j) (h0 : ¬ i < 0) (hN : j < xd_n δ) (h : xs_G δ d y (k + 1) ls (.int (xd_x δ j) :: r) μ o μ') : xs_G δ d y k ls (.int i :: .ref 1000000 :: r) μ o μ' := by
  refine xs_op hi ?_ h
  unfold xe_sld
  dsimp only
  rw [hj, if_pos ⟨rfl, fun hc => hc.elim h0 (fun hc => Nat.not_le.mpr hN hc)⟩]
abbrev xl_ls (i : Nat) (l5 l6 : Option Value) : xe_Ls := [some (.ref 1000000), some (.ref 0), some (.ref 203), some (.ref 264), some (.int (nI i)), l5, l6]
theorem xi_1 {i : Nat} (h : i < 1000000) : (nI i + 1).toNatClampNeg = i + 1 ∧ ¬ (nI i + 1) < 0 := by
  have e : (1 : Int32) = nI 1 := by decide
  rw [e, nI_add]
  exact ⟨nI_clamp (by omega), nI_pos (by omega)⟩
theorem xi_2 {i : Nat} (h : i < 1000000) : (nI i + 2).toNatClampNeg = i + 2 ∧ ¬ (nI i + 2) < 0 := by
  have e : (2 : Int32) = nI 2 := by decide
  rw [e, nI_add]
  exact ⟨nI_clamp (by omega), nI_pos (by omega)⟩
theorem xi_3 {i : Nat} (h : i < 1000000) : (nI i + 3).toNatClampNeg = i + 3 ∧ ¬ (nI i + 3) < 0 := by
  have e : (3 : Int32) = nI 3 := by decide
  rw [e, nI_add]
  exact ⟨nI_clamp (by omega), nI_pos (by omega)⟩
theorem xi_4 {i : Nat} (h : i < 1000000) : (nI i + 4).toNatClampNeg = i + 4 ∧ ¬ (nI i + 4) < 0 := by
  have e : (4 : Int32) = nI 4 := by decide
  rw [e, nI_add]
  exact ⟨nI_clamp (by omega), nI_pos (by omega)⟩
theorem xi_5 {i : Nat} (h : i < 1000000) : (nI i + 5).toNatClampNeg = i + 5 ∧ ¬ (nI i + 5) < 0 := by
  have e : (5 : Int32) = nI 5 := by decide
  rw [e, nI_add]
  exact ⟨nI_clamp (by omega), nI_pos (by omega)⟩
theorem xi_0 {i : Nat} (h : i < 1000000) : (nI i).toNatClampNeg = i ∧ ¬ nI i < 0 := ⟨nI_clamp (by omega), nI_pos (by omega)⟩
/-- the reference's thrown() -/
theorem xr_thrown {δ : xe_Dy} {d : Nat} {μ : xe_Mem} (h : (xe_sh μ)[203]? = some (.inl 11)) : xs_M δ d 129 [.ref 203] μ (.inl (some (.int (xe_I μ 203 0)))) μ := by
  refine xs_op (y := 129) rfl rfl ?_
  refine xs_gI rfl h ?_
  exact xs_ret1 rfl
set_option maxRecDepth 20000 in
theorem xl_feed {δ : xe_Dy} {i : Nat} {l5 l6 : Option Value} {μ μ1 μ2 μ' : xe_Mem} {o : xe_Out} {K : Int32} (hi : i + 6 ≤ xd_n δ) (hn : xd_n δ ≤ 3072) (h0 : (xe_sh μ)[0]? = some (.inl 10)) (h1 : (xe_sh μ1)[203]? = some (.inl 11)) (hC : xs_M δ 999 12 [.ref 0, .int (xd_x δ (i + 1)), .int (xd_x δ (i + 2)), .int (xd_x δ (i + 3)), .int (xd_x δ (i + 4)), .int (xd_x δ (i + 5))] μ (.inl (some (.int K))) μ1) (hM : xs_M δ 999 130 [.ref 203, .int (xd_x δ (i + 1)), .int (xd_x δ (i + 2)), .int (xd_x δ (i + 3)), .int (xd_x δ (i + 4)), .int (xd_x δ (i + 5))] μ1 (.inl (some (.int K))) μ2) (h : ∀ l5 l6, xs_G δ 1000 0 541 (xl_ls i l5 l6) [] μ2 o μ') : xs_G δ 1000 0 25 (xl_ls i l5 l6) [] μ o μ' := by
  have hb : i < 1000000 := by omega
  refine xs_op rfl rfl ?_
  refine xs_op rfl rfl ?_
  refine xs_op rfl rfl ?_
  refine xs_op rfl rfl ?_
  refine xs_op rfl rfl ?_
  refine xs_sld rfl (xi_1 hb).1 (xi_1 hb).2 (by omega) ?_
  refine xs_op rfl rfl ?_
  refine xs_op rfl rfl ?_
  refine xs_op rfl rfl ?_
  refine xs_op rfl rfl ?_
  refine xs_sld rfl (xi_2 hb).1 (xi_2 hb).2 (by omega) ?_
  refine xs_op rfl rfl ?_
  refine xs_op rfl rfl ?_
  refine xs_op rfl rfl ?_
  refine xs_op rfl rfl ?_
  refine xs_sld rfl (xi_3 hb).1 (xi_3 hb).2 (by omega) ?_
  refine xs_op rfl rfl ?_
  refine xs_op rfl rfl ?_
  refine xs_op rfl rfl ?_
  refine xs_op rfl rfl ?_
  refine xs_sld rfl (xi_4 hb).1 (xi_4 hb).2 (by omega) ?_
  refine xs_op rfl rfl ?_
  refine xs_op rfl rfl ?_
  refine xs_op rfl rfl ?_
  refine xs_op rfl rfl ?_
  refine xs_sld rfl (xi_5 hb).1 (xi_5 hb).2 (by omega) ?_
  refine xs_call rfl (as := [.ref 0, .int (xd_x δ (i + 1)), .int (xd_x δ (i + 2)), .int (xd_x δ (i + 3)), .int (xd_x δ (i + 4)), .int (xd_x δ (i + 5))]) (rest := []) rfl rfl (xe_rcvO h0) (Nat.le_of_ble_eq_true rfl) (Nat.le_of_ble_eq_true rfl) (by decide) (hC) ?_
  refine xs_op rfl rfl ?_
  refine xs_op rfl rfl ?_
  refine xs_op rfl rfl ?_
  refine xs_op rfl rfl ?_
  refine xs_op rfl rfl ?_
  refine xs_sld rfl (xi_1 hb).1 (xi_1 hb).2 (by omega) ?_
  refine xs_op rfl rfl ?_
  refine xs_op rfl rfl ?_
  refine xs_op rfl rfl ?_
  refine xs_op rfl rfl ?_
  refine xs_sld rfl (xi_2 hb).1 (xi_2 hb).2 (by omega) ?_
  refine xs_op rfl rfl ?_
  refine xs_op rfl rfl ?_
  refine xs_op rfl rfl ?_
  refine xs_op rfl rfl ?_
  refine xs_sld rfl (xi_3 hb).1 (xi_3 hb).2 (by omega) ?_
  refine xs_op rfl rfl ?_
  refine xs_op rfl rfl ?_
  refine xs_op rfl rfl ?_
  refine xs_op rfl rfl ?_
  refine xs_sld rfl (xi_4 hb).1 (xi_4 hb).2 (by omega) ?_
  refine xs_op rfl rfl ?_
  refine xs_op rfl rfl ?_
  refine xs_op rfl rfl ?_
  refine xs_op rfl rfl ?_
  refine xs_sld rfl (xi_5 hb).1 (xi_5 hb).2 (by omega) ?_
  refine xs_call rfl (as := [.ref 203, .int (xd_x δ (i + 1)), .int (xd_x δ (i + 2)), .int (xd_x δ (i + 3)), .int (xd_x δ (i + 4)), .int (xd_x δ (i + 5))]) (rest := [.int K]) rfl rfl (xe_rcvO h1) (Nat.le_of_ble_eq_true rfl) (Nat.le_of_ble_eq_true rfl) (by decide) (hM) ?_
  refine xs_op rfl (if_pos rfl) ?_
  exact h l5 l6
set_option maxRecDepth 20000 in
theorem xl_end {δ : xe_Dy} {i : Nat} {l5 l6 : Option Value} {μ μ1 μ2 μ' : xe_Mem} {o : xe_Out} {K : Int32} (hi : i + 6 ≤ xd_n δ) (hn : xd_n δ ≤ 3072) (h0 : (xe_sh μ)[0]? = some (.inl 10)) (h1 : (xe_sh μ1)[203]? = some (.inl 11)) (hC : xs_M δ 999 14 [.ref 0, .int (xd_x δ (i + 1))] μ (.inl (some (.int K))) μ1) (hM : xs_M δ 999 131 [.ref 203, .int (xd_x δ (i + 1))] μ1 (.inl (some (.int K))) μ2) (h : ∀ l5 l6, xs_G δ 1000 0 541 (xl_ls i l5 l6) [] μ2 o μ') : xs_G δ 1000 0 82 (xl_ls i l5 l6) [] μ o μ' := by
  have hb : i < 1000000 := by omega
  refine xs_op rfl rfl ?_
  refine xs_op rfl rfl ?_
  refine xs_op rfl rfl ?_
  refine xs_op rfl rfl ?_
  refine xs_op rfl rfl ?_
  refine xs_sld rfl (xi_1 hb).1 (xi_1 hb).2 (by omega) ?_
  refine xs_call rfl (as := [.ref 0, .int (xd_x δ (i + 1))]) (rest := []) rfl rfl (xe_rcvO h0) (Nat.le_of_ble_eq_true rfl) (Nat.le_of_ble_eq_true rfl) (by decide) (hC) ?_
  refine xs_op rfl rfl ?_
  refine xs_op rfl rfl ?_
  refine xs_op rfl rfl ?_
  refine xs_op rfl rfl ?_
  refine xs_op rfl rfl ?_
  refine xs_sld rfl (xi_1 hb).1 (xi_1 hb).2 (by omega) ?_
  refine xs_call rfl (as := [.ref 203, .int (xd_x δ (i + 1))]) (rest := [.int K]) rfl rfl (xe_rcvO h1) (Nat.le_of_ble_eq_true rfl) (Nat.le_of_ble_eq_true rfl) (by decide) (hM) ?_
  refine xs_op rfl (if_pos rfl) ?_
  exact h l5 l6
set_option maxRecDepth 20000 in
theorem xl_compile {δ : xe_Dy} {i : Nat} {l5 l6 : Option Value} {μ μ1 μ2 μ' : xe_Mem} {o : xe_Out} {K : Int32} (hi : i + 6 ≤ xd_n δ) (hn : xd_n δ ≤ 3072) (h0 : (xe_sh μ)[0]? = some (.inl 10)) (h1 : (xe_sh μ1)[203]? = some (.inl 11)) (hC : xs_M δ 999 15 [.ref 0] μ (.inl (some (.int K))) μ1) (hM : xs_M δ 999 133 [.ref 203] μ1 (.inl (some (.int K))) μ2) (h : ∀ l5 l6, xs_G δ 1000 0 541 (xl_ls i l5 l6) [] μ2 o μ') : xs_G δ 1000 0 99 (xl_ls i l5 l6) [] μ o μ' := by
  have hb : i < 1000000 := by omega
  refine xs_op rfl rfl ?_
  refine xs_call rfl (as := [.ref 0]) (rest := []) rfl rfl (xe_rcvO h0) (Nat.le_of_ble_eq_true rfl) (Nat.le_of_ble_eq_true rfl) (by decide) (hC) ?_
  refine xs_op rfl rfl ?_
  refine xs_call rfl (as := [.ref 203]) (rest := [.int K]) rfl rfl (xe_rcvO h1) (Nat.le_of_ble_eq_true rfl) (Nat.le_of_ble_eq_true rfl) (by decide) (hM) ?_
  refine xs_op rfl (if_pos rfl) ?_
  exact h l5 l6
set_option maxRecDepth 20000 in
theorem xl_count {δ : xe_Dy} {i : Nat} {l5 l6 : Option Value} {μ μ1 μ2 μ' : xe_Mem} {o : xe_Out} {K : Int32} (hi : i + 6 ≤ xd_n δ) (hn : xd_n δ ≤ 3072) (h0 : (xe_sh μ)[0]? = some (.inl 10)) (h1 : (xe_sh μ1)[203]? = some (.inl 11)) (hC : xs_M δ 999 81 [.ref 0, .int (xd_x δ (i + 1))] μ (.inl (some (.int K))) μ1) (hM : xs_M δ 999 178 [.ref 203, .int (xd_x δ (i + 1))] μ1 (.inl (some (.int K))) μ2) (h : ∀ l5 l6, xs_G δ 1000 0 541 (xl_ls i l5 l6) [] μ2 o μ') : xs_G δ 1000 0 106 (xl_ls i l5 l6) [] μ o μ' := by
  have hb : i < 1000000 := by omega
  refine xs_op rfl rfl ?_
  refine xs_op rfl rfl ?_
  refine xs_op rfl rfl ?_
  refine xs_op rfl rfl ?_
  refine xs_op rfl rfl ?_
  refine xs_sld rfl (xi_1 hb).1 (xi_1 hb).2 (by omega) ?_
  refine xs_call rfl (as := [.ref 0, .int (xd_x δ (i + 1))]) (rest := []) rfl rfl (xe_rcvO h0) (Nat.le_of_ble_eq_true rfl) (Nat.le_of_ble_eq_true rfl) (by decide) (hC) ?_
  refine xs_op rfl rfl ?_
  refine xs_op rfl rfl ?_
  refine xs_op rfl rfl ?_
  refine xs_op rfl rfl ?_
  refine xs_op rfl rfl ?_
  refine xs_sld rfl (xi_1 hb).1 (xi_1 hb).2 (by omega) ?_
  refine xs_call rfl (as := [.ref 203, .int (xd_x δ (i + 1))]) (rest := [.int K]) rfl rfl (xe_rcvO h1) (Nat.le_of_ble_eq_true rfl) (Nat.le_of_ble_eq_true rfl) (by decide) (hM) ?_
  refine xs_op rfl (if_pos rfl) ?_
  exact h l5 l6
set_option maxRecDepth 20000 in
theorem xl_task {δ : xe_Dy} {i : Nat} {l5 l6 : Option Value} {μ μ1 μ2 μ' : xe_Mem} {o : xe_Out} {K b : Int32} (hi : i + 6 ≤ xd_n δ) (hn : xd_n δ ≤ 3072) (h0 : (xe_sh μ)[0]? = some (.inl 10)) (h1 : (xe_sh μ1)[203]? = some (.inl 11)) (hC : xs_M δ 999 83 [.ref 0, .int (xd_x δ (i + 1)), .int (xd_x δ (i + 2)), .ref 264] μ (.inl (some (.int K))) μ1) (hM : xs_M δ 999 179 [.ref 203, .int (xd_x δ (i + 1)), .int (xd_x δ (i + 2))] μ1 (.inl (some (.int b))) μ2) (h2 : (xe_sh μ2)[203]? = some (.inl 11)) (hK : xe_I μ2 203 0 = K) (h3 : (xe_sh μ2)[264]? = some (.inr (1, 1))) (hv : K = 0 → xe_L μ2 264 0 = b.toInt64) (h : ∀ l5 l6, xs_G δ 1000 0 541 (xl_ls i l5 l6) [] μ2 o μ') : xs_G δ 1000 0 123 (xl_ls i l5 l6) [] μ o μ' := by
  have hb : i < 1000000 := by omega
  refine xs_op rfl rfl ?_
  refine xs_op rfl rfl ?_
  refine xs_op rfl rfl ?_
  refine xs_op rfl rfl ?_
  refine xs_op rfl rfl ?_
  refine xs_sld rfl (xi_1 hb).1 (xi_1 hb).2 (by omega) ?_
  refine xs_op rfl rfl ?_
  refine xs_op rfl rfl ?_
  refine xs_op rfl rfl ?_
  refine xs_op rfl rfl ?_
  refine xs_sld rfl (xi_2 hb).1 (xi_2 hb).2 (by omega) ?_
  refine xs_op rfl rfl ?_
  refine xs_call rfl (as := [.ref 0, .int (xd_x δ (i + 1)), .int (xd_x δ (i + 2)), .ref 264]) (rest := []) rfl rfl rfl (Nat.le_of_ble_eq_true rfl) (Nat.le_of_ble_eq_true rfl) (by decide) (hC) ?_
  refine xs_op rfl rfl ?_
  refine xs_op rfl rfl ?_
  refine xs_op rfl rfl ?_
  refine xs_op rfl rfl ?_
  refine xs_op rfl rfl ?_
  refine xs_op rfl rfl ?_
  refine xs_sld rfl (xi_1 hb).1 (xi_1 hb).2 (by omega) ?_
  refine xs_op rfl rfl ?_
  refine xs_op rfl rfl ?_
  refine xs_op rfl rfl ?_
  refine xs_op rfl rfl ?_
  refine xs_sld rfl (xi_2 hb).1 (xi_2 hb).2 (by omega) ?_
  refine xs_call rfl (as := [.ref 203, .int (xd_x δ (i + 1)), .int (xd_x δ (i + 2))]) (rest := []) rfl rfl (xe_rcvO h1) (Nat.le_of_ble_eq_true rfl) (Nat.le_of_ble_eq_true rfl) (by decide) (hM) ?_
  refine xs_op rfl rfl ?_
  refine xs_op rfl rfl ?_
  refine xs_call rfl (as := [.ref 203]) (rest := []) rfl rfl (xe_rcvO h2) (Nat.le_of_ble_eq_true rfl) (Nat.le_of_ble_eq_true rfl) (by decide) (xr_thrown h2) ?_
  refine xs_op rfl rfl ?_
  refine xs_op rfl (if_pos hK) ?_
  refine xs_op rfl rfl ?_
  by_cases hz : K = 0
  · refine xs_op rfl (if_neg (fun hc => hc hz)) ?_
    refine xs_op rfl rfl ?_
    refine xs_op rfl rfl ?_
    refine xs_aL (j := 0) rfl h3 rfl (by decide) (by decide) ?_
    refine xs_op rfl rfl ?_
    refine xs_op rfl rfl ?_
    refine xs_op rfl rfl ?_
    refine xs_op rfl (if_pos ((lg_cmp_eq _ _).mpr (hv hz))) ?_
    refine xs_op rfl rfl ?_
    exact h _ _
  · refine xs_op rfl (if_pos hz) ?_
    refine xs_op rfl rfl ?_
    exact h _ _
set_option maxRecDepth 20000 in
theorem xl_check {δ : xe_Dy} {i : Nat} {l5 l6 : Option Value} {μ μ1 μ2 μ' : xe_Mem} {o : xe_Out} {K b : Int32} (hi : i + 6 ≤ xd_n δ) (hn : xd_n δ ≤ 3072) (h0 : (xe_sh μ)[0]? = some (.inl 10)) (h1 : (xe_sh μ1)[203]? = some (.inl 11)) (hC : xs_M δ 999 88 [.ref 0, .int (xd_x δ (i + 1)), .ref 264] μ (.inl (some (.int K))) μ1) (hM : xs_M δ 999 181 [.ref 203, .int (xd_x δ (i + 1))] μ1 (.inl (some (.int b))) μ2) (h2 : (xe_sh μ2)[203]? = some (.inl 11)) (hK : xe_I μ2 203 0 = K) (h3 : (xe_sh μ2)[264]? = some (.inr (1, 1))) (hv : K = 0 → xe_L μ2 264 0 = b.toInt64) (h : ∀ l5 l6, xs_G δ 1000 0 541 (xl_ls i l5 l6) [] μ2 o μ') : xs_G δ 1000 0 168 (xl_ls i l5 l6) [] μ o μ' := by
  have hb : i < 1000000 := by omega
  refine xs_op rfl rfl ?_
  refine xs_op rfl rfl ?_
  refine xs_op rfl rfl ?_
  refine xs_op rfl rfl ?_
  refine xs_op rfl rfl ?_
  refine xs_sld rfl (xi_1 hb).1 (xi_1 hb).2 (by omega) ?_
  refine xs_op rfl rfl ?_
  refine xs_call rfl (as := [.ref 0, .int (xd_x δ (i + 1)), .ref 264]) (rest := []) rfl rfl rfl (Nat.le_of_ble_eq_true rfl) (Nat.le_of_ble_eq_true rfl) (by decide) (hC) ?_
  refine xs_op rfl rfl ?_
  refine xs_op rfl rfl ?_
  refine xs_op rfl rfl ?_
  refine xs_op rfl rfl ?_
  refine xs_op rfl rfl ?_
  refine xs_op rfl rfl ?_
  refine xs_sld rfl (xi_1 hb).1 (xi_1 hb).2 (by omega) ?_
  refine xs_call rfl (as := [.ref 203, .int (xd_x δ (i + 1))]) (rest := []) rfl rfl (xe_rcvO h1) (Nat.le_of_ble_eq_true rfl) (Nat.le_of_ble_eq_true rfl) (by decide) (hM) ?_
  refine xs_op rfl rfl ?_
  refine xs_op rfl rfl ?_
  refine xs_call rfl (as := [.ref 203]) (rest := []) rfl rfl (xe_rcvO h2) (Nat.le_of_ble_eq_true rfl) (Nat.le_of_ble_eq_true rfl) (by decide) (xr_thrown h2) ?_
  refine xs_op rfl rfl ?_
  refine xs_op rfl (if_pos hK) ?_
  refine xs_op rfl rfl ?_
  by_cases hz : K = 0
  · refine xs_op rfl (if_neg (fun hc => hc hz)) ?_
    refine xs_op rfl rfl ?_
    refine xs_op rfl rfl ?_
    refine xs_aL (j := 0) rfl h3 rfl (by decide) (by decide) ?_
    refine xs_op rfl rfl ?_
    refine xs_op rfl rfl ?_
    refine xs_op rfl rfl ?_
    refine xs_op rfl (if_pos ((lg_cmp_eq _ _).mpr (hv hz))) ?_
    refine xs_op rfl rfl ?_
    exact h _ _
  · refine xs_op rfl (if_pos hz) ?_
    refine xs_op rfl rfl ?_
    exact h _ _
set_option maxRecDepth 20000 in
theorem xl_slack {δ : xe_Dy} {i : Nat} {l5 l6 : Option Value} {μ μ1 μ2 μ' : xe_Mem} {o : xe_Out} {K b : Int32} (hi : i + 6 ≤ xd_n δ) (hn : xd_n δ ≤ 3072) (h0 : (xe_sh μ)[0]? = some (.inl 10)) (h1 : (xe_sh μ1)[203]? = some (.inl 11)) (hC : xs_M δ 999 91 [.ref 0, .int (xd_x δ (i + 1)), .ref 264] μ (.inl (some (.int K))) μ1) (hM : xs_M δ 999 182 [.ref 203, .int (xd_x δ (i + 1))] μ1 (.inl (some (.int b))) μ2) (h2 : (xe_sh μ2)[203]? = some (.inl 11)) (hK : xe_I μ2 203 0 = K) (h3 : (xe_sh μ2)[264]? = some (.inr (1, 1))) (hv : K = 0 → xe_L μ2 264 0 = b.toInt64) (h : ∀ l5 l6, xs_G δ 1000 0 541 (xl_ls i l5 l6) [] μ2 o μ') : xs_G δ 1000 0 203 (xl_ls i l5 l6) [] μ o μ' := by
  have hb : i < 1000000 := by omega
  refine xs_op rfl rfl ?_
  refine xs_op rfl rfl ?_
  refine xs_op rfl rfl ?_
  refine xs_op rfl rfl ?_
  refine xs_op rfl rfl ?_
  refine xs_sld rfl (xi_1 hb).1 (xi_1 hb).2 (by omega) ?_
  refine xs_op rfl rfl ?_
  refine xs_call rfl (as := [.ref 0, .int (xd_x δ (i + 1)), .ref 264]) (rest := []) rfl rfl rfl (Nat.le_of_ble_eq_true rfl) (Nat.le_of_ble_eq_true rfl) (by decide) (hC) ?_
  refine xs_op rfl rfl ?_
  refine xs_op rfl rfl ?_
  refine xs_op rfl rfl ?_
  refine xs_op rfl rfl ?_
  refine xs_op rfl rfl ?_
  refine xs_op rfl rfl ?_
  refine xs_sld rfl (xi_1 hb).1 (xi_1 hb).2 (by omega) ?_
  refine xs_call rfl (as := [.ref 203, .int (xd_x δ (i + 1))]) (rest := []) rfl rfl (xe_rcvO h1) (Nat.le_of_ble_eq_true rfl) (Nat.le_of_ble_eq_true rfl) (by decide) (hM) ?_
  refine xs_op rfl rfl ?_
  refine xs_op rfl rfl ?_
  refine xs_call rfl (as := [.ref 203]) (rest := []) rfl rfl (xe_rcvO h2) (Nat.le_of_ble_eq_true rfl) (Nat.le_of_ble_eq_true rfl) (by decide) (xr_thrown h2) ?_
  refine xs_op rfl rfl ?_
  refine xs_op rfl (if_pos hK) ?_
  refine xs_op rfl rfl ?_
  by_cases hz : K = 0
  · refine xs_op rfl (if_neg (fun hc => hc hz)) ?_
    refine xs_op rfl rfl ?_
    refine xs_op rfl rfl ?_
    refine xs_aL (j := 0) rfl h3 rfl (by decide) (by decide) ?_
    refine xs_op rfl rfl ?_
    refine xs_op rfl rfl ?_
    refine xs_op rfl rfl ?_
    refine xs_op rfl (if_pos ((lg_cmp_eq _ _).mpr (hv hz))) ?_
    refine xs_op rfl rfl ?_
    exact h _ _
  · refine xs_op rfl (if_pos hz) ?_
    refine xs_op rfl rfl ?_
    exact h _ _
set_option maxRecDepth 20000 in
theorem xl_slot {δ : xe_Dy} {i : Nat} {l5 l6 : Option Value} {μ μ1 μ2 μ' : xe_Mem} {o : xe_Out} {K b : Int32} (hi : i + 6 ≤ xd_n δ) (hn : xd_n δ ≤ 3072) (h0 : (xe_sh μ)[0]? = some (.inl 10)) (h1 : (xe_sh μ1)[203]? = some (.inl 11)) (hC : xs_M δ 999 93 [.ref 0, .int (xd_x δ (i + 1)), .int (xd_x δ (i + 2)), .ref 264] μ (.inl (some (.int K))) μ1) (hM : xs_M δ 999 183 [.ref 203, .int (xd_x δ (i + 1)), .int (xd_x δ (i + 2))] μ1 (.inl (some (.int b))) μ2) (h2 : (xe_sh μ2)[203]? = some (.inl 11)) (hK : xe_I μ2 203 0 = K) (h3 : (xe_sh μ2)[264]? = some (.inr (1, 1))) (hv : K = 0 → xe_L μ2 264 0 = b.toInt64) (h : ∀ l5 l6, xs_G δ 1000 0 541 (xl_ls i l5 l6) [] μ2 o μ') : xs_G δ 1000 0 238 (xl_ls i l5 l6) [] μ o μ' := by
  have hb : i < 1000000 := by omega
  refine xs_op rfl rfl ?_
  refine xs_op rfl rfl ?_
  refine xs_op rfl rfl ?_
  refine xs_op rfl rfl ?_
  refine xs_op rfl rfl ?_
  refine xs_sld rfl (xi_1 hb).1 (xi_1 hb).2 (by omega) ?_
  refine xs_op rfl rfl ?_
  refine xs_op rfl rfl ?_
  refine xs_op rfl rfl ?_
  refine xs_op rfl rfl ?_
  refine xs_sld rfl (xi_2 hb).1 (xi_2 hb).2 (by omega) ?_
  refine xs_op rfl rfl ?_
  refine xs_call rfl (as := [.ref 0, .int (xd_x δ (i + 1)), .int (xd_x δ (i + 2)), .ref 264]) (rest := []) rfl rfl rfl (Nat.le_of_ble_eq_true rfl) (Nat.le_of_ble_eq_true rfl) (by decide) (hC) ?_
  refine xs_op rfl rfl ?_
  refine xs_op rfl rfl ?_
  refine xs_op rfl rfl ?_
  refine xs_op rfl rfl ?_
  refine xs_op rfl rfl ?_
  refine xs_op rfl rfl ?_
  refine xs_sld rfl (xi_1 hb).1 (xi_1 hb).2 (by omega) ?_
  refine xs_op rfl rfl ?_
  refine xs_op rfl rfl ?_
  refine xs_op rfl rfl ?_
  refine xs_op rfl rfl ?_
  refine xs_sld rfl (xi_2 hb).1 (xi_2 hb).2 (by omega) ?_
  refine xs_call rfl (as := [.ref 203, .int (xd_x δ (i + 1)), .int (xd_x δ (i + 2))]) (rest := []) rfl rfl (xe_rcvO h1) (Nat.le_of_ble_eq_true rfl) (Nat.le_of_ble_eq_true rfl) (by decide) (hM) ?_
  refine xs_op rfl rfl ?_
  refine xs_op rfl rfl ?_
  refine xs_call rfl (as := [.ref 203]) (rest := []) rfl rfl (xe_rcvO h2) (Nat.le_of_ble_eq_true rfl) (Nat.le_of_ble_eq_true rfl) (by decide) (xr_thrown h2) ?_
  refine xs_op rfl rfl ?_
  refine xs_op rfl (if_pos hK) ?_
  refine xs_op rfl rfl ?_
  by_cases hz : K = 0
  · refine xs_op rfl (if_neg (fun hc => hc hz)) ?_
    refine xs_op rfl rfl ?_
    refine xs_op rfl rfl ?_
    refine xs_aL (j := 0) rfl h3 rfl (by decide) (by decide) ?_
    refine xs_op rfl rfl ?_
    refine xs_op rfl rfl ?_
    refine xs_op rfl rfl ?_
    refine xs_op rfl (if_pos ((lg_cmp_eq _ _).mpr (hv hz))) ?_
    refine xs_op rfl rfl ?_
    exact h _ _
  · refine xs_op rfl (if_pos hz) ?_
    refine xs_op rfl rfl ?_
    exact h _ _
set_option maxRecDepth 20000 in
theorem xl_reset {δ : xe_Dy} {i : Nat} {l5 l6 : Option Value} {μ μ1 μ2 μ' : xe_Mem} {o : xe_Out} {K : Int32} (hi : i + 6 ≤ xd_n δ) (hn : xd_n δ ≤ 3072) (h0 : (xe_sh μ)[0]? = some (.inl 10)) (h1 : (xe_sh μ1)[203]? = some (.inl 11)) (hC : xs_M δ 999 95 [.ref 0, .int (xd_x δ (i + 1))] μ (.inl (some (.int K))) μ1) (hM : xs_M δ 999 177 [.ref 203, .int (xd_x δ (i + 1))] μ1 (.inl none) μ2) (h2 : (xe_sh μ2)[203]? = some (.inl 11)) (hK : xe_I μ2 203 0 = K) (h : ∀ l5 l6, xs_G δ 1000 0 541 (xl_ls i l5 l6) [] μ2 o μ') : xs_G δ 1000 0 283 (xl_ls i l5 l6) [] μ o μ' := by
  have hb : i < 1000000 := by omega
  refine xs_op rfl rfl ?_
  refine xs_op rfl rfl ?_
  refine xs_op rfl rfl ?_
  refine xs_op rfl rfl ?_
  refine xs_op rfl rfl ?_
  refine xs_sld rfl (xi_1 hb).1 (xi_1 hb).2 (by omega) ?_
  refine xs_call rfl (as := [.ref 0, .int (xd_x δ (i + 1))]) (rest := []) rfl rfl rfl (Nat.le_of_ble_eq_true rfl) (Nat.le_of_ble_eq_true rfl) (by decide) (hC) ?_
  refine xs_op rfl rfl ?_
  refine xs_op rfl rfl ?_
  refine xs_op rfl rfl ?_
  refine xs_op rfl rfl ?_
  refine xs_op rfl rfl ?_
  refine xs_op rfl rfl ?_
  refine xs_sld rfl (xi_1 hb).1 (xi_1 hb).2 (by omega) ?_
  refine xs_call rfl (as := [.ref 203, .int (xd_x δ (i + 1))]) (rest := []) rfl rfl (xe_rcvO h1) (Nat.le_of_ble_eq_true rfl) (Nat.le_of_ble_eq_true rfl) (by decide) (hM) ?_
  refine xs_op rfl rfl ?_
  refine xs_call rfl (as := [.ref 203]) (rest := []) rfl rfl (xe_rcvO h2) (Nat.le_of_ble_eq_true rfl) (Nat.le_of_ble_eq_true rfl) (by decide) (xr_thrown h2) ?_
  refine xs_op rfl rfl ?_
  refine xs_op rfl (if_pos hK) ?_
  refine xs_op rfl rfl ?_
  exact h _ _
set_option maxRecDepth 20000 in
theorem xl_takes {δ : xe_Dy} {i : Nat} {l5 l6 : Option Value} {μ μ1 μ2 μ' : xe_Mem} {o : xe_Out} {K : Int32} (hi : i + 6 ≤ xd_n δ) (hn : xd_n δ ≤ 3072) (h0 : (xe_sh μ)[0]? = some (.inl 10)) (h1 : (xe_sh μ1)[203]? = some (.inl 11)) (hC : xs_M δ 999 98 [.ref 0, .int (xd_x δ (i + 1)), .int (xd_x δ (i + 2))] μ (.inl (some (.int K))) μ1) (hM : xs_M δ 999 184 [.ref 203, .int (xd_x δ (i + 1)), .int (xd_x δ (i + 2))] μ1 (.inl none) μ2) (h2 : (xe_sh μ2)[203]? = some (.inl 11)) (hK : xe_I μ2 203 0 = K) (h : ∀ l5 l6, xs_G δ 1000 0 541 (xl_ls i l5 l6) [] μ2 o μ') : xs_G δ 1000 0 305 (xl_ls i l5 l6) [] μ o μ' := by
  have hb : i < 1000000 := by omega
  refine xs_op rfl rfl ?_
  refine xs_op rfl rfl ?_
  refine xs_op rfl rfl ?_
  refine xs_op rfl rfl ?_
  refine xs_op rfl rfl ?_
  refine xs_sld rfl (xi_1 hb).1 (xi_1 hb).2 (by omega) ?_
  refine xs_op rfl rfl ?_
  refine xs_op rfl rfl ?_
  refine xs_op rfl rfl ?_
  refine xs_op rfl rfl ?_
  refine xs_sld rfl (xi_2 hb).1 (xi_2 hb).2 (by omega) ?_
  refine xs_call rfl (as := [.ref 0, .int (xd_x δ (i + 1)), .int (xd_x δ (i + 2))]) (rest := []) rfl rfl rfl (Nat.le_of_ble_eq_true rfl) (Nat.le_of_ble_eq_true rfl) (by decide) (hC) ?_
  refine xs_op rfl rfl ?_
  refine xs_op rfl rfl ?_
  refine xs_op rfl rfl ?_
  refine xs_op rfl rfl ?_
  refine xs_op rfl rfl ?_
  refine xs_op rfl rfl ?_
  refine xs_sld rfl (xi_1 hb).1 (xi_1 hb).2 (by omega) ?_
  refine xs_op rfl rfl ?_
  refine xs_op rfl rfl ?_
  refine xs_op rfl rfl ?_
  refine xs_op rfl rfl ?_
  refine xs_sld rfl (xi_2 hb).1 (xi_2 hb).2 (by omega) ?_
  refine xs_call rfl (as := [.ref 203, .int (xd_x δ (i + 1)), .int (xd_x δ (i + 2))]) (rest := []) rfl rfl (xe_rcvO h1) (Nat.le_of_ble_eq_true rfl) (Nat.le_of_ble_eq_true rfl) (by decide) (hM) ?_
  refine xs_op rfl rfl ?_
  refine xs_call rfl (as := [.ref 203]) (rest := []) rfl rfl (xe_rcvO h2) (Nat.le_of_ble_eq_true rfl) (Nat.le_of_ble_eq_true rfl) (by decide) (xr_thrown h2) ?_
  refine xs_op rfl rfl ?_
  refine xs_op rfl (if_pos hK) ?_
  refine xs_op rfl rfl ?_
  exact h _ _
set_option maxRecDepth 20000 in
theorem xl_sensor {δ : xe_Dy} {i : Nat} {l5 l6 : Option Value} {μ μ1 μ2 μ' : xe_Mem} {o : xe_Out} {K : Int32} (hi : i + 6 ≤ xd_n δ) (hn : xd_n δ ≤ 3072) (h0 : (xe_sh μ)[0]? = some (.inl 10)) (h1 : (xe_sh μ1)[203]? = some (.inl 11)) (hC : xs_M δ 999 101 [.ref 0, .int (xd_x δ (i + 1)), .int (xd_x δ (i + 2))] μ (.inl (some (.int K))) μ1) (hM : xs_M δ 999 185 [.ref 203, .int (xd_x δ (i + 1)), .int (xd_x δ (i + 2))] μ1 (.inl none) μ2) (h2 : (xe_sh μ2)[203]? = some (.inl 11)) (hK : xe_I μ2 203 0 = K) (h : ∀ l5 l6, xs_G δ 1000 0 541 (xl_ls i l5 l6) [] μ2 o μ') : xs_G δ 1000 0 337 (xl_ls i l5 l6) [] μ o μ' := by
  have hb : i < 1000000 := by omega
  refine xs_op rfl rfl ?_
  refine xs_op rfl rfl ?_
  refine xs_op rfl rfl ?_
  refine xs_op rfl rfl ?_
  refine xs_op rfl rfl ?_
  refine xs_sld rfl (xi_1 hb).1 (xi_1 hb).2 (by omega) ?_
  refine xs_op rfl rfl ?_
  refine xs_op rfl rfl ?_
  refine xs_op rfl rfl ?_
  refine xs_op rfl rfl ?_
  refine xs_sld rfl (xi_2 hb).1 (xi_2 hb).2 (by omega) ?_
  refine xs_call rfl (as := [.ref 0, .int (xd_x δ (i + 1)), .int (xd_x δ (i + 2))]) (rest := []) rfl rfl rfl (Nat.le_of_ble_eq_true rfl) (Nat.le_of_ble_eq_true rfl) (by decide) (hC) ?_
  refine xs_op rfl rfl ?_
  refine xs_op rfl rfl ?_
  refine xs_op rfl rfl ?_
  refine xs_op rfl rfl ?_
  refine xs_op rfl rfl ?_
  refine xs_op rfl rfl ?_
  refine xs_sld rfl (xi_1 hb).1 (xi_1 hb).2 (by omega) ?_
  refine xs_op rfl rfl ?_
  refine xs_op rfl rfl ?_
  refine xs_op rfl rfl ?_
  refine xs_op rfl rfl ?_
  refine xs_sld rfl (xi_2 hb).1 (xi_2 hb).2 (by omega) ?_
  refine xs_call rfl (as := [.ref 203, .int (xd_x δ (i + 1)), .int (xd_x δ (i + 2))]) (rest := []) rfl rfl (xe_rcvO h1) (Nat.le_of_ble_eq_true rfl) (Nat.le_of_ble_eq_true rfl) (by decide) (hM) ?_
  refine xs_op rfl rfl ?_
  refine xs_call rfl (as := [.ref 203]) (rest := []) rfl rfl (xe_rcvO h2) (Nat.le_of_ble_eq_true rfl) (Nat.le_of_ble_eq_true rfl) (by decide) (xr_thrown h2) ?_
  refine xs_op rfl rfl ?_
  refine xs_op rfl (if_pos hK) ?_
  refine xs_op rfl rfl ?_
  exact h _ _
set_option maxRecDepth 20000 in
theorem xl_tick {δ : xe_Dy} {i : Nat} {l5 l6 : Option Value} {μ μ1 μ2 μ' : xe_Mem} {o : xe_Out} {K : Int32} (hi : i + 6 ≤ xd_n δ) (hn : xd_n δ ≤ 3072) (h0 : (xe_sh μ)[0]? = some (.inl 10)) (h1 : (xe_sh μ1)[203]? = some (.inl 11)) (hC : xs_M δ 999 103 [.ref 0, .int (xd_x δ (i + 1))] μ (.inl (some (.int K))) μ1) (hM : xs_M δ 999 186 [.ref 203, .int (xd_x δ (i + 1))] μ1 (.inl none) μ2) (h2 : (xe_sh μ2)[203]? = some (.inl 11)) (hK : xe_I μ2 203 0 = K) (h : ∀ l5 l6, xs_G δ 1000 0 541 (xl_ls i l5 l6) [] μ2 o μ') : xs_G δ 1000 0 369 (xl_ls i l5 l6) [] μ o μ' := by
  have hb : i < 1000000 := by omega
  refine xs_op rfl rfl ?_
  refine xs_op rfl rfl ?_
  refine xs_op rfl rfl ?_
  refine xs_op rfl rfl ?_
  refine xs_op rfl rfl ?_
  refine xs_sld rfl (xi_1 hb).1 (xi_1 hb).2 (by omega) ?_
  refine xs_call rfl (as := [.ref 0, .int (xd_x δ (i + 1))]) (rest := []) rfl rfl rfl (Nat.le_of_ble_eq_true rfl) (Nat.le_of_ble_eq_true rfl) (by decide) (hC) ?_
  refine xs_op rfl rfl ?_
  refine xs_op rfl rfl ?_
  refine xs_op rfl rfl ?_
  refine xs_op rfl rfl ?_
  refine xs_op rfl rfl ?_
  refine xs_op rfl rfl ?_
  refine xs_sld rfl (xi_1 hb).1 (xi_1 hb).2 (by omega) ?_
  refine xs_call rfl (as := [.ref 203, .int (xd_x δ (i + 1))]) (rest := []) rfl rfl (xe_rcvO h1) (Nat.le_of_ble_eq_true rfl) (Nat.le_of_ble_eq_true rfl) (by decide) (hM) ?_
  refine xs_op rfl rfl ?_
  refine xs_call rfl (as := [.ref 203]) (rest := []) rfl rfl (xe_rcvO h2) (Nat.le_of_ble_eq_true rfl) (Nat.le_of_ble_eq_true rfl) (by decide) (xr_thrown h2) ?_
  refine xs_op rfl rfl ?_
  refine xs_op rfl (if_pos hK) ?_
  refine xs_op rfl rfl ?_
  exact h _ _
set_option maxRecDepth 20000 in
theorem xl_port {δ : xe_Dy} {i : Nat} {l5 l6 : Option Value} {μ μ1 μ2 μ' : xe_Mem} {o : xe_Out} {K b : Int32} (hi : i + 6 ≤ xd_n δ) (hn : xd_n δ ≤ 3072) (h0 : (xe_sh μ)[0]? = some (.inl 10)) (h1 : (xe_sh μ1)[203]? = some (.inl 11)) (hC : xs_M δ 999 120 [.ref 0, .int (xd_x δ (i + 1)), .int (xd_x δ (i + 2)), .ref 264] μ (.inl (some (.int K))) μ1) (hM : xs_M δ 999 194 [.ref 203, .int (xd_x δ (i + 1)), .int (xd_x δ (i + 2))] μ1 (.inl (some (.int b))) μ2) (h2 : (xe_sh μ2)[203]? = some (.inl 11)) (hK : xe_I μ2 203 0 = K) (h3 : (xe_sh μ2)[264]? = some (.inr (1, 1))) (hv : K = 0 → xe_L μ2 264 0 = b.toInt64) (h : ∀ l5 l6, xs_G δ 1000 0 541 (xl_ls i l5 l6) [] μ2 o μ') : xs_G δ 1000 0 391 (xl_ls i l5 l6) [] μ o μ' := by
  have hb : i < 1000000 := by omega
  refine xs_op rfl rfl ?_
  refine xs_op rfl rfl ?_
  refine xs_op rfl rfl ?_
  refine xs_op rfl rfl ?_
  refine xs_op rfl rfl ?_
  refine xs_sld rfl (xi_1 hb).1 (xi_1 hb).2 (by omega) ?_
  refine xs_op rfl rfl ?_
  refine xs_op rfl rfl ?_
  refine xs_op rfl rfl ?_
  refine xs_op rfl rfl ?_
  refine xs_sld rfl (xi_2 hb).1 (xi_2 hb).2 (by omega) ?_
  refine xs_op rfl rfl ?_
  refine xs_call rfl (as := [.ref 0, .int (xd_x δ (i + 1)), .int (xd_x δ (i + 2)), .ref 264]) (rest := []) rfl rfl rfl (Nat.le_of_ble_eq_true rfl) (Nat.le_of_ble_eq_true rfl) (by decide) (hC) ?_
  refine xs_op rfl rfl ?_
  refine xs_op rfl rfl ?_
  refine xs_op rfl rfl ?_
  refine xs_op rfl rfl ?_
  refine xs_op rfl rfl ?_
  refine xs_op rfl rfl ?_
  refine xs_sld rfl (xi_1 hb).1 (xi_1 hb).2 (by omega) ?_
  refine xs_op rfl rfl ?_
  refine xs_op rfl rfl ?_
  refine xs_op rfl rfl ?_
  refine xs_op rfl rfl ?_
  refine xs_sld rfl (xi_2 hb).1 (xi_2 hb).2 (by omega) ?_
  refine xs_call rfl (as := [.ref 203, .int (xd_x δ (i + 1)), .int (xd_x δ (i + 2))]) (rest := []) rfl rfl (xe_rcvO h1) (Nat.le_of_ble_eq_true rfl) (Nat.le_of_ble_eq_true rfl) (by decide) (hM) ?_
  refine xs_op rfl rfl ?_
  refine xs_op rfl rfl ?_
  refine xs_call rfl (as := [.ref 203]) (rest := []) rfl rfl (xe_rcvO h2) (Nat.le_of_ble_eq_true rfl) (Nat.le_of_ble_eq_true rfl) (by decide) (xr_thrown h2) ?_
  refine xs_op rfl rfl ?_
  refine xs_op rfl (if_pos hK) ?_
  refine xs_op rfl rfl ?_
  by_cases hz : K = 0
  · refine xs_op rfl (if_neg (fun hc => hc hz)) ?_
    refine xs_op rfl rfl ?_
    refine xs_op rfl rfl ?_
    refine xs_aL (j := 0) rfl h3 rfl (by decide) (by decide) ?_
    refine xs_op rfl rfl ?_
    refine xs_op rfl rfl ?_
    refine xs_op rfl rfl ?_
    refine xs_op rfl (if_pos ((lg_cmp_eq _ _).mpr (hv hz))) ?_
    refine xs_op rfl rfl ?_
    exact h _ _
  · refine xs_op rfl (if_pos hz) ?_
    refine xs_op rfl rfl ?_
    exact h _ _
set_option maxRecDepth 20000 in
theorem xl_denoted {δ : xe_Dy} {i : Nat} {l5 l6 : Option Value} {μ μ1 μ2 μ' : xe_Mem} {o : xe_Out} {K b : Int32} (hi : i + 6 ≤ xd_n δ) (hn : xd_n δ ≤ 3072) (h0 : (xe_sh μ)[0]? = some (.inl 10)) (h1 : (xe_sh μ1)[203]? = some (.inl 11)) (hC : xs_M δ 999 122 [.ref 0, .int (xd_x δ (i + 1)), .ref 264] μ (.inl (some (.int K))) μ1) (hM : xs_M δ 999 195 [.ref 203, .int (xd_x δ (i + 1))] μ1 (.inl (some (.int b))) μ2) (h2 : (xe_sh μ2)[203]? = some (.inl 11)) (hK : xe_I μ2 203 0 = K) (h3 : (xe_sh μ2)[264]? = some (.inr (1, 1))) (hv : K = 0 → xe_L μ2 264 0 = b.toInt64) (h : ∀ l5 l6, xs_G δ 1000 0 541 (xl_ls i l5 l6) [] μ2 o μ') : xs_G δ 1000 0 436 (xl_ls i l5 l6) [] μ o μ' := by
  have hb : i < 1000000 := by omega
  refine xs_op rfl rfl ?_
  refine xs_op rfl rfl ?_
  refine xs_op rfl rfl ?_
  refine xs_op rfl rfl ?_
  refine xs_op rfl rfl ?_
  refine xs_sld rfl (xi_1 hb).1 (xi_1 hb).2 (by omega) ?_
  refine xs_op rfl rfl ?_
  refine xs_call rfl (as := [.ref 0, .int (xd_x δ (i + 1)), .ref 264]) (rest := []) rfl rfl rfl (Nat.le_of_ble_eq_true rfl) (Nat.le_of_ble_eq_true rfl) (by decide) (hC) ?_
  refine xs_op rfl rfl ?_
  refine xs_op rfl rfl ?_
  refine xs_op rfl rfl ?_
  refine xs_op rfl rfl ?_
  refine xs_op rfl rfl ?_
  refine xs_op rfl rfl ?_
  refine xs_sld rfl (xi_1 hb).1 (xi_1 hb).2 (by omega) ?_
  refine xs_call rfl (as := [.ref 203, .int (xd_x δ (i + 1))]) (rest := []) rfl rfl (xe_rcvO h1) (Nat.le_of_ble_eq_true rfl) (Nat.le_of_ble_eq_true rfl) (by decide) (hM) ?_
  refine xs_op rfl rfl ?_
  refine xs_op rfl rfl ?_
  refine xs_call rfl (as := [.ref 203]) (rest := []) rfl rfl (xe_rcvO h2) (Nat.le_of_ble_eq_true rfl) (Nat.le_of_ble_eq_true rfl) (by decide) (xr_thrown h2) ?_
  refine xs_op rfl rfl ?_
  refine xs_op rfl (if_pos hK) ?_
  refine xs_op rfl rfl ?_
  by_cases hz : K = 0
  · refine xs_op rfl (if_neg (fun hc => hc hz)) ?_
    refine xs_op rfl rfl ?_
    refine xs_op rfl rfl ?_
    refine xs_aL (j := 0) rfl h3 rfl (by decide) (by decide) ?_
    refine xs_op rfl rfl ?_
    refine xs_op rfl rfl ?_
    refine xs_op rfl rfl ?_
    refine xs_op rfl (if_pos ((lg_cmp_eq _ _).mpr (hv hz))) ?_
    refine xs_op rfl rfl ?_
    exact h _ _
  · refine xs_op rfl (if_pos hz) ?_
    refine xs_op rfl rfl ?_
    exact h _ _
set_option maxRecDepth 20000 in
theorem xl_state {δ : xe_Dy} {i : Nat} {l5 l6 : Option Value} {μ μ1 μ2 μ' : xe_Mem} {o : xe_Out} {K b : Int32} (hi : i + 6 ≤ xd_n δ) (hn : xd_n δ ≤ 3072) (h0 : (xe_sh μ)[0]? = some (.inl 10)) (h1 : (xe_sh μ1)[203]? = some (.inl 11)) (hC : xs_M δ 999 124 [.ref 0, .int (xd_x δ (i + 1)), .ref 264] μ (.inl (some (.int K))) μ1) (hM : xs_M δ 999 196 [.ref 203, .int (xd_x δ (i + 1))] μ1 (.inl (some (.int b))) μ2) (h2 : (xe_sh μ2)[203]? = some (.inl 11)) (hK : xe_I μ2 203 0 = K) (h3 : (xe_sh μ2)[264]? = some (.inr (1, 1))) (hv : K = 0 → xe_L μ2 264 0 = b.toInt64) (h : ∀ l5 l6, xs_G δ 1000 0 541 (xl_ls i l5 l6) [] μ2 o μ') : xs_G δ 1000 0 471 (xl_ls i l5 l6) [] μ o μ' := by
  have hb : i < 1000000 := by omega
  refine xs_op rfl rfl ?_
  refine xs_op rfl rfl ?_
  refine xs_op rfl rfl ?_
  refine xs_op rfl rfl ?_
  refine xs_op rfl rfl ?_
  refine xs_sld rfl (xi_1 hb).1 (xi_1 hb).2 (by omega) ?_
  refine xs_op rfl rfl ?_
  refine xs_call rfl (as := [.ref 0, .int (xd_x δ (i + 1)), .ref 264]) (rest := []) rfl rfl rfl (Nat.le_of_ble_eq_true rfl) (Nat.le_of_ble_eq_true rfl) (by decide) (hC) ?_
  refine xs_op rfl rfl ?_
  refine xs_op rfl rfl ?_
  refine xs_op rfl rfl ?_
  refine xs_op rfl rfl ?_
  refine xs_op rfl rfl ?_
  refine xs_op rfl rfl ?_
  refine xs_sld rfl (xi_1 hb).1 (xi_1 hb).2 (by omega) ?_
  refine xs_call rfl (as := [.ref 203, .int (xd_x δ (i + 1))]) (rest := []) rfl rfl (xe_rcvO h1) (Nat.le_of_ble_eq_true rfl) (Nat.le_of_ble_eq_true rfl) (by decide) (hM) ?_
  refine xs_op rfl rfl ?_
  refine xs_op rfl rfl ?_
  refine xs_call rfl (as := [.ref 203]) (rest := []) rfl rfl (xe_rcvO h2) (Nat.le_of_ble_eq_true rfl) (Nat.le_of_ble_eq_true rfl) (by decide) (xr_thrown h2) ?_
  refine xs_op rfl rfl ?_
  refine xs_op rfl (if_pos hK) ?_
  refine xs_op rfl rfl ?_
  by_cases hz : K = 0
  · refine xs_op rfl (if_neg (fun hc => hc hz)) ?_
    refine xs_op rfl rfl ?_
    refine xs_op rfl rfl ?_
    refine xs_aL (j := 0) rfl h3 rfl (by decide) (by decide) ?_
    refine xs_op rfl rfl ?_
    refine xs_op rfl rfl ?_
    refine xs_op rfl rfl ?_
    refine xs_op rfl (if_pos ((lg_cmp_eq _ _).mpr (hv hz))) ?_
    refine xs_op rfl rfl ?_
    exact h _ _
  · refine xs_op rfl (if_pos hz) ?_
    refine xs_op rfl rfl ?_
    exact h _ _
set_option maxRecDepth 20000 in
theorem xl_running {δ : xe_Dy} {i : Nat} {l5 l6 : Option Value} {μ μ1 μ2 μ' : xe_Mem} {o : xe_Out} {K b : Int32} (hi : i + 6 ≤ xd_n δ) (hn : xd_n δ ≤ 3072) (h0 : (xe_sh μ)[0]? = some (.inl 10)) (h1 : (xe_sh μ1)[203]? = some (.inl 11)) (hC : xs_M δ 999 126 [.ref 0, .int (xd_x δ (i + 1)), .ref 264] μ (.inl (some (.int K))) μ1) (hM : xs_M δ 999 197 [.ref 203, .int (xd_x δ (i + 1))] μ1 (.inl (some (.int b))) μ2) (h2 : (xe_sh μ2)[203]? = some (.inl 11)) (hK : xe_I μ2 203 0 = K) (h3 : (xe_sh μ2)[264]? = some (.inr (1, 1))) (hv : K = 0 → xe_L μ2 264 0 = b.toInt64) (h : ∀ l5 l6, xs_G δ 1000 0 541 (xl_ls i l5 l6) [] μ2 o μ') : xs_G δ 1000 0 506 (xl_ls i l5 l6) [] μ o μ' := by
  have hb : i < 1000000 := by omega
  refine xs_op rfl rfl ?_
  refine xs_op rfl rfl ?_
  refine xs_op rfl rfl ?_
  refine xs_op rfl rfl ?_
  refine xs_op rfl rfl ?_
  refine xs_sld rfl (xi_1 hb).1 (xi_1 hb).2 (by omega) ?_
  refine xs_op rfl rfl ?_
  refine xs_call rfl (as := [.ref 0, .int (xd_x δ (i + 1)), .ref 264]) (rest := []) rfl rfl rfl (Nat.le_of_ble_eq_true rfl) (Nat.le_of_ble_eq_true rfl) (by decide) (hC) ?_
  refine xs_op rfl rfl ?_
  refine xs_op rfl rfl ?_
  refine xs_op rfl rfl ?_
  refine xs_op rfl rfl ?_
  refine xs_op rfl rfl ?_
  refine xs_op rfl rfl ?_
  refine xs_sld rfl (xi_1 hb).1 (xi_1 hb).2 (by omega) ?_
  refine xs_call rfl (as := [.ref 203, .int (xd_x δ (i + 1))]) (rest := []) rfl rfl (xe_rcvO h1) (Nat.le_of_ble_eq_true rfl) (Nat.le_of_ble_eq_true rfl) (by decide) (hM) ?_
  refine xs_op rfl rfl ?_
  refine xs_op rfl rfl ?_
  refine xs_call rfl (as := [.ref 203]) (rest := []) rfl rfl (xe_rcvO h2) (Nat.le_of_ble_eq_true rfl) (Nat.le_of_ble_eq_true rfl) (by decide) (xr_thrown h2) ?_
  refine xs_op rfl rfl ?_
  refine xs_op rfl (if_pos hK) ?_
  refine xs_op rfl rfl ?_
  by_cases hz : K = 0
  · refine xs_op rfl (if_neg (fun hc => hc hz)) ?_
    refine xs_op rfl rfl ?_
    refine xs_op rfl rfl ?_
    refine xs_aL (j := 0) rfl h3 rfl (by decide) (by decide) ?_
    refine xs_op rfl rfl ?_
    refine xs_op rfl rfl ?_
    refine xs_op rfl rfl ?_
    refine xs_op rfl (if_pos ((lg_cmp_eq _ _).mpr (hv hz))) ?_
    refine xs_op rfl rfl ?_
    exact h _ _
  · refine xs_op rfl (if_pos hz) ?_
    refine xs_op rfl rfl ?_
    exact h _ _
