/-! the law's beginning, its loop, its end -/
section
variable {δ : xe_Dy} {d y k : Nat} {ls : xe_Ls} {r : List Value} {μ μ' : xe_Mem} {o : xe_Out}
theorem xs_tswI {lo : Int} {bs : List Nat} {dflt j b : Nat} {x : Int32} (hi : (xM_C δ y)[k]? = some (.inl (xe_tsw lo bs dflt))) (hx : x.toInt = lo + (j : Int)) (hb : bs[j]? = some b) (h : xs_G δ d y b ls r μ o μ') : xs_G δ d y k ls (.int x :: r) μ o μ' := by
  refine xs_op hi ?_ h
  have hj : j < bs.length := (List.getElem?_eq_some_iff.mp hb).1
  show some ((if x.toInt < lo ∨ lo + bs.length ≤ x.toInt then dflt else bs.getD (x.toInt - lo).toNat 0), ls, r, μ) = _
  rw [if_neg (by omega), show (x.toInt - lo).toNat = j by omega, List.getD_eq_getElem?_getD, hb]
  rfl
theorem xs_tswD {lo : Int} {bs : List Nat} {dflt : Nat} {x : Int32} (hi : (xM_C δ y)[k]? = some (.inl (xe_tsw lo bs dflt))) (hx : x.toInt < lo ∨ lo + bs.length ≤ x.toInt) (h : xs_G δ d y dflt ls r μ o μ') : xs_G δ d y k ls (.int x :: r) μ o μ' := by
  refine xs_op hi ?_ h
  show some ((if x.toInt < lo ∨ lo + bs.length ≤ x.toInt then dflt else bs.getD (x.toInt - lo).toNat 0), ls, r, μ) = _
  rw [if_pos hx]
theorem xs_sln {a : Nat} (hi : (xM_C δ y)[k]? = some (.inl (xe_sln δ))) (h : xs_G δ d y (k + 1) ls (.int (nI (xd_n δ)) :: r) μ o μ') : xs_G δ d y k ls (.ref 1000000 :: r) μ o μ' := by
  refine xs_op hi ?_ h
  unfold xe_sln
  dsimp only
  rw [if_pos rfl]
  rfl
theorem xs_nwa {t N : Nat} {n : Int32} (hi : (xM_C δ y)[k]? = some (.inl (xe_nwa t))) (hN : n.toNatClampNeg = N) (h0 : ¬ n < 0) (h1 : (xe_sh μ).length < xg_CT) (h2 : xe_sl μ + N ≤ xg_ST) (h3 : N ≤ 60000000) (h : xs_G δ d y (k + 1) ls (.ref (xe_sh μ).length :: r) (xe_add μ (.inr (t, N)) N) o μ') : xs_G δ d y k ls (.int n :: r) μ o μ' := by
  subst hN
  exact xs_op hi (if_pos ⟨h0, h1, h2, h3⟩) h
theorem xs_new {ci N : Nat} (hi : (xM_C δ y)[k]? = some (.inl (xe_new ci N))) (h1 : (xe_sh μ).length < xg_CT) (h2 : xe_sl μ + N ≤ xg_ST) (h : xs_G δ d y (k + 1) ls (.ref (xe_sh μ).length :: r) (xe_add μ (.inl ci) N) o μ') : xs_G δ d y k ls r μ o μ' := xs_op hi (if_pos ⟨h1, h2⟩) h
end
theorem xl_and15 (v : Int32) : ∃ j : Nat, j < 16 ∧ v &&& 15 = nI j := by
  refine ⟨(v &&& 15).toBitVec.toNat, ?_, ?_⟩
  · rw [Int32.toBitVec_and, BitVec.toNat_and]
    exact Nat.lt_of_le_of_lt Nat.and_le_right (by decide)
  · apply Int32.toBitVec_inj.mp
    show _ = BitVec.ofNat 32 _
    simp
section
variable {δ : xe_Dy} {i : Nat} {l5 l6 : Option Value} {μ μ' : xe_Mem} {o : xe_Out}
theorem xl_len {n : Nat} (hn : n ≤ 3072) : (nI n - 6).toInt = (n : Int) - 6 := by
  have h6 : (6 : Int32).toInt = 6 := rfl
  rw [Int32.toInt_sub, nI_toInt (by omega), h6]
  have e : (2 : Int) ^ 32 = 4294967296 := by decide
  simp only [Int.bmod_def]
  omega
set_option maxRecDepth 20000 in
theorem xl_exit (hi : xd_n δ < i + 6) (hb : i ≤ 4000) (hn : xd_n δ ≤ 3072) : xs_G δ 1000 0 13 (xl_ls i l5 l6) [] μ (.inl (some (.int 1))) μ := by
  have hx : nI (xd_n δ) - 6 < nI i := by
    rw [Int32.lt_iff_toInt_lt, xl_len hn, nI_toInt (by omega)]
    omega
  refine xs_op (y := 0) rfl rfl ?_
  refine xs_op rfl rfl ?_
  refine xs_sln (a := 0) rfl ?_
  refine xs_op rfl rfl ?_
  refine xs_op rfl rfl ?_
  refine xs_icgtT rfl hx ?_
  refine xs_op rfl rfl ?_
  exact xs_ret3 rfl (Or.inr rfl)
set_option maxRecDepth 20000 in
theorem xl_disp {j b : Nat} (hi : i + 6 ≤ xd_n δ) (hn : xd_n δ ≤ 3072) (hj : j < 16) (hx : xd_x δ i &&& 15 = nI j) (hb : [25, 82, 99, 106, 123, 168, 203, 238, 283, 305, 337, 369, 391, 436, 471, 506][j]? = some b) (h : xs_G δ 1000 0 b (xl_ls i l5 l6) [] μ o μ') : xs_G δ 1000 0 13 (xl_ls i l5 l6) [] μ o μ' := by
  have hi0 : i < 1000000 := by omega
  have hg : ¬ nI (xd_n δ) - 6 < nI i := by
    rw [Int32.lt_iff_toInt_lt, xl_len hn, nI_toInt (by omega)]
    omega
  refine xs_op (y := 0) rfl rfl ?_
  refine xs_op rfl rfl ?_
  refine xs_sln (a := 0) rfl ?_
  refine xs_op rfl rfl ?_
  refine xs_op rfl rfl ?_
  refine xs_icgtF rfl hg ?_
  refine xs_op rfl rfl ?_
  refine xs_op rfl rfl ?_
  refine xs_sld rfl (xi_0 hi0).1 (xi_0 hi0).2 (by omega) ?_
  refine xs_op rfl rfl ?_
  refine xs_op rfl rfl ?_
  refine xs_tswI (j := j) rfl ?_ hb h
  show (xd_x δ i &&& 15).toInt = _
  rw [hx, nI_toInt (by omega)]
  omega
set_option maxRecDepth 20000 in
theorem xl_next (h : xs_G δ 1000 0 13 (xl_ls (i + 6) l5 l6) [] μ o μ') : xs_G δ 1000 0 541 (xl_ls i l5 l6) [] μ o μ' := by
  refine xs_op (y := 0) rfl rfl ?_
  refine xs_op rfl rfl ?_
  have e : nI (i + 6) = nI i + 6 := (nI_add i 6).symm
  have h9 : xs_G δ 1000 0 13 [some (.ref 1000000), some (.ref 0), some (.ref 203), some (.ref 264), some (.int (nI i + 6)), l5, l6] [] μ o μ' := by
    rw [← e]
    exact h
  exact h9
theorem xv_Al : (xe_sh xv_A).length = 203 ∧ xe_sl xv_A ≤ 100000 := by decide +kernel
theorem xv_Bl : (xe_sh xv_B).length = 264 ∧ xe_sl xv_B ≤ 100000 ∧ (xe_sh (xe_add xv_A (.inl 11) 87))[203]? = some (.inl 11) := by decide +kernel
theorem xv_m1 : xs_M δ 999 1 [.ref 0] (xe_add xe_m00 (.inl 10) 8) (.inl none) xv_A := ⟨20000, xs_mono (xv_sub δ) _ _ _ _ _ _ _ _ xv_e1 _ _ (Nat.le_refl _) (by decide)⟩
theorem xv_m2 : xs_M δ 999 128 [.ref 203] (xe_add xv_A (.inl 11) 87) (.inl none) xv_B := ⟨20000, xs_mono (xv_sub δ) _ _ _ _ _ _ _ _ xv_e2 _ _ (Nat.le_refl _) (by decide)⟩
set_option maxRecDepth 20000 in
theorem xl_begin (h : xs_G δ 1000 0 13 (xl_ls 0 none none) [] xv_0 o μ') : xs_G δ 1000 0 0 (xe_init [.ref 1000000] 7) [] xe_m00 o μ' := by
  have hCT : xg_CT = 600000 := rfl
  have hST : xg_ST = 7290000 := rfl
  refine xs_new (y := 0) rfl (by decide) (by decide) ?_
  refine xs_op rfl rfl ?_
  refine xs_c0 rfl (as := [.ref 0]) (rest := [.ref 0]) rfl rfl (xe_rcvO rfl) (Nat.le_of_ble_eq_true rfl) (Nat.le_of_ble_eq_true rfl) (by decide) xv_m1 ?_
  refine xs_op rfl rfl ?_
  refine xs_new rfl (by rw [xv_Al.1]; decide) (by have := xv_Al.2; omega) ?_
  rw [xv_Al.1]
  refine xs_op rfl rfl ?_
  refine xs_c0 rfl (as := [.ref 203]) (rest := [.ref 203]) rfl rfl (xe_rcvO xv_Bl.2.2) (Nat.le_of_ble_eq_true rfl) (Nat.le_of_ble_eq_true rfl) (by decide) xv_m2 ?_
  refine xs_op rfl rfl ?_
  refine xs_op rfl rfl ?_
  refine xs_nwa (N := 1) rfl rfl (by decide) (by rw [xv_Bl.1]; decide) (by have := xv_Bl.2.1; omega) (by decide) ?_
  rw [xv_Bl.1]
  refine xs_op rfl rfl ?_
  refine xs_op rfl rfl ?_
  refine xs_op rfl rfl ?_
  exact h
end
