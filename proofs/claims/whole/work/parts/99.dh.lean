/-! compile, walked -/
section
variable {δ : xe_Dy} {c : Nat} {σ σ1 m2 m3 m4 : xe_Mem} {v : Int32} {a : Nat}
theorem xF_X (hF : xF c σ) (h : zX zPc σ a σ1) : xF (c + 1) σ1 := by
  obtain ⟨⟨ci, hs⟩, -, hl, hR, -⟩ := h
  obtain ⟨⟨g, hg⟩, -, h3, h4⟩ := hF
  refine ⟨⟨g ++ [.inl ci], by rw [hs, hg, List.append_assoc]⟩, hR, ?_, by rw [hl]; omega⟩
  rw [hs, List.length_append]
  show (xe_sh σ).length + 1 ≤ _
  omega
theorem zeR_X (h : zX zPc σ a σ1) : zeR σ σ1 := fun b h1 h2 j => by
  obtain ⟨w1, w2, w3⟩ := h.2.2.2.2 b (by omega) (zPc_t h1) j
  exact ⟨fun _ => w1, w2, w3⟩
theorem zeR_I {b j : Nat} {x : Int32} (hb : b < 203) : zeR σ (xe_setI σ b j x) := fun a h1 h2 i => ⟨fun _ => xu_In (by omega), rfl, rfl⟩
set_option maxRecDepth 20000 in
theorem z15w (hF : xF c σ) (hc : c ≤ 511) (t1 : zD16 (xe_I (xe_setI σ 194 1 0) 0 3) (xe_setI σ 194 1 0) = some (.inl none, m2)) (hci : ∀ a m4, zD33 (xe_setI m2 0 3 0) = some (.inr a, m4) → xe_ci m4 a = some 12) (h : zD15 σ = zint v σ1) : xs_M δ 999 15 [.ref 0] σ (.inl (some (.int v))) σ1 ∧ xF (c + 1) σ1 ∧ zeR σ σ1 := by
  have hF1 : xF c (xe_setI σ 194 1 0) := hF
  obtain ⟨g16, q16⟩ := zD16_ok (δ := δ) (d := 998) (by decide) (xe_I (xe_setI σ 194 1 0) 0 3) (xe_setI σ 194 1 0) (zT_F hF1) _ _ t1
  have t16 : zT zPc (xe_setI σ 194 1 0) m2 := q16
  have hF2 := xF_T hF1 t16
  have hF3 : xF c (xe_setI m2 0 3 0) := hF2
  have hz3 : zeR σ (xe_setI m2 0 3 0) := zeR_t (zeR_I (by decide)) (zeR_t (zeR_T t16) (zeR_I (by decide)))
  unfold zD15 at h
  rw [t1, zcV_ok] at h
  -- up to the reading
  have hwalk : ∀ (o : xe_Out) (μ' : xe_Mem), xs_G δ 999 15 16 [some (.ref 0), none] [.ref 181] (xe_setI m2 0 3 0) o μ' → xs_M δ 999 15 [.ref 0] σ o μ' := fun o μ' hw => by
    refine xs_op (y := 15) rfl rfl ?_
    refine xs_gR rfl (xF_sh hF rfl) (xF_r hF rfl) ?_
    refine xs_op rfl rfl ?_
    refine xs_pZ rfl (xF_sh hF rfl) (Or.inl rfl) ?_
    refine xs_op rfl rfl ?_
    refine xs_gR rfl (xF_sh hF1 rfl) (xF_r hF1 rfl) ?_
    refine xs_op rfl rfl ?_
    refine xs_gR rfl (xF_sh hF1 rfl) (xF_r hF1 rfl) ?_
    refine xs_op rfl rfl ?_
    refine xs_gI rfl (xF_sh hF1 rfl) ?_
    refine xs_c0 rfl (as := [.ref 3, .ref 2, .int (xe_I (xe_setI σ 194 1 0) 0 3)]) (rest := []) rfl rfl (xe_rcvO (xF_sh hF1 rfl)) (Nat.le_of_ble_eq_true rfl) (Nat.le_of_ble_eq_true rfl) (by decide) g16 ?_
    refine xs_op rfl rfl ?_
    refine xs_op rfl rfl ?_
    refine xs_pI rfl (xF_sh hF2 rfl) ?_
    refine xs_op rfl rfl ?_
    refine xs_gR rfl (xF_sh hF3 rfl) (xF_r hF3 rfl) ?_
    exact hw
  match hr : zD33 (xe_setI m2 0 3 0) with
  | none => rw [hr] at h; cases h
  | some (.inl none, m4) =>
    rw [hr] at h
    obtain ⟨g33, q33⟩ := zD33_ok (δ := δ) (d := 998) (by decide) (xe_setI m2 0 3 0) (zT_F hF3) _ _ hr
    have t33 : zT zPc (xe_setI m2 0 3 0) m4 := q33
    have hF4 := xF_T hF3 t33
    change zq_cV (zD68 m4) (fun m5 => zint 0 m5) = zint v σ1 at h
    match hr2 : zD68 m4 with
    | none => rw [hr2] at h; cases h
    | some (.inr a, m5) => rw [hr2] at h; cases h
    | some (.inl (some w), m5) => rw [hr2] at h; cases h
    | some (.inl none, m5) =>
      rw [hr2, zcV_ok] at h
      obtain ⟨rfl, rfl⟩ := zint_inj h
      obtain ⟨g68, q68⟩ := zD68_ok (δ := δ) (d := 998) (by decide) m4 (zT_F hF4) _ _ hr2
      have t68 : zT zPc m4 m5 := q68
      have hF5 := xF_T hF4 t68
      refine ⟨hwalk _ _ ?_, xF_1 hF5, zeR_t hz3 (zeR_t (zeR_T t33) (zeR_T t68))⟩
      refine xs_c0 rfl (as := [.ref 181]) (rest := []) rfl rfl (xe_rcvO (xF_sh hF3 rfl)) (Nat.le_of_ble_eq_true rfl) (Nat.le_of_ble_eq_true rfl) (by decide) g33 ?_
      refine xs_op rfl rfl ?_
      refine xs_op rfl rfl ?_
      refine xs_gR rfl (xF_sh hF4 rfl) (xF_r hF4 rfl) ?_
      refine xs_c0 rfl (as := [.ref 7]) (rest := []) rfl rfl (xe_rcvO (xF_sh hF4 rfl)) (Nat.le_of_ble_eq_true rfl) (Nat.le_of_ble_eq_true rfl) (by decide) g68 ?_
      refine xs_op rfl rfl ?_
      exact xs_ret1 rfl
  | some (.inl (some w), m4) => rw [hr] at h; cases h
  | some (.inr a, m4) =>
    rw [hr] at h
    obtain ⟨g33, q33⟩ := zD33_ok (δ := δ) (d := 998) (by decide) (xe_setI m2 0 3 0) (zT_F hF3) _ _ hr
    have t33 : zX zPc (xe_setI m2 0 3 0) a m4 := q33
    have hF4 := xF_X hF3 t33
    change zq_cV (zD34 m4) (fun m5 => zq_cI (zD67 m5) fun x m6 => zint (1 + x) m6) = zint v σ1 at h
    match hr2 : zD34 m4 with
    | none => rw [hr2] at h; cases h
    | some (.inr a, m5) => rw [hr2] at h; cases h
    | some (.inl (some w), m5) => rw [hr2] at h; cases h
    | some (.inl none, m5) =>
      rw [hr2, zcV_ok] at h
      obtain ⟨g34, q34⟩ := zD34_ok (δ := δ) (d := 998) (by decide) m4 (zT_F hF4) _ _ hr2
      have t34 : zT zPc m4 m5 := q34
      have hF5 := xF_T hF4 t34
      have h67 : ∃ j, zD67 m5 = zint (xe_I m5 5 j) m5 := by
        unfold zD67 zq_x at h ⊢
        by_cases w : (xe_I m5 181 6) < 0 ∨ 3001 ≤ (xe_I m5 181 6).toNatClampNeg
        · rw [if_pos w] at h
          cases h
        · exact ⟨_, if_neg w⟩
      obtain ⟨j, h67⟩ := h67
      rw [h67, zcI_ok] at h
      obtain ⟨rfl, rfl⟩ := zint_inj h
      obtain ⟨g67, -⟩ := zD67_ok (δ := δ) (d := 998) (by decide) m5 (zT_F hF5) _ _ h67
      refine ⟨hwalk _ _ ?_, hF5, zeR_t hz3 (zeR_t (zeR_X t33) (zeR_T t34))⟩
      refine xs_callC rfl (as := [.ref 181]) (rest := []) rfl rfl (xe_rcvO (xF_sh hF3 rfl)) (Nat.le_of_ble_eq_true rfl) (Nat.le_of_ble_eq_true rfl) (by decide) g33 (hci a m4 hr) (kh := 18) (by decide) ?_
      refine xs_op rfl rfl ?_
      refine xs_op rfl rfl ?_
      refine xs_gR rfl (xF_sh hF4 rfl) (xF_r hF4 rfl) ?_
      refine xs_c0 rfl (as := [.ref 7]) (rest := []) rfl rfl (xe_rcvO (xF_sh hF4 rfl)) (Nat.le_of_ble_eq_true rfl) (Nat.le_of_ble_eq_true rfl) (by decide) g34 ?_
      refine xs_op rfl rfl ?_
      refine xs_op rfl rfl ?_
      refine xs_gR rfl (xF_sh hF5 rfl) (xF_r hF5 rfl) ?_
      refine xs_cv rfl (as := [.ref 181]) (rest := [.int 1]) rfl rfl (xe_rcvO (xF_sh hF5 rfl)) (Nat.le_of_ble_eq_true rfl) (Nat.le_of_ble_eq_true rfl) (by decide) g67 ?_
      refine xs_op rfl rfl ?_
      exact xs_ret1 rfl
/-- compile in both -/
theorem z_compile (hF : xF c σ) (hc : c ≤ 511) (hJ : zJJ σ σ) : ∃ v σ1 σ2, xs_M δ 999 15 [.ref 0] σ (.inl (some (.int v))) σ1 ∧ xs_M δ 999 133 [.ref 203] σ1 (.inl (some (.int v))) σ2 ∧ zJJ σ2 σ2 ∧ xF (c + 1) σ1 ∧ xF (c + 1) σ2 := by
  have hF1 : xF c (xe_setI σ 194 1 0) := hF
  have h16 : ∀ m2, zD16 (xe_I (xe_setI σ 194 1 0) 0 3) (xe_setI σ 194 1 0) = some (.inl none, m2) → zRt m2 ∧ xe_sh m2 = xe_sh σ ∧ xe_sl m2 = xe_sl σ := fun m2 w => by
    obtain ⟨-, q16⟩ := zD16_ok (δ := δ) (d := 998) (by decide) (xe_I (xe_setI σ 194 1 0) 0 3) (xe_setI σ 194 1 0) (zT_F hF1) _ _ w
    have t16 : zT zPc (xe_setI σ 194 1 0) m2 := q16
    exact ⟨t16.2.2.2.1, t16.1, t16.2.1⟩
  obtain ⟨⟨m2, t1, hci⟩, v, σ1, ν', e1, -, -⟩ := z_ccompile hJ (xF_len hF (by omega)) (xF_sl hF (by omega)) h16
  obtain ⟨g1, hFσ1, hz⟩ := z15w (δ := δ) hF hc t1 hci e1
  obtain ⟨-, v', σ1', σ2, e1', e2', e3'⟩ := z_ccompile (zJ_e hJ (zJ_rt hJ) hz) (xF_len hF (by omega)) (xF_sl hF (by omega)) h16
  obtain ⟨rfl, rfl⟩ := zint_inj (e1.symm.trans e1')
  obtain ⟨g2, q2⟩ := zD133_ok (δ := δ) (d := 999) (by decide) σ1 (zT_F hFσ1) _ _ e2'
  have t2 : zT zPr σ1 σ2 := q2
  exact ⟨v, σ1, σ2, g1, g2, zJ_e (e3' hFσ1.2.1 hFσ1.1) (zeC_T t2) zeR_r, hFσ1, xF_T hFσ1 t2⟩
end
