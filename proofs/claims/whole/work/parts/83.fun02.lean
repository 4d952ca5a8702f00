/-! methods as functions (by wip/whole/gen/dec.py) -/
/-! 59 LogicalTimes$Reader.takeInE()V -/
def zD59   (μ : xe_Mem) : zO := if (xe_I μ 181 8) = 60 then zq_thr 12 μ else zq_m (xe_setI μ 181 8 ((xe_I μ 181 8) + 1)) fun m1 => zq_m (xe_setI m1 181 6 ((xe_I m1 181 6) + 1)) fun m3 => some (.inl none, m3)
theorem zD59_ok {μ0 : xe_Mem} {δ : xe_Dy} {d : Nat} (hd : 0 ≤ d) (μ : xe_Mem) (hT : zT zPc μ0 μ) : zK zPc μ0 δ d 59 0 (xe_init [.ref 181] (xM_L 59)) [] μ (zD59 μ) := by
  unfold zD59
  show zK zPc μ0 δ d 59 0 [some (.ref 181)] [] μ _
  refine zK_op rfl rfl ?_
  refine zK_gI rfl rfl hT ?_
  refine zK_op rfl rfl ?_
  refine zK_icne rfl (fun _ => ?_) (fun _ => ?_)
  · exact zK_thr (c := 12) rfl (by decide) (fun _ => rfl) hT
  refine zK_op rfl rfl ?_
  refine zK_op rfl rfl ?_
  refine zK_gI rfl rfl hT ?_
  refine zK_op rfl rfl ?_
  refine zK_op rfl rfl ?_
  refine zK_pI rfl rfl hT rfl (fun m1 T2 => ?_)
  refine zK_op rfl rfl ?_
  refine zK_op rfl rfl ?_
  refine zK_gI rfl rfl T2 ?_
  refine zK_op rfl rfl ?_
  refine zK_op rfl rfl ?_
  refine zK_pI rfl rfl T2 rfl (fun m3 T4 => ?_)
  exact zK_ret0 rfl T4
/-! 56 LogicalTimes$Reader.readLevel(II)V -/
def zD56_57 (f56 : Int32 → Int32 → xe_Mem → zO) (f57 : Int32 → xe_Mem → zO) (μ : xe_Mem) : zO := some (.inl none, μ)
def zD56_21_b (f56 : Int32 → Int32 → xe_Mem → zO) (f57 : Int32 → xe_Mem → zO) (c21 : Int32 → Int32 → Int32 → Int32 → xe_Mem → zO) (v1 : Int32) (v2 : Int32) (v3 : Int32) (v4 : Int32) (μ : xe_Mem) : zO := if v3 ≤ v4 then zD56_57 f56 f57 μ else zq_x (xe_I μ 181 6) 3001 fun j3 => zq_s (xe_R μ 4 j3) fun b7 => zq_k b7 <| if (List.getD xg_kl (b7 - 1000001) 0) = v1 then zq_x (xe_I μ 181 6) 3001 fun j9 => zq_s (xe_R μ 4 j9) fun b13 => zq_k b13 <| zq_vI (List.getD xg_ka (b13 - 1000001) 0) fun x15 => zq_cV (zD59 μ) fun m16 => zq_cV (f56 (v1 + 1) v2 m16) fun m18 => zq_cI (zD58 x15 0 m18) fun x22 m20 => c21 v1 v2 v3 (v4 + (1)) m20 else zD56_57 f56 f57 μ
def zD56_21 (f56 : Int32 → Int32 → xe_Mem → zO) (f57 : Int32 → xe_Mem → zO)  : Nat → Int32 → Int32 → Int32 → Int32 → xe_Mem → zO
  | 0 => fun _ _ _ _ _  => none
  | n + 1 => zD56_21_b f56 f57  (zD56_21 f56 f57  n)
def zD56_18 (f56 : Int32 → Int32 → xe_Mem → zO) (f57 : Int32 → xe_Mem → zO) (v1 : Int32) (v2 : Int32) (s0 : Int32) (μ : xe_Mem) : zO := zD56_21 f56 f57 zfu v1 v2 s0 0 μ
def zD56 (f56 : Int32 → Int32 → xe_Mem → zO) (f57 : Int32 → xe_Mem → zO) (a1 : Int32) (a2 : Int32) (μ : xe_Mem) : zO := if a1 ≤ 2 then zq_cV (f56 (a1 + 1) a2 μ) fun m1 => if a1 = 0 then zD56_18 f56 f57 a1 a2 1 m1 else zD56_18 f56 f57 a1 a2 60 m1 else zq_cV (f57 a2 μ) fun m23 => some (.inl none, m23)
theorem zD56_57_ok {μ0 : xe_Mem} {δ : xe_Dy} {d : Nat} {D0 : Nat} (hD0 : 20 ≤ D0) (hd : D0 + 1 ≤ d) {f56 : Int32 → Int32 → xe_Mem → zO} {f57 : Int32 → xe_Mem → zO} (hf56 : ∀ d', D0 ≤ d' → ∀ (a1 : Int32) (a2 : Int32) (μ : xe_Mem), zT zPc μ0 μ → zK zPc μ0 δ d' 56 0 (xe_init [.ref 181, .int a1, .int a2] (xM_L 56)) [] μ (f56 a1 a2 μ)) (hf57 : ∀ d', D0 ≤ d' → ∀ (a1 : Int32) (μ : xe_Mem), zT zPc μ0 μ → zK zPc μ0 δ d' 57 0 (xe_init [.ref 181, .int a1] (xM_L 57)) [] μ (f57 a1 μ))  : ∀ (l0 : Option Value) (l1 : Option Value) (l2 : Option Value) (l3 : Option Value) (l4 : Option Value) (l5 : Option Value) (μ : xe_Mem), zT zPc μ0 μ → zK zPc μ0 δ d 56 57 [l0, l1, l2, l3, l4, l5] [] μ (zD56_57 f56 f57 μ) := by
  intro l0 l1 l2 l3 l4 l5 μ hT
  unfold zD56_57
  exact zK_ret0 rfl hT
theorem zD56_21_bok {μ0 : xe_Mem} {δ : xe_Dy} {d : Nat} {D0 : Nat} (hD0 : 20 ≤ D0) (hd : D0 + 1 ≤ d) {f56 : Int32 → Int32 → xe_Mem → zO} {f57 : Int32 → xe_Mem → zO} (hf56 : ∀ d', D0 ≤ d' → ∀ (a1 : Int32) (a2 : Int32) (μ : xe_Mem), zT zPc μ0 μ → zK zPc μ0 δ d' 56 0 (xe_init [.ref 181, .int a1, .int a2] (xM_L 56)) [] μ (f56 a1 a2 μ)) (hf57 : ∀ d', D0 ≤ d' → ∀ (a1 : Int32) (μ : xe_Mem), zT zPc μ0 μ → zK zPc μ0 δ d' 57 0 (xe_init [.ref 181, .int a1] (xM_L 57)) [] μ (f57 a1 μ))  {c21 : Int32 → Int32 → Int32 → Int32 → xe_Mem → zO} (hc21 : ∀ (v1 : Int32) (v2 : Int32) (v3 : Int32) (v4 : Int32) (l5 : Option Value) (μ : xe_Mem), zT zPc μ0 μ → zK zPc μ0 δ d 56 21 [some (.ref 181), some (.int v1), some (.int v2), some (.int v3), some (.int v4), l5] [] μ (c21 v1 v2 v3 v4 μ)) : ∀ (v1 : Int32) (v2 : Int32) (v3 : Int32) (v4 : Int32) (l5 : Option Value) (μ : xe_Mem), zT zPc μ0 μ → zK zPc μ0 δ d 56 21 [some (.ref 181), some (.int v1), some (.int v2), some (.int v3), some (.int v4), l5] [] μ (zD56_21_b f56 f57 c21 v1 v2 v3 v4 μ) := by
  intro v1 v2 v3 v4 l5 μ hT
  unfold zD56_21_b
  refine zK_op rfl rfl ?_
  refine zK_op rfl rfl ?_
  refine zK_icge rfl (fun _ => ?_) (fun _ => ?_)
  · exact zD56_57_ok hD0 hd hf56 hf57 _ _ _ _ _ _ μ hT
  refine zK_op rfl rfl ?_
  refine zK_gRl (b := 3) rfl rfl rfl hT ?_
  refine zK_gRl (b := 4) rfl rfl rfl hT ?_
  refine zK_op rfl rfl ?_
  refine zK_gI rfl rfl hT ?_
  refine zK_x (fun j3 h4 h5 h6 => ?_)
  refine zK_aR rfl rfl hT h4 h5 h6 (fun b7 => ?_)
  refine zK_k (fun h8 => ?_)
  refine zK_gtE rfl h8 ?_
  refine zK_op rfl rfl ?_
  refine zK_icne rfl (fun _ => ?_) (fun _ => ?_)
  · refine zK_op rfl rfl ?_
    refine zK_gRl (b := 3) rfl rfl rfl hT ?_
    refine zK_gRl (b := 4) rfl rfl rfl hT ?_
    refine zK_op rfl rfl ?_
    refine zK_gI rfl rfl hT ?_
    refine zK_x (fun j9 h10 h11 h12 => ?_)
    refine zK_aR rfl rfl hT h10 h11 h12 (fun b13 => ?_)
    refine zK_k (fun h14 => ?_)
    refine zK_gtE rfl h14 ?_
    refine zK_vI (fun x15 => ?_)
    refine zK_op rfl rfl ?_
    refine zK_op rfl rfl ?_
    refine zK_cV rfl (as := [.ref 181]) (rest := []) rfl rfl (xe_rcvO (zT_sh hT rfl)) (Nat.le_of_ble_eq_true rfl) (Nat.le_of_ble_eq_true rfl) (by decide) (fun _ => rfl) (by omega) (zD59_ok (by omega) μ hT) (fun m16 T17 => ?_)
    refine zK_op rfl rfl ?_
    refine zK_op rfl rfl ?_
    refine zK_op rfl rfl ?_
    refine zK_op rfl rfl ?_
    refine zK_op rfl rfl ?_
    refine zK_cV rfl (as := [.ref 181, .int (v1 + 1), .int v2]) (rest := []) rfl rfl (xe_rcvO (zT_sh T17 rfl)) (Nat.le_of_ble_eq_true rfl) (Nat.le_of_ble_eq_true rfl) (by decide) (fun _ => rfl) (by omega) (hf56 (d - 1) (by omega) (v1 + 1) v2 m16 T17) (fun m18 T19 => ?_)
    refine zK_op rfl rfl ?_
    refine zK_gRl (b := 8) rfl rfl rfl T19 ?_
    refine zK_op rfl rfl ?_
    refine zK_op rfl rfl ?_
    refine zK_cI rfl (as := [.ref 8, .int x15, .int 0]) (rest := []) rfl rfl (xe_rcvO (zT_sh T19 rfl)) (Nat.le_of_ble_eq_true rfl) (Nat.le_of_ble_eq_true rfl) (by decide) (fun _ => rfl) (by omega) (zD58_ok (by omega) x15 0 m18 T19) (fun x22 m20 T21 => ?_)
    refine zK_op rfl rfl ?_
    refine zK_op rfl rfl ?_
    refine zK_op rfl rfl ?_
    exact hc21 v1 v2 v3 (v4 + (1)) _ m20 T21
  exact zD56_57_ok hD0 hd hf56 hf57 _ _ _ _ _ _ μ hT
theorem zD56_21_ok {μ0 : xe_Mem} {δ : xe_Dy} {d : Nat} {D0 : Nat} (hD0 : 20 ≤ D0) (hd : D0 + 1 ≤ d) {f56 : Int32 → Int32 → xe_Mem → zO} {f57 : Int32 → xe_Mem → zO} (hf56 : ∀ d', D0 ≤ d' → ∀ (a1 : Int32) (a2 : Int32) (μ : xe_Mem), zT zPc μ0 μ → zK zPc μ0 δ d' 56 0 (xe_init [.ref 181, .int a1, .int a2] (xM_L 56)) [] μ (f56 a1 a2 μ)) (hf57 : ∀ d', D0 ≤ d' → ∀ (a1 : Int32) (μ : xe_Mem), zT zPc μ0 μ → zK zPc μ0 δ d' 57 0 (xe_init [.ref 181, .int a1] (xM_L 57)) [] μ (f57 a1 μ))  : ∀ n : Nat, ∀ (v1 : Int32) (v2 : Int32) (v3 : Int32) (v4 : Int32) (l5 : Option Value) (μ : xe_Mem), zT zPc μ0 μ → zK zPc μ0 δ d 56 21 [some (.ref 181), some (.int v1), some (.int v2), some (.int v3), some (.int v4), l5] [] μ (zD56_21 f56 f57 n v1 v2 v3 v4 μ) := by
  intro n
  induction n with
  | zero => exact fun _ _ _ _ _ _ _  => fun o μ' h => by cases h
  | succ n ih => exact zD56_21_bok hD0 hd hf56 hf57  ih
theorem zD56_18_ok {μ0 : xe_Mem} {δ : xe_Dy} {d : Nat} {D0 : Nat} (hD0 : 20 ≤ D0) (hd : D0 + 1 ≤ d) {f56 : Int32 → Int32 → xe_Mem → zO} {f57 : Int32 → xe_Mem → zO} (hf56 : ∀ d', D0 ≤ d' → ∀ (a1 : Int32) (a2 : Int32) (μ : xe_Mem), zT zPc μ0 μ → zK zPc μ0 δ d' 56 0 (xe_init [.ref 181, .int a1, .int a2] (xM_L 56)) [] μ (f56 a1 a2 μ)) (hf57 : ∀ d', D0 ≤ d' → ∀ (a1 : Int32) (μ : xe_Mem), zT zPc μ0 μ → zK zPc μ0 δ d' 57 0 (xe_init [.ref 181, .int a1] (xM_L 57)) [] μ (f57 a1 μ))  : ∀ (v1 : Int32) (v2 : Int32) (s0 : Int32) (μ : xe_Mem), zT zPc μ0 μ → zK zPc μ0 δ d 56 18 [some (.ref 181), some (.int v1), some (.int v2), none, none, none] [.int s0] μ (zD56_18 f56 f57 v1 v2 s0 μ) := by
  intro v1 v2 s0 μ hT
  unfold zD56_18
  refine zK_op rfl rfl ?_
  refine zK_op rfl rfl ?_
  refine zK_op rfl rfl ?_
  exact zD56_21_ok hD0 hd hf56 hf57 zfu v1 v2 s0 0 _ μ hT
theorem zD56_ok {μ0 : xe_Mem} {δ : xe_Dy} {d : Nat} {D0 : Nat} (hD0 : 20 ≤ D0) (hd : D0 + 1 ≤ d) {f56 : Int32 → Int32 → xe_Mem → zO} {f57 : Int32 → xe_Mem → zO} (hf56 : ∀ d', D0 ≤ d' → ∀ (a1 : Int32) (a2 : Int32) (μ : xe_Mem), zT zPc μ0 μ → zK zPc μ0 δ d' 56 0 (xe_init [.ref 181, .int a1, .int a2] (xM_L 56)) [] μ (f56 a1 a2 μ)) (hf57 : ∀ d', D0 ≤ d' → ∀ (a1 : Int32) (μ : xe_Mem), zT zPc μ0 μ → zK zPc μ0 δ d' 57 0 (xe_init [.ref 181, .int a1] (xM_L 57)) [] μ (f57 a1 μ)) (a1 : Int32) (a2 : Int32) (μ : xe_Mem) (hT : zT zPc μ0 μ) : zK zPc μ0 δ d 56 0 (xe_init [.ref 181, .int a1, .int a2] (xM_L 56)) [] μ (zD56 f56 f57 a1 a2 μ) := by
  unfold zD56
  show zK zPc μ0 δ d 56 0 [some (.ref 181), some (.int a1), some (.int a2), none, none, none] [] μ _
  refine zK_op rfl rfl ?_
  refine zK_op rfl rfl ?_
  refine zK_icle rfl (fun _ => ?_) (fun _ => ?_)
  · refine zK_op rfl rfl ?_
    refine zK_op rfl rfl ?_
    refine zK_op rfl rfl ?_
    refine zK_op rfl rfl ?_
    refine zK_op rfl rfl ?_
    refine zK_cV rfl (as := [.ref 181, .int (a1 + 1), .int a2]) (rest := []) rfl rfl (xe_rcvO (zT_sh hT rfl)) (Nat.le_of_ble_eq_true rfl) (Nat.le_of_ble_eq_true rfl) (by decide) (fun _ => rfl) (by omega) (hf56 (d - 1) (by omega) (a1 + 1) a2 μ hT) (fun m1 T2 => ?_)
    refine zK_op rfl rfl ?_
    refine zK_ifne rfl (fun _ => ?_) (fun _ => ?_)
    · refine zK_op rfl rfl ?_
      refine zK_op rfl rfl ?_
      exact zD56_18_ok hD0 hd hf56 hf57 a1 a2 1 m1 T2
    refine zK_op rfl rfl ?_
    exact zD56_18_ok hD0 hd hf56 hf57 a1 a2 60 m1 T2
  refine zK_op rfl rfl ?_
  refine zK_op rfl rfl ?_
  refine zK_cV rfl (as := [.ref 181, .int a2]) (rest := []) rfl rfl (xe_rcvO (zT_sh hT rfl)) (Nat.le_of_ble_eq_true rfl) (Nat.le_of_ble_eq_true rfl) (by decide) (fun _ => rfl) (by omega) (hf57 (d - 1) (by omega) a2 μ hT) (fun m23 T24 => ?_)
  exact zK_ret0 rfl T24
/-! 57 LogicalTimes$Reader.readOperand(I)V -/
def zD57_131 (f56 : Int32 → Int32 → xe_Mem → zO) (f57 : Int32 → xe_Mem → zO) (μ : xe_Mem) : zO := zq_cV (zD59 μ) fun m24 => some (.inl none, m24)
def zD57_130 (f56 : Int32 → Int32 → xe_Mem → zO) (f57 : Int32 → xe_Mem → zO) (s0 : Int32) (μ : xe_Mem) : zO := zq_cV (zD37 s0 μ) fun m22 => zD57_131 f56 f57 m22
def zD57_114 (f56 : Int32 → Int32 → xe_Mem → zO) (f57 : Int32 → xe_Mem → zO) (v1 : Int32) (s0 : Int32) (μ : xe_Mem) : zO := zq_cV (zD37 s0 μ) fun m13 => zq_cV (zD59 m13) fun m15 => zq_cV (f56 0 (v1 + 1) m15) fun m17 => zq_cI (zD35 1000018 m17) fun x21 m19 => if x21 = 0 then zD57_130 f56 f57 1 m19 else zD57_130 f56 f57 0 m19
def zD57_111 (f56 : Int32 → Int32 → xe_Mem → zO) (f57 : Int32 → xe_Mem → zO) (v1 : Int32) (μ : xe_Mem) : zO := zD57_114 f56 f57 v1 1 μ
def zD57_89 (f56 : Int32 → Int32 → xe_Mem → zO) (f57 : Int32 → xe_Mem → zO) (v1 : Int32) (s0 : Int32) (μ : xe_Mem) : zO := zq_cV (zD37 s0 μ) fun m26 => zq_cV (zD59 m26) fun m28 => zq_cV (f57 (v1 + 1) m28) fun m30 => zq_cI (zD58 5 0 m30) fun x34 m32 => some (.inl none, m32)
def zD57_76 (f56 : Int32 → Int32 → xe_Mem → zO) (f57 : Int32 → xe_Mem → zO) (s1 : Int32) (s2 : Int32) (μ : xe_Mem) : zO := zq_m (xe_setI μ 181 9 (s1 ||| s2)) fun m63 => zD57_131 f56 f57 m63
def zD57_42 (f56 : Int32 → Int32 → xe_Mem → zO) (f57 : Int32 → xe_Mem → zO) (v2 : Int32) (s0 : Int32) (μ : xe_Mem) : zO := zq_cV (zD37 s0 μ) fun m42 => zq_x v2 22 fun j44 => zq_x v2 22 fun j48 => zq_cI (zD58 (xe_I m42 184 j44) (xe_I m42 185 j48) m42) fun x54 m52 => zq_x v2 22 fun j55 => if (xe_I m52 184 j55) = 2 then zq_x v2 22 fun j59 => zD57_76 f56 f57 (xe_I m52 181 9) (1 <<< ((xe_I m52 185 j59) &&& 31)) m52 else zD57_76 f56 f57 (xe_I m52 181 9) 0 m52
def zD57_39 (f56 : Int32 → Int32 → xe_Mem → zO) (f57 : Int32 → xe_Mem → zO) (v2 : Int32) (μ : xe_Mem) : zO := zD57_42 f56 f57 v2 1 μ
def zD57 (f56 : Int32 → Int32 → xe_Mem → zO) (f57 : Int32 → xe_Mem → zO) (a1 : Int32) (μ : xe_Mem) : zO := zq_cI (zD35 1000027 μ) fun x3 m1 => if x3 = 0 then zq_cI (zD35 1000026 m1) fun x6 m4 => if x6 = 0 then zq_cI (zD35 1000022 m4) fun x9 m7 => if x9 = 0 then zq_cI (zD35 1000017 m7) fun x12 m10 => if x12 = 0 then zD57_111 f56 f57 a1 m10 else if a1 = 8 then zD57_111 f56 f57 a1 m10 else zD57_114 f56 f57 a1 0 m10 else if a1 = 8 then zD57_89 f56 f57 a1 1 m7 else zD57_89 f56 f57 a1 0 m7 else zq_x (xe_I m4 181 6) 3001 fun j35 => zq_cI (zD39 182 (xe_L m4 6 j35) m4) fun x41 m39 => if x41 < 0 then zD57_39 f56 f57 x41 m39 else zq_x x41 22 fun j65 => if (xe_I m39 184 j65) = 0 then zD57_39 f56 f57 x41 m39 else zD57_42 f56 f57 x41 0 m39 else zq_x (xe_I m1 181 6) 3001 fun j69 => zq_cI (zD58 1 ((xe_L m1 6 j69).toInt32) m1) fun x75 m73 => zD57_131 f56 f57 m73
theorem zD57_131_ok {μ0 : xe_Mem} {δ : xe_Dy} {d : Nat} {D0 : Nat} (hD0 : 20 ≤ D0) (hd : D0 + 1 ≤ d) {f56 : Int32 → Int32 → xe_Mem → zO} {f57 : Int32 → xe_Mem → zO} (hf56 : ∀ d', D0 ≤ d' → ∀ (a1 : Int32) (a2 : Int32) (μ : xe_Mem), zT zPc μ0 μ → zK zPc μ0 δ d' 56 0 (xe_init [.ref 181, .int a1, .int a2] (xM_L 56)) [] μ (f56 a1 a2 μ)) (hf57 : ∀ d', D0 ≤ d' → ∀ (a1 : Int32) (μ : xe_Mem), zT zPc μ0 μ → zK zPc μ0 δ d' 57 0 (xe_init [.ref 181, .int a1] (xM_L 57)) [] μ (f57 a1 μ))  : ∀ (l1 : Option Value) (l2 : Option Value) (μ : xe_Mem), zT zPc μ0 μ → zK zPc μ0 δ d 57 131 [some (.ref 181), l1, l2] [] μ (zD57_131 f56 f57 μ) := by
  intro l1 l2 μ hT
  unfold zD57_131
  refine zK_op rfl rfl ?_
  refine zK_cV rfl (as := [.ref 181]) (rest := []) rfl rfl (xe_rcvO (zT_sh hT rfl)) (Nat.le_of_ble_eq_true rfl) (Nat.le_of_ble_eq_true rfl) (by decide) (fun _ => rfl) (by omega) (zD59_ok (by omega) μ hT) (fun m24 T25 => ?_)
  exact zK_ret0 rfl T25
theorem zD57_130_ok {μ0 : xe_Mem} {δ : xe_Dy} {d : Nat} {D0 : Nat} (hD0 : 20 ≤ D0) (hd : D0 + 1 ≤ d) {f56 : Int32 → Int32 → xe_Mem → zO} {f57 : Int32 → xe_Mem → zO} (hf56 : ∀ d', D0 ≤ d' → ∀ (a1 : Int32) (a2 : Int32) (μ : xe_Mem), zT zPc μ0 μ → zK zPc μ0 δ d' 56 0 (xe_init [.ref 181, .int a1, .int a2] (xM_L 56)) [] μ (f56 a1 a2 μ)) (hf57 : ∀ d', D0 ≤ d' → ∀ (a1 : Int32) (μ : xe_Mem), zT zPc μ0 μ → zK zPc μ0 δ d' 57 0 (xe_init [.ref 181, .int a1] (xM_L 57)) [] μ (f57 a1 μ))  : ∀ (s0 : Int32) (l1 : Option Value) (μ : xe_Mem), zT zPc μ0 μ → zK zPc μ0 δ d 57 130 [some (.ref 181), l1, none] [.int s0] μ (zD57_130 f56 f57 s0 μ) := by
  intro s0 l1 μ hT
  unfold zD57_130
  refine zK_cV rfl (as := [.int s0]) (rest := []) rfl rfl rfl (Nat.le_of_ble_eq_true rfl) (Nat.le_of_ble_eq_true rfl) (by decide) (fun _ => rfl) (by omega) (zD37_ok (by omega) s0 μ hT) (fun m22 T23 => ?_)
  exact zD57_131_ok hD0 hd hf56 hf57 _ _ m22 T23
theorem zD57_114_ok {μ0 : xe_Mem} {δ : xe_Dy} {d : Nat} {D0 : Nat} (hD0 : 20 ≤ D0) (hd : D0 + 1 ≤ d) {f56 : Int32 → Int32 → xe_Mem → zO} {f57 : Int32 → xe_Mem → zO} (hf56 : ∀ d', D0 ≤ d' → ∀ (a1 : Int32) (a2 : Int32) (μ : xe_Mem), zT zPc μ0 μ → zK zPc μ0 δ d' 56 0 (xe_init [.ref 181, .int a1, .int a2] (xM_L 56)) [] μ (f56 a1 a2 μ)) (hf57 : ∀ d', D0 ≤ d' → ∀ (a1 : Int32) (μ : xe_Mem), zT zPc μ0 μ → zK zPc μ0 δ d' 57 0 (xe_init [.ref 181, .int a1] (xM_L 57)) [] μ (f57 a1 μ))  : ∀ (v1 : Int32) (s0 : Int32) (μ : xe_Mem), zT zPc μ0 μ → zK zPc μ0 δ d 57 114 [some (.ref 181), some (.int v1), none] [.int s0] μ (zD57_114 f56 f57 v1 s0 μ) := by
  intro v1 s0 μ hT
  unfold zD57_114
  refine zK_cV rfl (as := [.int s0]) (rest := []) rfl rfl rfl (Nat.le_of_ble_eq_true rfl) (Nat.le_of_ble_eq_true rfl) (by decide) (fun _ => rfl) (by omega) (zD37_ok (by omega) s0 μ hT) (fun m13 T14 => ?_)
  refine zK_op rfl rfl ?_
  refine zK_cV rfl (as := [.ref 181]) (rest := []) rfl rfl (xe_rcvO (zT_sh T14 rfl)) (Nat.le_of_ble_eq_true rfl) (Nat.le_of_ble_eq_true rfl) (by decide) (fun _ => rfl) (by omega) (zD59_ok (by omega) m13 T14) (fun m15 T16 => ?_)
  refine zK_op rfl rfl ?_
  refine zK_op rfl rfl ?_
  refine zK_op rfl rfl ?_
  refine zK_op rfl rfl ?_
  refine zK_op rfl rfl ?_
  refine zK_cV rfl (as := [.ref 181, .int 0, .int (v1 + 1)]) (rest := []) rfl rfl (xe_rcvO (zT_sh T16 rfl)) (Nat.le_of_ble_eq_true rfl) (Nat.le_of_ble_eq_true rfl) (by decide) (fun _ => rfl) (by omega) (hf56 (d - 1) (by omega) 0 (v1 + 1) m15 T16) (fun m17 T18 => ?_)
  refine zK_op rfl rfl ?_
  refine zK_op rfl rfl ?_
  refine zK_cI rfl (as := [.ref 181, .ref 1000018]) (rest := []) rfl rfl (xe_rcvO (zT_sh T18 rfl)) (Nat.le_of_ble_eq_true rfl) (Nat.le_of_ble_eq_true rfl) (by decide) (fun _ => rfl) (by omega) (zD35_ok (by omega) 1000018 m17 T18) (fun x21 m19 T20 => ?_)
  refine zK_ifne rfl (fun _ => ?_) (fun _ => ?_)
  · refine zK_op rfl rfl ?_
    refine zK_op rfl rfl ?_
    exact zD57_130_ok hD0 hd hf56 hf57 1 _ m19 T20
  refine zK_op rfl rfl ?_
  exact zD57_130_ok hD0 hd hf56 hf57 0 _ m19 T20
theorem zD57_111_ok {μ0 : xe_Mem} {δ : xe_Dy} {d : Nat} {D0 : Nat} (hD0 : 20 ≤ D0) (hd : D0 + 1 ≤ d) {f56 : Int32 → Int32 → xe_Mem → zO} {f57 : Int32 → xe_Mem → zO} (hf56 : ∀ d', D0 ≤ d' → ∀ (a1 : Int32) (a2 : Int32) (μ : xe_Mem), zT zPc μ0 μ → zK zPc μ0 δ d' 56 0 (xe_init [.ref 181, .int a1, .int a2] (xM_L 56)) [] μ (f56 a1 a2 μ)) (hf57 : ∀ d', D0 ≤ d' → ∀ (a1 : Int32) (μ : xe_Mem), zT zPc μ0 μ → zK zPc μ0 δ d' 57 0 (xe_init [.ref 181, .int a1] (xM_L 57)) [] μ (f57 a1 μ))  : ∀ (v1 : Int32) (μ : xe_Mem), zT zPc μ0 μ → zK zPc μ0 δ d 57 111 [some (.ref 181), some (.int v1), none] [] μ (zD57_111 f56 f57 v1 μ) := by
  intro v1 μ hT
  unfold zD57_111
  refine zK_op rfl rfl ?_
  refine zK_op rfl rfl ?_
  exact zD57_114_ok hD0 hd hf56 hf57 v1 1 μ hT
theorem zD57_89_ok {μ0 : xe_Mem} {δ : xe_Dy} {d : Nat} {D0 : Nat} (hD0 : 20 ≤ D0) (hd : D0 + 1 ≤ d) {f56 : Int32 → Int32 → xe_Mem → zO} {f57 : Int32 → xe_Mem → zO} (hf56 : ∀ d', D0 ≤ d' → ∀ (a1 : Int32) (a2 : Int32) (μ : xe_Mem), zT zPc μ0 μ → zK zPc μ0 δ d' 56 0 (xe_init [.ref 181, .int a1, .int a2] (xM_L 56)) [] μ (f56 a1 a2 μ)) (hf57 : ∀ d', D0 ≤ d' → ∀ (a1 : Int32) (μ : xe_Mem), zT zPc μ0 μ → zK zPc μ0 δ d' 57 0 (xe_init [.ref 181, .int a1] (xM_L 57)) [] μ (f57 a1 μ))  : ∀ (v1 : Int32) (s0 : Int32) (μ : xe_Mem), zT zPc μ0 μ → zK zPc μ0 δ d 57 89 [some (.ref 181), some (.int v1), none] [.int s0] μ (zD57_89 f56 f57 v1 s0 μ) := by
  intro v1 s0 μ hT
  unfold zD57_89
  refine zK_cV rfl (as := [.int s0]) (rest := []) rfl rfl rfl (Nat.le_of_ble_eq_true rfl) (Nat.le_of_ble_eq_true rfl) (by decide) (fun _ => rfl) (by omega) (zD37_ok (by omega) s0 μ hT) (fun m26 T27 => ?_)
  refine zK_op rfl rfl ?_
  refine zK_cV rfl (as := [.ref 181]) (rest := []) rfl rfl (xe_rcvO (zT_sh T27 rfl)) (Nat.le_of_ble_eq_true rfl) (Nat.le_of_ble_eq_true rfl) (by decide) (fun _ => rfl) (by omega) (zD59_ok (by omega) m26 T27) (fun m28 T29 => ?_)
  refine zK_op rfl rfl ?_
  refine zK_op rfl rfl ?_
  refine zK_op rfl rfl ?_
  refine zK_op rfl rfl ?_
  refine zK_cV rfl (as := [.ref 181, .int (v1 + 1)]) (rest := []) rfl rfl (xe_rcvO (zT_sh T29 rfl)) (Nat.le_of_ble_eq_true rfl) (Nat.le_of_ble_eq_true rfl) (by decide) (fun _ => rfl) (by omega) (hf57 (d - 1) (by omega) (v1 + 1) m28 T29) (fun m30 T31 => ?_)
  refine zK_op rfl rfl ?_
  refine zK_gRl (b := 8) rfl rfl rfl T31 ?_
  refine zK_op rfl rfl ?_
  refine zK_op rfl rfl ?_
  refine zK_cI rfl (as := [.ref 8, .int 5, .int 0]) (rest := []) rfl rfl (xe_rcvO (zT_sh T31 rfl)) (Nat.le_of_ble_eq_true rfl) (Nat.le_of_ble_eq_true rfl) (by decide) (fun _ => rfl) (by omega) (zD58_ok (by omega) 5 0 m30 T31) (fun x34 m32 T33 => ?_)
  refine zK_op rfl rfl ?_
  exact zK_ret0 rfl T33
theorem zD57_76_ok {μ0 : xe_Mem} {δ : xe_Dy} {d : Nat} {D0 : Nat} (hD0 : 20 ≤ D0) (hd : D0 + 1 ≤ d) {f56 : Int32 → Int32 → xe_Mem → zO} {f57 : Int32 → xe_Mem → zO} (hf56 : ∀ d', D0 ≤ d' → ∀ (a1 : Int32) (a2 : Int32) (μ : xe_Mem), zT zPc μ0 μ → zK zPc μ0 δ d' 56 0 (xe_init [.ref 181, .int a1, .int a2] (xM_L 56)) [] μ (f56 a1 a2 μ)) (hf57 : ∀ d', D0 ≤ d' → ∀ (a1 : Int32) (μ : xe_Mem), zT zPc μ0 μ → zK zPc μ0 δ d' 57 0 (xe_init [.ref 181, .int a1] (xM_L 57)) [] μ (f57 a1 μ))  : ∀ (s1 : Int32) (s2 : Int32) (l1 : Option Value) (l2 : Option Value) (μ : xe_Mem), zT zPc μ0 μ → zK zPc μ0 δ d 57 76 [some (.ref 181), l1, l2] [.int s2, .int s1, .ref 181] μ (zD57_76 f56 f57 s1 s2 μ) := by
  intro s1 s2 l1 l2 μ hT
  unfold zD57_76
  refine zK_op rfl rfl ?_
  refine zK_pI rfl rfl hT rfl (fun m63 T64 => ?_)
  refine zK_op rfl rfl ?_
  exact zD57_131_ok hD0 hd hf56 hf57 _ _ m63 T64
theorem zD57_42_ok {μ0 : xe_Mem} {δ : xe_Dy} {d : Nat} {D0 : Nat} (hD0 : 20 ≤ D0) (hd : D0 + 1 ≤ d) {f56 : Int32 → Int32 → xe_Mem → zO} {f57 : Int32 → xe_Mem → zO} (hf56 : ∀ d', D0 ≤ d' → ∀ (a1 : Int32) (a2 : Int32) (μ : xe_Mem), zT zPc μ0 μ → zK zPc μ0 δ d' 56 0 (xe_init [.ref 181, .int a1, .int a2] (xM_L 56)) [] μ (f56 a1 a2 μ)) (hf57 : ∀ d', D0 ≤ d' → ∀ (a1 : Int32) (μ : xe_Mem), zT zPc μ0 μ → zK zPc μ0 δ d' 57 0 (xe_init [.ref 181, .int a1] (xM_L 57)) [] μ (f57 a1 μ))  : ∀ (v2 : Int32) (s0 : Int32) (l1 : Option Value) (μ : xe_Mem), zT zPc μ0 μ → zK zPc μ0 δ d 57 42 [some (.ref 181), l1, some (.int v2)] [.int s0] μ (zD57_42 f56 f57 v2 s0 μ) := by
  intro v2 s0 l1 μ hT
  unfold zD57_42
  refine zK_cV rfl (as := [.int s0]) (rest := []) rfl rfl rfl (Nat.le_of_ble_eq_true rfl) (Nat.le_of_ble_eq_true rfl) (by decide) (fun _ => rfl) (by omega) (zD37_ok (by omega) s0 μ hT) (fun m42 T43 => ?_)
  refine zK_op rfl rfl ?_
  refine zK_gRl (b := 8) rfl rfl rfl T43 ?_
  refine zK_op rfl rfl ?_
  refine zK_gRl (b := 182) rfl rfl rfl T43 ?_
  refine zK_gRl (b := 184) rfl rfl rfl T43 ?_
  refine zK_op rfl rfl ?_
  refine zK_x (fun j44 h45 h46 h47 => ?_)
  refine zK_aI rfl rfl T43 h45 h46 h47 ?_
  refine zK_op rfl rfl ?_
  refine zK_gRl (b := 182) rfl rfl rfl T43 ?_
  refine zK_gRl (b := 185) rfl rfl rfl T43 ?_
  refine zK_op rfl rfl ?_
  refine zK_x (fun j48 h49 h50 h51 => ?_)
  refine zK_aI rfl rfl T43 h49 h50 h51 ?_
  refine zK_cI rfl (as := [.ref 8, .int (xe_I m42 184 j44), .int (xe_I m42 185 j48)]) (rest := []) rfl rfl (xe_rcvO (zT_sh T43 rfl)) (Nat.le_of_ble_eq_true rfl) (Nat.le_of_ble_eq_true rfl) (by decide) (fun _ => rfl) (by omega) (zD58_ok (by omega) (xe_I m42 184 j44) (xe_I m42 185 j48) m42 T43) (fun x54 m52 T53 => ?_)
  refine zK_op rfl rfl ?_
  refine zK_op rfl rfl ?_
  refine zK_op rfl rfl ?_
  refine zK_gI rfl rfl T53 ?_
  refine zK_op rfl rfl ?_
  refine zK_gRl (b := 182) rfl rfl rfl T53 ?_
  refine zK_gRl (b := 184) rfl rfl rfl T53 ?_
  refine zK_op rfl rfl ?_
  refine zK_x (fun j55 h56 h57 h58 => ?_)
  refine zK_aI rfl rfl T53 h56 h57 h58 ?_
  refine zK_op rfl rfl ?_
  refine zK_icne rfl (fun _ => ?_) (fun _ => ?_)
  · refine zK_op rfl rfl ?_
    refine zK_op rfl rfl ?_
    refine zK_gRl (b := 182) rfl rfl rfl T53 ?_
    refine zK_gRl (b := 185) rfl rfl rfl T53 ?_
    refine zK_op rfl rfl ?_
    refine zK_x (fun j59 h60 h61 h62 => ?_)
    refine zK_aI rfl rfl T53 h60 h61 h62 ?_
    refine zK_op rfl rfl ?_
    refine zK_op rfl rfl ?_
    exact zD57_76_ok hD0 hd hf56 hf57 (xe_I m52 181 9) (1 <<< ((xe_I m52 185 j59) &&& 31)) _ _ m52 T53
  refine zK_op rfl rfl ?_
  exact zD57_76_ok hD0 hd hf56 hf57 (xe_I m52 181 9) 0 _ _ m52 T53
theorem zD57_39_ok {μ0 : xe_Mem} {δ : xe_Dy} {d : Nat} {D0 : Nat} (hD0 : 20 ≤ D0) (hd : D0 + 1 ≤ d) {f56 : Int32 → Int32 → xe_Mem → zO} {f57 : Int32 → xe_Mem → zO} (hf56 : ∀ d', D0 ≤ d' → ∀ (a1 : Int32) (a2 : Int32) (μ : xe_Mem), zT zPc μ0 μ → zK zPc μ0 δ d' 56 0 (xe_init [.ref 181, .int a1, .int a2] (xM_L 56)) [] μ (f56 a1 a2 μ)) (hf57 : ∀ d', D0 ≤ d' → ∀ (a1 : Int32) (μ : xe_Mem), zT zPc μ0 μ → zK zPc μ0 δ d' 57 0 (xe_init [.ref 181, .int a1] (xM_L 57)) [] μ (f57 a1 μ))  : ∀ (v2 : Int32) (l1 : Option Value) (μ : xe_Mem), zT zPc μ0 μ → zK zPc μ0 δ d 57 39 [some (.ref 181), l1, some (.int v2)] [] μ (zD57_39 f56 f57 v2 μ) := by
  intro v2 l1 μ hT
  unfold zD57_39
  refine zK_op rfl rfl ?_
  refine zK_op rfl rfl ?_
  exact zD57_42_ok hD0 hd hf56 hf57 v2 1 _ μ hT
theorem zD57_ok {μ0 : xe_Mem} {δ : xe_Dy} {d : Nat} {D0 : Nat} (hD0 : 20 ≤ D0) (hd : D0 + 1 ≤ d) {f56 : Int32 → Int32 → xe_Mem → zO} {f57 : Int32 → xe_Mem → zO} (hf56 : ∀ d', D0 ≤ d' → ∀ (a1 : Int32) (a2 : Int32) (μ : xe_Mem), zT zPc μ0 μ → zK zPc μ0 δ d' 56 0 (xe_init [.ref 181, .int a1, .int a2] (xM_L 56)) [] μ (f56 a1 a2 μ)) (hf57 : ∀ d', D0 ≤ d' → ∀ (a1 : Int32) (μ : xe_Mem), zT zPc μ0 μ → zK zPc μ0 δ d' 57 0 (xe_init [.ref 181, .int a1] (xM_L 57)) [] μ (f57 a1 μ)) (a1 : Int32) (μ : xe_Mem) (hT : zT zPc μ0 μ) : zK zPc μ0 δ d 57 0 (xe_init [.ref 181, .int a1] (xM_L 57)) [] μ (zD57 f56 f57 a1 μ) := by
  unfold zD57
  show zK zPc μ0 δ d 57 0 [some (.ref 181), some (.int a1), none] [] μ _
  refine zK_op rfl rfl ?_
  refine zK_op rfl rfl ?_
  refine zK_cI rfl (as := [.ref 181, .ref 1000027]) (rest := []) rfl rfl (xe_rcvO (zT_sh hT rfl)) (Nat.le_of_ble_eq_true rfl) (Nat.le_of_ble_eq_true rfl) (by decide) (fun _ => rfl) (by omega) (zD35_ok (by omega) 1000027 μ hT) (fun x3 m1 T2 => ?_)
  refine zK_ifeq rfl (fun _ => ?_) (fun _ => ?_)
  · refine zK_op rfl rfl ?_
    refine zK_op rfl rfl ?_
    refine zK_cI rfl (as := [.ref 181, .ref 1000026]) (rest := []) rfl rfl (xe_rcvO (zT_sh T2 rfl)) (Nat.le_of_ble_eq_true rfl) (Nat.le_of_ble_eq_true rfl) (by decide) (fun _ => rfl) (by omega) (zD35_ok (by omega) 1000026 m1 T2) (fun x6 m4 T5 => ?_)
    refine zK_ifeq rfl (fun _ => ?_) (fun _ => ?_)
    · refine zK_op rfl rfl ?_
      refine zK_op rfl rfl ?_
      refine zK_cI rfl (as := [.ref 181, .ref 1000022]) (rest := []) rfl rfl (xe_rcvO (zT_sh T5 rfl)) (Nat.le_of_ble_eq_true rfl) (Nat.le_of_ble_eq_true rfl) (by decide) (fun _ => rfl) (by omega) (zD35_ok (by omega) 1000022 m4 T5) (fun x9 m7 T8 => ?_)
      refine zK_ifeq rfl (fun _ => ?_) (fun _ => ?_)
      · refine zK_op rfl rfl ?_
        refine zK_op rfl rfl ?_
        refine zK_cI rfl (as := [.ref 181, .ref 1000017]) (rest := []) rfl rfl (xe_rcvO (zT_sh T8 rfl)) (Nat.le_of_ble_eq_true rfl) (Nat.le_of_ble_eq_true rfl) (by decide) (fun _ => rfl) (by omega) (zD35_ok (by omega) 1000017 m7 T8) (fun x12 m10 T11 => ?_)
        refine zK_ifeq rfl (fun _ => ?_) (fun _ => ?_)
        · exact zD57_111_ok hD0 hd hf56 hf57 a1 m10 T11
        refine zK_op rfl rfl ?_
        refine zK_op rfl rfl ?_
        refine zK_icne rfl (fun _ => ?_) (fun _ => ?_)
        · exact zD57_111_ok hD0 hd hf56 hf57 a1 m10 T11
        refine zK_op rfl rfl ?_
        exact zD57_114_ok hD0 hd hf56 hf57 a1 0 m10 T11
      refine zK_op rfl rfl ?_
      refine zK_op rfl rfl ?_
      refine zK_icne rfl (fun _ => ?_) (fun _ => ?_)
      · refine zK_op rfl rfl ?_
        refine zK_op rfl rfl ?_
        exact zD57_89_ok hD0 hd hf56 hf57 a1 1 m7 T8
      refine zK_op rfl rfl ?_
      exact zD57_89_ok hD0 hd hf56 hf57 a1 0 m7 T8
    refine zK_op rfl rfl ?_
    refine zK_gRl (b := 182) rfl rfl rfl T5 ?_
    refine zK_op rfl rfl ?_
    refine zK_gRl (b := 3) rfl rfl rfl T5 ?_
    refine zK_gRl (b := 6) rfl rfl rfl T5 ?_
    refine zK_op rfl rfl ?_
    refine zK_gI rfl rfl T5 ?_
    refine zK_x (fun j35 h36 h37 h38 => ?_)
    refine zK_aL rfl rfl T5 h36 h37 h38 ?_
    refine zK_cI rfl (as := [.ref 182, .long (xe_L m4 6 j35)]) (rest := []) rfl rfl (xe_rcvO (zT_sh T5 rfl)) (Nat.le_of_ble_eq_true rfl) (Nat.le_of_ble_eq_true rfl) (by decide) (fun _ => rfl) (by omega) (zD39_ok (by omega) 182 (xe_L m4 6 j35) m4 T5) (fun x41 m39 T40 => ?_)
    refine zK_op rfl rfl ?_
    refine zK_op rfl rfl ?_
    refine zK_iflt rfl (fun _ => ?_) (fun _ => ?_)
    · exact zD57_39_ok hD0 hd hf56 hf57 x41 _ m39 T40
    refine zK_op rfl rfl ?_
    refine zK_gRl (b := 182) rfl rfl rfl T40 ?_
    refine zK_gRl (b := 184) rfl rfl rfl T40 ?_
    refine zK_op rfl rfl ?_
    refine zK_x (fun j65 h66 h67 h68 => ?_)
    refine zK_aI rfl rfl T40 h66 h67 h68 ?_
    refine zK_ifne rfl (fun _ => ?_) (fun _ => ?_)
    · exact zD57_39_ok hD0 hd hf56 hf57 x41 _ m39 T40
    refine zK_op rfl rfl ?_
    exact zD57_42_ok hD0 hd hf56 hf57 x41 0 _ m39 T40
  refine zK_op rfl rfl ?_
  refine zK_gRl (b := 8) rfl rfl rfl T2 ?_
  refine zK_op rfl rfl ?_
  refine zK_op rfl rfl ?_
  refine zK_gRl (b := 3) rfl rfl rfl T2 ?_
  refine zK_gRl (b := 6) rfl rfl rfl T2 ?_
  refine zK_op rfl rfl ?_
  refine zK_gI rfl rfl T2 ?_
  refine zK_x (fun j69 h70 h71 h72 => ?_)
  refine zK_aL rfl rfl T2 h70 h71 h72 ?_
  refine zK_op rfl rfl ?_
  refine zK_cI rfl (as := [.ref 8, .int 1, .int ((xe_L m1 6 j69).toInt32)]) (rest := []) rfl rfl (xe_rcvO (zT_sh T2 rfl)) (Nat.le_of_ble_eq_true rfl) (Nat.le_of_ble_eq_true rfl) (by decide) (fun _ => rfl) (by omega) (zD58_ok (by omega) 1 ((xe_L m1 6 j69).toInt32) m1 T2) (fun x75 m73 T74 => ?_)
  refine zK_op rfl rfl ?_
  refine zK_op rfl rfl ?_
  exact zD57_131_ok hD0 hd hf56 hf57 _ _ m73 T74
/-! readLevel and readOperand, each by the other -/
def zKE : Nat → (Int32 → Int32 → xe_Mem → zO) × (Int32 → xe_Mem → zO)
  | 0 => (fun _ _ _ => none, fun _ _ => none)
  | n + 1 => (zD56 (zKE n).1 (zKE n).2, zD57 (zKE n).1 (zKE n).2)
def zE56 : Int32 → Int32 → xe_Mem → zO := (zKE 64).1
theorem zKE_ok {μ0 : xe_Mem} {δ : xe_Dy} : ∀ n : Nat, (∀ d', 20 + n ≤ d' → ∀ (a1 : Int32) (a2 : Int32) (μ : xe_Mem), zT zPc μ0 μ → zK zPc μ0 δ d' 56 0 (xe_init [.ref 181, .int a1, .int a2] (xM_L 56)) [] μ ((zKE n).1 a1 a2 μ)) ∧ (∀ d', 20 + n ≤ d' → ∀ (a1 : Int32) (μ : xe_Mem), zT zPc μ0 μ → zK zPc μ0 δ d' 57 0 (xe_init [.ref 181, .int a1] (xM_L 57)) [] μ ((zKE n).2 a1 μ)) := by
  intro n
  induction n with
  | zero => exact ⟨fun _ _ _ _ _ _ => zK_no, fun _ _ _ _ _ => zK_no⟩
  | succ n ih => exact ⟨fun d' hd a1 a2 μ hT => zD56_ok (D0 := 20 + n) (by omega) (by omega) ih.1 ih.2 a1 a2 μ hT, fun d' hd a1 μ hT => zD57_ok (D0 := 20 + n) (by omega) (by omega) ih.1 ih.2 a1 μ hT⟩
theorem zE56_ok {μ0 : xe_Mem} {δ : xe_Dy} {d : Nat} (hd : 100 ≤ d) (a1 : Int32) (a2 : Int32) (μ : xe_Mem) (hT : zT zPc μ0 μ) : zK zPc μ0 δ d 56 0 (xe_init [.ref 181, .int a1, .int a2] (xM_L 56)) [] μ (zE56 a1 a2 μ) := (zKE_ok 64).1 d (by omega) a1 a2 μ hT
/-! 60 LogicalTimes$Code.aimHere(I)V -/
def zD60_11 (μ : xe_Mem) : zO := some (.inl none, μ)
def zD60  (a1 : Int32) (μ : xe_Mem) : zO := if (Int32.ofNat 3000) ≤ a1 then zD60_11 μ else zq_x a1 3000 fun j1 => zq_m (xe_setI μ 10 j1 (xe_I μ 8 2)) fun m5 => zD60_11 m5
theorem zD60_11_ok {μ0 : xe_Mem} {δ : xe_Dy} {d : Nat} (hd : 0 ≤ d)  : ∀ (l0 : Option Value) (l1 : Option Value) (μ : xe_Mem), zT zPc μ0 μ → zK zPc μ0 δ d 60 11 [l0, l1] [] μ (zD60_11  μ) := by
  intro l0 l1 μ hT
  unfold zD60_11
  exact zK_ret0 rfl hT
theorem zD60_ok {μ0 : xe_Mem} {δ : xe_Dy} {d : Nat} (hd : 0 ≤ d) (a1 : Int32) (μ : xe_Mem) (hT : zT zPc μ0 μ) : zK zPc μ0 δ d 60 0 (xe_init [.ref 8, .int a1] (xM_L 60)) [] μ (zD60 a1 μ) := by
  unfold zD60
  show zK zPc μ0 δ d 60 0 [some (.ref 8), some (.int a1)] [] μ _
  refine zK_op rfl rfl ?_
  refine zK_op rfl rfl ?_
  refine zK_gRl (b := 10) rfl rfl rfl hT ?_
  refine zK_alen (N := 3000) (t := 0) rfl rfl (by decide) hT ?_
  refine zK_icge rfl (fun _ => ?_) (fun _ => ?_)
  · exact zD60_11_ok hd _ _ μ hT
  refine zK_op rfl rfl ?_
  refine zK_gRl (b := 10) rfl rfl rfl hT ?_
  refine zK_op rfl rfl ?_
  refine zK_op rfl rfl ?_
  refine zK_gI rfl rfl hT ?_
  refine zK_x (fun j1 h2 h3 h4 => ?_)
  refine zK_sI (a := 10) (g := (fun x => x)) rfl rfl hT h2 h3 h4 rfl (fun m5 T6 => ?_)
  exact zD60_11_ok hd _ _ m5 T6
/-! 55 LogicalTimes$Reader.readIf(I)I -/
def zD55_52 (f53 : Int32 → xe_Mem → zO) (v2 : Int32) (v3 : Int32) (μ : xe_Mem) : zO := zq_cV (zD60 v2 μ) fun m14 => some (.inl (some (.int (1 + v3))), m14)
def zD55 (f53 : Int32 → xe_Mem → zO) (a1 : Int32) (μ : xe_Mem) : zO := zq_m (xe_setI μ 181 6 ((xe_I μ 181 6) + 1)) fun m1 => zq_cV (zE56 0 0 m1) fun m3 => zq_cI (zD58 15 0 m3) fun x7 m5 => zq_cI (f53 (a1 + 1) m5) fun x10 m8 => zq_cI (zD35 1000007 m8) fun x13 m11 => if x13 = 0 then zD55_52 f53 x7 x10 m11 else zq_m (xe_setI m11 181 6 ((xe_I m11 181 6) + 1)) fun m16 => zq_cI (zD58 16 0 m16) fun x20 m18 => zq_cV (zD60 x7 m18) fun m21 => zq_cI (f53 (a1 + 1) m21) fun x25 m23 => zq_vI (if x10 < x25 then x25 else x10) fun x26 => zD55_52 f53 x20 x26 m23
theorem zD55_52_ok {μ0 : xe_Mem} {δ : xe_Dy} {d : Nat} {D0 : Nat} (hD0 : 110 ≤ D0) (hd : D0 + 1 ≤ d) {f53 : Int32 → xe_Mem → zO} (hf53 : ∀ d', D0 ≤ d' → ∀ (a1 : Int32) (μ : xe_Mem), zT zPc μ0 μ → zK zPc μ0 δ d' 53 0 (xe_init [.ref 181, .int a1] (xM_L 53)) [] μ (f53 a1 μ))  : ∀ (v2 : Int32) (v3 : Int32) (l1 : Option Value) (l4 : Option Value) (μ : xe_Mem), zT zPc μ0 μ → zK zPc μ0 δ d 55 52 [some (.ref 181), l1, some (.int v2), some (.int v3), l4] [] μ (zD55_52 f53 v2 v3 μ) := by
  intro v2 v3 l1 l4 μ hT
  unfold zD55_52
  refine zK_op rfl rfl ?_
  refine zK_gRl (b := 8) rfl rfl rfl hT ?_
  refine zK_op rfl rfl ?_
  refine zK_cV rfl (as := [.ref 8, .int v2]) (rest := []) rfl rfl (xe_rcvO (zT_sh hT rfl)) (Nat.le_of_ble_eq_true rfl) (Nat.le_of_ble_eq_true rfl) (by decide) (fun _ => rfl) (by omega) (zD60_ok (by omega) v2 μ hT) (fun m14 T15 => ?_)
  refine zK_op rfl rfl ?_
  refine zK_op rfl rfl ?_
  refine zK_op rfl rfl ?_
  exact zK_ret1 rfl T15
theorem zD55_ok {μ0 : xe_Mem} {δ : xe_Dy} {d : Nat} {D0 : Nat} (hD0 : 110 ≤ D0) (hd : D0 + 1 ≤ d) {f53 : Int32 → xe_Mem → zO} (hf53 : ∀ d', D0 ≤ d' → ∀ (a1 : Int32) (μ : xe_Mem), zT zPc μ0 μ → zK zPc μ0 δ d' 53 0 (xe_init [.ref 181, .int a1] (xM_L 53)) [] μ (f53 a1 μ)) (a1 : Int32) (μ : xe_Mem) (hT : zT zPc μ0 μ) : zK zPc μ0 δ d 55 0 (xe_init [.ref 181, .int a1] (xM_L 55)) [] μ (zD55 f53 a1 μ) := by
  unfold zD55
  show zK zPc μ0 δ d 55 0 [some (.ref 181), some (.int a1), none, none, none] [] μ _
  refine zK_op rfl rfl ?_
  refine zK_op rfl rfl ?_
  refine zK_gI rfl rfl hT ?_
  refine zK_op rfl rfl ?_
  refine zK_op rfl rfl ?_
  refine zK_pI rfl rfl hT rfl (fun m1 T2 => ?_)
  refine zK_op rfl rfl ?_
  refine zK_op rfl rfl ?_
  refine zK_op rfl rfl ?_
  refine zK_cV rfl (as := [.ref 181, .int 0, .int 0]) (rest := []) rfl rfl (xe_rcvO (zT_sh T2 rfl)) (Nat.le_of_ble_eq_true rfl) (Nat.le_of_ble_eq_true rfl) (by decide) (fun _ => rfl) (by omega) (zE56_ok (by omega) 0 0 m1 T2) (fun m3 T4 => ?_)
  refine zK_op rfl rfl ?_
  refine zK_gRl (b := 8) rfl rfl rfl T4 ?_
  refine zK_op rfl rfl ?_
  refine zK_op rfl rfl ?_
  refine zK_cI rfl (as := [.ref 8, .int 15, .int 0]) (rest := []) rfl rfl (xe_rcvO (zT_sh T4 rfl)) (Nat.le_of_ble_eq_true rfl) (Nat.le_of_ble_eq_true rfl) (by decide) (fun _ => rfl) (by omega) (zD58_ok (by omega) 15 0 m3 T4) (fun x7 m5 T6 => ?_)
  refine zK_op rfl rfl ?_
  refine zK_op rfl rfl ?_
  refine zK_op rfl rfl ?_
  refine zK_op rfl rfl ?_
  refine zK_op rfl rfl ?_
  refine zK_cI rfl (as := [.ref 181, .int (a1 + 1)]) (rest := []) rfl rfl (xe_rcvO (zT_sh T6 rfl)) (Nat.le_of_ble_eq_true rfl) (Nat.le_of_ble_eq_true rfl) (by decide) (fun _ => rfl) (by omega) (hf53 (d - 1) (by omega) (a1 + 1) m5 T6) (fun x10 m8 T9 => ?_)
  refine zK_op rfl rfl ?_
  refine zK_op rfl rfl ?_
  refine zK_op rfl rfl ?_
  refine zK_cI rfl (as := [.ref 181, .ref 1000007]) (rest := []) rfl rfl (xe_rcvO (zT_sh T9 rfl)) (Nat.le_of_ble_eq_true rfl) (Nat.le_of_ble_eq_true rfl) (by decide) (fun _ => rfl) (by omega) (zD35_ok (by omega) 1000007 m8 T9) (fun x13 m11 T12 => ?_)
  refine zK_ifeq rfl (fun _ => ?_) (fun _ => ?_)
  · exact zD55_52_ok hD0 hd hf53 x7 x10 _ _ m11 T12
  refine zK_op rfl rfl ?_
  refine zK_op rfl rfl ?_
  refine zK_gI rfl rfl T12 ?_
  refine zK_op rfl rfl ?_
  refine zK_op rfl rfl ?_
  refine zK_pI rfl rfl T12 rfl (fun m16 T17 => ?_)
  refine zK_op rfl rfl ?_
  refine zK_gRl (b := 8) rfl rfl rfl T17 ?_
  refine zK_op rfl rfl ?_
  refine zK_op rfl rfl ?_
  refine zK_cI rfl (as := [.ref 8, .int 16, .int 0]) (rest := []) rfl rfl (xe_rcvO (zT_sh T17 rfl)) (Nat.le_of_ble_eq_true rfl) (Nat.le_of_ble_eq_true rfl) (by decide) (fun _ => rfl) (by omega) (zD58_ok (by omega) 16 0 m16 T17) (fun x20 m18 T19 => ?_)
  refine zK_op rfl rfl ?_
  refine zK_op rfl rfl ?_
  refine zK_gRl (b := 8) rfl rfl rfl T19 ?_
  refine zK_op rfl rfl ?_
  refine zK_cV rfl (as := [.ref 8, .int x7]) (rest := []) rfl rfl (xe_rcvO (zT_sh T19 rfl)) (Nat.le_of_ble_eq_true rfl) (Nat.le_of_ble_eq_true rfl) (by decide) (fun _ => rfl) (by omega) (zD60_ok (by omega) x7 m18 T19) (fun m21 T22 => ?_)
  refine zK_op rfl rfl ?_
  refine zK_op rfl rfl ?_
  refine zK_op rfl rfl ?_
  refine zK_op rfl rfl ?_
  refine zK_op rfl rfl ?_
  refine zK_op rfl rfl ?_
  refine zK_op rfl rfl ?_
  refine zK_cI rfl (as := [.ref 181, .int (a1 + 1)]) (rest := [.int x10]) rfl rfl (xe_rcvO (zT_sh T22 rfl)) (Nat.le_of_ble_eq_true rfl) (Nat.le_of_ble_eq_true rfl) (by decide) (fun _ => rfl) (by omega) (hf53 (d - 1) (by omega) (a1 + 1) m21 T22) (fun x25 m23 T24 => ?_)
  refine zK_imax rfl (Nat.le_of_ble_eq_true rfl) ?_
  refine zK_vI (fun x26 => ?_)
  refine zK_op rfl rfl ?_
  exact zD55_52_ok hD0 hd hf53 x20 x26 _ _ m23 T24
/-! 61 LogicalTimes$Reader.readRepeat(I)I -/
def zD61 (f53 : Int32 → xe_Mem → zO) (a1 : Int32) (μ : xe_Mem) : zO := zq_m (xe_setI μ 181 6 ((xe_I μ 181 6) + 1)) fun m1 => zq_cI (zD42 1 9 m1) fun x5 m3 => zq_cI (zD58 17 x5 m3) fun x8 m6 => zq_vI (xe_I m6 8 2) fun x9 => zq_cI (f53 (a1 + 1) m6) fun x12 m10 => zq_cI (zD58 18 x9 m10) fun x15 m13 => some (.inl (some (.int (x5 * (1 + x12)))), m13)
theorem zD61_ok {μ0 : xe_Mem} {δ : xe_Dy} {d : Nat} {D0 : Nat} (hD0 : 110 ≤ D0) (hd : D0 + 1 ≤ d) {f53 : Int32 → xe_Mem → zO} (hf53 : ∀ d', D0 ≤ d' → ∀ (a1 : Int32) (μ : xe_Mem), zT zPc μ0 μ → zK zPc μ0 δ d' 53 0 (xe_init [.ref 181, .int a1] (xM_L 53)) [] μ (f53 a1 μ)) (a1 : Int32) (μ : xe_Mem) (hT : zT zPc μ0 μ) : zK zPc μ0 δ d 61 0 (xe_init [.ref 181, .int a1] (xM_L 61)) [] μ (zD61 f53 a1 μ) := by
  unfold zD61
  show zK zPc μ0 δ d 61 0 [some (.ref 181), some (.int a1), none, none, none] [] μ _
  refine zK_op rfl rfl ?_
  refine zK_op rfl rfl ?_
  refine zK_gI rfl rfl hT ?_
  refine zK_op rfl rfl ?_
  refine zK_op rfl rfl ?_
  refine zK_pI rfl rfl hT rfl (fun m1 T2 => ?_)
  refine zK_op rfl rfl ?_
  refine zK_op rfl rfl ?_
  refine zK_op rfl rfl ?_
  refine zK_cI rfl (as := [.ref 181, .int 1, .int 9]) (rest := []) rfl rfl (xe_rcvO (zT_sh T2 rfl)) (Nat.le_of_ble_eq_true rfl) (Nat.le_of_ble_eq_true rfl) (by decide) (fun _ => rfl) (by omega) (zD42_ok (by omega) 1 9 m1 T2) (fun x5 m3 T4 => ?_)
  refine zK_op rfl rfl ?_
  refine zK_op rfl rfl ?_
  refine zK_gRl (b := 8) rfl rfl rfl T4 ?_
  refine zK_op rfl rfl ?_
  refine zK_op rfl rfl ?_
  refine zK_cI rfl (as := [.ref 8, .int 17, .int x5]) (rest := []) rfl rfl (xe_rcvO (zT_sh T4 rfl)) (Nat.le_of_ble_eq_true rfl) (Nat.le_of_ble_eq_true rfl) (by decide) (fun _ => rfl) (by omega) (zD58_ok (by omega) 17 x5 m3 T4) (fun x8 m6 T7 => ?_)
  refine zK_op rfl rfl ?_
  refine zK_op rfl rfl ?_
  refine zK_gRl (b := 8) rfl rfl rfl T7 ?_
  refine zK_gI rfl rfl T7 ?_
  refine zK_vI (fun x9 => ?_)
  refine zK_op rfl rfl ?_
  refine zK_op rfl rfl ?_
  refine zK_op rfl rfl ?_
  refine zK_op rfl rfl ?_
  refine zK_op rfl rfl ?_
  refine zK_cI rfl (as := [.ref 181, .int (a1 + 1)]) (rest := []) rfl rfl (xe_rcvO (zT_sh T7 rfl)) (Nat.le_of_ble_eq_true rfl) (Nat.le_of_ble_eq_true rfl) (by decide) (fun _ => rfl) (by omega) (hf53 (d - 1) (by omega) (a1 + 1) m6 T7) (fun x12 m10 T11 => ?_)
  refine zK_op rfl rfl ?_
  refine zK_op rfl rfl ?_
  refine zK_gRl (b := 8) rfl rfl rfl T11 ?_
  refine zK_op rfl rfl ?_
  refine zK_op rfl rfl ?_
  refine zK_cI rfl (as := [.ref 8, .int 18, .int x9]) (rest := []) rfl rfl (xe_rcvO (zT_sh T11 rfl)) (Nat.le_of_ble_eq_true rfl) (Nat.le_of_ble_eq_true rfl) (by decide) (fun _ => rfl) (by omega) (zD58_ok (by omega) 18 x9 m10 T11) (fun x15 m13 T14 => ?_)
  refine zK_op rfl rfl ?_
  refine zK_op rfl rfl ?_
  refine zK_op rfl rfl ?_
  refine zK_op rfl rfl ?_
  refine zK_op rfl rfl ?_
  refine zK_op rfl rfl ?_
  exact zK_ret1 rfl T14
/-! 62 LogicalTimes$Reader.readAssignment()V -/
def zD62_135 (μ : xe_Mem) : zO := some (.inl none, μ)
def zD62_111 (v1 : Int32) (v2 : Int32) (v3 : Int32) (s1 : Int32) (μ : xe_Mem) : zO := zq_cI (zD58 s1 v2 μ) fun x36 m34 => zq_cV (zD41 1000014 m34) fun m37 => if v3 = 0 then zq_x v1 22 fun j39 => zq_m (xe_setI m37 184 j39 4) fun m43 => zD62_135 m43 else zq_s (xe_R m37 181 11) fun b45 => zq_o b45 8 <| zq_m (xe_setI m37 b45 6 ((xe_I m37 b45 6) ||| (1 <<< (v2 &&& 31)))) fun m47 => zD62_135 m47
def zD62_90 (v1 : Int32) (v2 : Int32) (v3 : Int32) (s0 : Int32) (μ : xe_Mem) : zO := zq_cV (zD37 s0 μ) fun m26 => zq_m (xe_setI m26 181 6 ((xe_I m26 181 6) + 1)) fun m28 => zq_cV (zD41 1000016 m28) fun m30 => zq_cV (zE56 0 0 m30) fun m32 => if v3 = 0 then zD62_111 v1 v2 v3 14 m32 else zD62_111 v1 v2 v3 13 m32
def zD62_87 (v1 : Int32) (v2 : Int32) (v3 : Int32) (μ : xe_Mem) : zO := zD62_90 v1 v2 v3 1 μ
def zD62_89 (v1 : Int32) (v2 : Int32) (v3 : Int32) (μ : xe_Mem) : zO := zD62_90 v1 v2 v3 0 μ
def zD62_69 (v1 : Int32) (v2 : Int32) (s0 : Int32) (μ : xe_Mem) : zO := zq_x v1 22 fun j22 => if (xe_I μ 184 j22) = 3 then zD62_87 v1 v2 s0 μ else if s0 = 0 then zD62_89 v1 v2 s0 μ else zq_s (xe_R μ 181 10) fun b49 => zq_o b49 2 <| if (((xe_I μ b49 4) >>> (v2 &&& 31)) &&& 1) = 0 then zD62_89 v1 v2 s0 μ else zD62_87 v1 v2 s0 μ
def zD62_53 (v1 : Int32) (μ : xe_Mem) : zO := zq_x v1 22 fun j13 => zq_vI (xe_I μ 185 j13) fun x17 => zq_x v1 22 fun j18 => if (xe_I μ 184 j18) = 2 then zD62_69 v1 x17 1 μ else zD62_69 v1 x17 0 μ
def zD62_28 (s0 : Int32) (μ : xe_Mem) : zO := zq_cV (zD37 s0 μ) fun m53 => zq_vI (xe_I m53 182 3) fun x55 => zq_x (xe_I m53 181 6) 3001 fun j56 => zq_s (xe_R m53 181 11) fun b60 => zq_o b60 8 <| zq_cV (zD40 182 (xe_L m53 6 j56) 0 (xe_I m53 b60 5) m53) fun m62 => zq_s (xe_R m62 181 11) fun b64 => zq_o b64 8 <| zq_m (xe_setI m62 b64 5 ((xe_I m62 b64 5) + 1)) fun m66 => zD62_53 x55 m66
def zD62_7 (s0 : Int32) (μ : xe_Mem) : zO := zq_cV (zD37 s0 μ) fun m4 => zq_x (xe_I m4 181 6) 3001 fun j6 => zq_cI (zD39 182 (xe_L m4 6 j6) m4) fun x12 m10 => if 0 ≤ x12 then zD62_53 x12 m10 else zq_s (xe_R m10 181 11) fun b51 => zq_o b51 8 <| if (xe_I m10 b51 5) = 6 then zD62_28 1 m10 else zD62_28 0 m10
def zD62   (μ : xe_Mem) : zO := zq_cI (zD35 1000026 μ) fun x3 m1 => if x3 = 0 then zD62_7 1 m1 else zD62_7 0 m1
theorem zD62_135_ok {μ0 : xe_Mem} {δ : xe_Dy} {d : Nat} (hd : 101 ≤ d)  : ∀ (l0 : Option Value) (l1 : Option Value) (l2 : Option Value) (l3 : Option Value) (μ : xe_Mem), zT zPc μ0 μ → zK zPc μ0 δ d 62 135 [l0, l1, l2, l3] [] μ (zD62_135  μ) := by
  intro l0 l1 l2 l3 μ hT
  unfold zD62_135
  exact zK_ret0 rfl hT
theorem zD62_111_ok {μ0 : xe_Mem} {δ : xe_Dy} {d : Nat} (hd : 101 ≤ d)  : ∀ (v1 : Int32) (v2 : Int32) (v3 : Int32) (s1 : Int32) (μ : xe_Mem), zT zPc μ0 μ → zK zPc μ0 δ d 62 111 [some (.ref 181), some (.int v1), some (.int v2), some (.int v3)] [.int s1, .ref 8] μ (zD62_111  v1 v2 v3 s1 μ) := by
  intro v1 v2 v3 s1 μ hT
  unfold zD62_111
  refine zK_op rfl rfl ?_
  refine zK_cI rfl (as := [.ref 8, .int s1, .int v2]) (rest := []) rfl rfl (xe_rcvO (zT_sh hT rfl)) (Nat.le_of_ble_eq_true rfl) (Nat.le_of_ble_eq_true rfl) (by decide) (fun _ => rfl) (by omega) (zD58_ok (by omega) s1 v2 μ hT) (fun x36 m34 T35 => ?_)
  refine zK_op rfl rfl ?_
  refine zK_op rfl rfl ?_
  refine zK_op rfl rfl ?_
  refine zK_cV rfl (as := [.ref 181, .ref 1000014]) (rest := []) rfl rfl (xe_rcvO (zT_sh T35 rfl)) (Nat.le_of_ble_eq_true rfl) (Nat.le_of_ble_eq_true rfl) (by decide) (fun _ => rfl) (by omega) (zD41_ok (by omega) 1000014 m34 T35) (fun m37 T38 => ?_)
  refine zK_op rfl rfl ?_
  refine zK_ifeq rfl (fun _ => ?_) (fun _ => ?_)
  · refine zK_op rfl rfl ?_
    refine zK_gRl (b := 182) rfl rfl rfl T38 ?_
    refine zK_gRl (b := 184) rfl rfl rfl T38 ?_
    refine zK_op rfl rfl ?_
    refine zK_op rfl rfl ?_
    refine zK_x (fun j39 h40 h41 h42 => ?_)
    refine zK_sI (a := 184) (g := (fun x => x)) rfl rfl T38 h40 h41 h42 rfl (fun m43 T44 => ?_)
    exact zD62_135_ok hd _ _ _ _ m43 T44
  refine zK_op rfl rfl ?_
  refine zK_gRs rfl rfl T38 (fun b45 => ?_)
  refine zK_op rfl rfl ?_
  refine zK_o (fun h46 ph46 => ?_)
  refine zK_gI rfl h46 T38 ?_
  refine zK_op rfl rfl ?_
  refine zK_op rfl rfl ?_
  refine zK_op rfl rfl ?_
  refine zK_op rfl rfl ?_
  refine zK_pI rfl h46 T38 ph46 (fun m47 T48 => ?_)
  refine zK_op rfl rfl ?_
  exact zD62_135_ok hd _ _ _ _ m47 T48
theorem zD62_90_ok {μ0 : xe_Mem} {δ : xe_Dy} {d : Nat} (hd : 101 ≤ d)  : ∀ (v1 : Int32) (v2 : Int32) (v3 : Int32) (s0 : Int32) (μ : xe_Mem), zT zPc μ0 μ → zK zPc μ0 δ d 62 90 [some (.ref 181), some (.int v1), some (.int v2), some (.int v3)] [.int s0] μ (zD62_90  v1 v2 v3 s0 μ) := by
  intro v1 v2 v3 s0 μ hT
  unfold zD62_90
  refine zK_cV rfl (as := [.int s0]) (rest := []) rfl rfl rfl (Nat.le_of_ble_eq_true rfl) (Nat.le_of_ble_eq_true rfl) (by decide) (fun _ => rfl) (by omega) (zD37_ok (by omega) s0 μ hT) (fun m26 T27 => ?_)
  refine zK_op rfl rfl ?_
  refine zK_op rfl rfl ?_
  refine zK_gI rfl rfl T27 ?_
  refine zK_op rfl rfl ?_
  refine zK_op rfl rfl ?_
  refine zK_pI rfl rfl T27 rfl (fun m28 T29 => ?_)
  refine zK_op rfl rfl ?_
  refine zK_op rfl rfl ?_
  refine zK_cV rfl (as := [.ref 181, .ref 1000016]) (rest := []) rfl rfl (xe_rcvO (zT_sh T29 rfl)) (Nat.le_of_ble_eq_true rfl) (Nat.le_of_ble_eq_true rfl) (by decide) (fun _ => rfl) (by omega) (zD41_ok (by omega) 1000016 m28 T29) (fun m30 T31 => ?_)
  refine zK_op rfl rfl ?_
  refine zK_op rfl rfl ?_
  refine zK_op rfl rfl ?_
  refine zK_cV rfl (as := [.ref 181, .int 0, .int 0]) (rest := []) rfl rfl (xe_rcvO (zT_sh T31 rfl)) (Nat.le_of_ble_eq_true rfl) (Nat.le_of_ble_eq_true rfl) (by decide) (fun _ => rfl) (by omega) (zE56_ok (by omega) 0 0 m30 T31) (fun m32 T33 => ?_)
  refine zK_op rfl rfl ?_
  refine zK_gRl (b := 8) rfl rfl rfl T33 ?_
  refine zK_op rfl rfl ?_
  refine zK_ifeq rfl (fun _ => ?_) (fun _ => ?_)
  · refine zK_op rfl rfl ?_
    exact zD62_111_ok hd v1 v2 v3 14 m32 T33
  refine zK_op rfl rfl ?_
  refine zK_op rfl rfl ?_
  exact zD62_111_ok hd v1 v2 v3 13 m32 T33
theorem zD62_87_ok {μ0 : xe_Mem} {δ : xe_Dy} {d : Nat} (hd : 101 ≤ d)  : ∀ (v1 : Int32) (v2 : Int32) (v3 : Int32) (μ : xe_Mem), zT zPc μ0 μ → zK zPc μ0 δ d 62 87 [some (.ref 181), some (.int v1), some (.int v2), some (.int v3)] [] μ (zD62_87  v1 v2 v3 μ) := by
  intro v1 v2 v3 μ hT
  unfold zD62_87
  refine zK_op rfl rfl ?_
  refine zK_op rfl rfl ?_
  exact zD62_90_ok hd v1 v2 v3 1 μ hT
theorem zD62_89_ok {μ0 : xe_Mem} {δ : xe_Dy} {d : Nat} (hd : 101 ≤ d)  : ∀ (v1 : Int32) (v2 : Int32) (v3 : Int32) (μ : xe_Mem), zT zPc μ0 μ → zK zPc μ0 δ d 62 89 [some (.ref 181), some (.int v1), some (.int v2), some (.int v3)] [] μ (zD62_89  v1 v2 v3 μ) := by
  intro v1 v2 v3 μ hT
  unfold zD62_89
  refine zK_op rfl rfl ?_
  exact zD62_90_ok hd v1 v2 v3 0 μ hT
theorem zD62_69_ok {μ0 : xe_Mem} {δ : xe_Dy} {d : Nat} (hd : 101 ≤ d)  : ∀ (v1 : Int32) (v2 : Int32) (s0 : Int32) (μ : xe_Mem), zT zPc μ0 μ → zK zPc μ0 δ d 62 69 [some (.ref 181), some (.int v1), some (.int v2), none] [.int s0] μ (zD62_69  v1 v2 s0 μ) := by
  intro v1 v2 s0 μ hT
  unfold zD62_69
  refine zK_op rfl rfl ?_
  refine zK_op rfl rfl ?_
  refine zK_gRl (b := 182) rfl rfl rfl hT ?_
  refine zK_gRl (b := 184) rfl rfl rfl hT ?_
  refine zK_op rfl rfl ?_
  refine zK_x (fun j22 h23 h24 h25 => ?_)
  refine zK_aI rfl rfl hT h23 h24 h25 ?_
  refine zK_op rfl rfl ?_
  refine zK_iceq rfl (fun _ => ?_) (fun _ => ?_)
  · exact zD62_87_ok hd v1 v2 s0 μ hT
  refine zK_op rfl rfl ?_
  refine zK_ifeq rfl (fun _ => ?_) (fun _ => ?_)
  · exact zD62_89_ok hd v1 v2 s0 μ hT
  refine zK_op rfl rfl ?_
  refine zK_gRs rfl rfl hT (fun b49 => ?_)
  refine zK_o (fun h50 ph50 => ?_)
  refine zK_gI rfl h50 hT ?_
  refine zK_op rfl rfl ?_
  refine zK_op rfl rfl ?_
  refine zK_op rfl rfl ?_
  refine zK_op rfl rfl ?_
  refine zK_ifeq rfl (fun _ => ?_) (fun _ => ?_)
  · exact zD62_89_ok hd v1 v2 s0 μ hT
  exact zD62_87_ok hd v1 v2 s0 μ hT
theorem zD62_53_ok {μ0 : xe_Mem} {δ : xe_Dy} {d : Nat} (hd : 101 ≤ d)  : ∀ (v1 : Int32) (μ : xe_Mem), zT zPc μ0 μ → zK zPc μ0 δ d 62 53 [some (.ref 181), some (.int v1), none, none] [] μ (zD62_53  v1 μ) := by
  intro v1 μ hT
  unfold zD62_53
  refine zK_op rfl rfl ?_
  refine zK_gRl (b := 182) rfl rfl rfl hT ?_
  refine zK_gRl (b := 185) rfl rfl rfl hT ?_
  refine zK_op rfl rfl ?_
  refine zK_x (fun j13 h14 h15 h16 => ?_)
  refine zK_aI rfl rfl hT h14 h15 h16 ?_
  refine zK_vI (fun x17 => ?_)
  refine zK_op rfl rfl ?_
  refine zK_op rfl rfl ?_
  refine zK_gRl (b := 182) rfl rfl rfl hT ?_
  refine zK_gRl (b := 184) rfl rfl rfl hT ?_
  refine zK_op rfl rfl ?_
  refine zK_x (fun j18 h19 h20 h21 => ?_)
  refine zK_aI rfl rfl hT h19 h20 h21 ?_
  refine zK_op rfl rfl ?_
  refine zK_icne rfl (fun _ => ?_) (fun _ => ?_)
  · refine zK_op rfl rfl ?_
    refine zK_op rfl rfl ?_
    exact zD62_69_ok hd v1 x17 1 μ hT
  refine zK_op rfl rfl ?_
  exact zD62_69_ok hd v1 x17 0 μ hT
theorem zD62_28_ok {μ0 : xe_Mem} {δ : xe_Dy} {d : Nat} (hd : 101 ≤ d)  : ∀ (s0 : Int32) (l1 : Option Value) (μ : xe_Mem), zT zPc μ0 μ → zK zPc μ0 δ d 62 28 [some (.ref 181), l1, none, none] [.int s0] μ (zD62_28  s0 μ) := by
  intro s0 l1 μ hT
  unfold zD62_28
  refine zK_cV rfl (as := [.int s0]) (rest := []) rfl rfl rfl (Nat.le_of_ble_eq_true rfl) (Nat.le_of_ble_eq_true rfl) (by decide) (fun _ => rfl) (by omega) (zD37_ok (by omega) s0 μ hT) (fun m53 T54 => ?_)
  refine zK_op rfl rfl ?_
  refine zK_gRl (b := 182) rfl rfl rfl T54 ?_
  refine zK_gI rfl rfl T54 ?_
  refine zK_vI (fun x55 => ?_)
  refine zK_op rfl rfl ?_
  refine zK_op rfl rfl ?_
  refine zK_gRl (b := 182) rfl rfl rfl T54 ?_
  refine zK_op rfl rfl ?_
  refine zK_gRl (b := 3) rfl rfl rfl T54 ?_
  refine zK_gRl (b := 6) rfl rfl rfl T54 ?_
  refine zK_op rfl rfl ?_
  refine zK_gI rfl rfl T54 ?_
  refine zK_x (fun j56 h57 h58 h59 => ?_)
  refine zK_aL rfl rfl T54 h57 h58 h59 ?_
  refine zK_op rfl rfl ?_
  refine zK_op rfl rfl ?_
  refine zK_gRs rfl rfl T54 (fun b60 => ?_)
  refine zK_o (fun h61 ph61 => ?_)
  refine zK_gI rfl h61 T54 ?_
  refine zK_cV rfl (as := [.ref 182, .long (xe_L m53 6 j56), .int 0, .int (xe_I m53 b60 5)]) (rest := []) rfl rfl (xe_rcvO (zT_sh T54 rfl)) (Nat.le_of_ble_eq_true rfl) (Nat.le_of_ble_eq_true rfl) (by decide) (fun _ => rfl) (by omega) (zD40_ok (by omega) 182 (xe_L m53 6 j56) 0 (xe_I m53 b60 5) m53 T54) (fun m62 T63 => ?_)
  refine zK_op rfl rfl ?_
  refine zK_gRs rfl rfl T63 (fun b64 => ?_)
  refine zK_op rfl rfl ?_
  refine zK_o (fun h65 ph65 => ?_)
  refine zK_gI rfl h65 T63 ?_
  refine zK_op rfl rfl ?_
  refine zK_op rfl rfl ?_
  refine zK_pI rfl h65 T63 ph65 (fun m66 T67 => ?_)
  exact zD62_53_ok hd x55 m66 T67
theorem zD62_7_ok {μ0 : xe_Mem} {δ : xe_Dy} {d : Nat} (hd : 101 ≤ d)  : ∀ (s0 : Int32) (μ : xe_Mem), zT zPc μ0 μ → zK zPc μ0 δ d 62 7 [some (.ref 181), none, none, none] [.int s0] μ (zD62_7  s0 μ) := by
  intro s0 μ hT
  unfold zD62_7
  refine zK_cV rfl (as := [.int s0]) (rest := []) rfl rfl rfl (Nat.le_of_ble_eq_true rfl) (Nat.le_of_ble_eq_true rfl) (by decide) (fun _ => rfl) (by omega) (zD37_ok (by omega) s0 μ hT) (fun m4 T5 => ?_)
  refine zK_op rfl rfl ?_
  refine zK_gRl (b := 182) rfl rfl rfl T5 ?_
  refine zK_op rfl rfl ?_
  refine zK_gRl (b := 3) rfl rfl rfl T5 ?_
  refine zK_gRl (b := 6) rfl rfl rfl T5 ?_
  refine zK_op rfl rfl ?_
  refine zK_gI rfl rfl T5 ?_
  refine zK_x (fun j6 h7 h8 h9 => ?_)
  refine zK_aL rfl rfl T5 h7 h8 h9 ?_
  refine zK_cI rfl (as := [.ref 182, .long (xe_L m4 6 j6)]) (rest := []) rfl rfl (xe_rcvO (zT_sh T5 rfl)) (Nat.le_of_ble_eq_true rfl) (Nat.le_of_ble_eq_true rfl) (by decide) (fun _ => rfl) (by omega) (zD39_ok (by omega) 182 (xe_L m4 6 j6) m4 T5) (fun x12 m10 T11 => ?_)
  refine zK_op rfl rfl ?_
  refine zK_op rfl rfl ?_
  refine zK_ifge rfl (fun _ => ?_) (fun _ => ?_)
  · exact zD62_53_ok hd x12 m10 T11
  refine zK_op rfl rfl ?_
  refine zK_gRs rfl rfl T11 (fun b51 => ?_)
  refine zK_o (fun h52 ph52 => ?_)
  refine zK_gI rfl h52 T11 ?_
  refine zK_op rfl rfl ?_
  refine zK_icne rfl (fun _ => ?_) (fun _ => ?_)
  · refine zK_op rfl rfl ?_
    refine zK_op rfl rfl ?_
    exact zD62_28_ok hd 1 _ m10 T11
  refine zK_op rfl rfl ?_
  exact zD62_28_ok hd 0 _ m10 T11
theorem zD62_ok {μ0 : xe_Mem} {δ : xe_Dy} {d : Nat} (hd : 101 ≤ d) (μ : xe_Mem) (hT : zT zPc μ0 μ) : zK zPc μ0 δ d 62 0 (xe_init [.ref 181] (xM_L 62)) [] μ (zD62 μ) := by
  unfold zD62
  show zK zPc μ0 δ d 62 0 [some (.ref 181), none, none, none] [] μ _
  refine zK_op rfl rfl ?_
  refine zK_op rfl rfl ?_
  refine zK_cI rfl (as := [.ref 181, .ref 1000026]) (rest := []) rfl rfl (xe_rcvO (zT_sh hT rfl)) (Nat.le_of_ble_eq_true rfl) (Nat.le_of_ble_eq_true rfl) (by decide) (fun _ => rfl) (by omega) (zD35_ok (by omega) 1000026 μ hT) (fun x3 m1 T2 => ?_)
  refine zK_ifne rfl (fun _ => ?_) (fun _ => ?_)
  · refine zK_op rfl rfl ?_
    refine zK_op rfl rfl ?_
    exact zD62_7_ok hd 1 m1 T2
  refine zK_op rfl rfl ?_
  exact zD62_7_ok hd 0 m1 T2
/-! 54 LogicalTimes$Reader.readStatement(I)I -/
def zD54_7 (f53 : Int32 → xe_Mem → zO) (v1 : Int32) (s0 : Int32) (μ : xe_Mem) : zO := zq_cV (zD37 s0 μ) fun m1 => zq_m (xe_setI m1 181 7 ((xe_I m1 181 7) + 1)) fun m3 => zq_m (xe_setI m3 181 8 0) fun m5 => zq_cI (zD35 1000006 m5) fun x9 m7 => if x9 = 0 then zq_cI (zD35 1000008 m7) fun x12 m10 => if x12 = 0 then zq_cV (zD62 m10) fun m13 => some (.inl (some (.int 1)), m13) else zq_cI (zD61 f53 v1 m10) fun x17 m15 => some (.inl (some (.int x17)), m15) else zq_cI (zD55 f53 v1 m7) fun x20 m18 => some (.inl (some (.int x20)), m18)
def zD54 (f53 : Int32 → xe_Mem → zO) (a1 : Int32) (μ : xe_Mem) : zO := if (xe_I μ 181 7) = 150 then zD54_7 f53 a1 1 μ else zD54_7 f53 a1 0 μ
theorem zD54_7_ok {μ0 : xe_Mem} {δ : xe_Dy} {d : Nat} {D0 : Nat} (hD0 : 110 ≤ D0) (hd : D0 + 2 ≤ d) {f53 : Int32 → xe_Mem → zO} (hf53 : ∀ d', D0 ≤ d' → ∀ (a1 : Int32) (μ : xe_Mem), zT zPc μ0 μ → zK zPc μ0 δ d' 53 0 (xe_init [.ref 181, .int a1] (xM_L 53)) [] μ (f53 a1 μ))  : ∀ (v1 : Int32) (s0 : Int32) (μ : xe_Mem), zT zPc μ0 μ → zK zPc μ0 δ d 54 7 [some (.ref 181), some (.int v1)] [.int s0] μ (zD54_7 f53 v1 s0 μ) := by
  intro v1 s0 μ hT
  unfold zD54_7
  refine zK_cV rfl (as := [.int s0]) (rest := []) rfl rfl rfl (Nat.le_of_ble_eq_true rfl) (Nat.le_of_ble_eq_true rfl) (by decide) (fun _ => rfl) (by omega) (zD37_ok (by omega) s0 μ hT) (fun m1 T2 => ?_)
  refine zK_op rfl rfl ?_
  refine zK_op rfl rfl ?_
  refine zK_gI rfl rfl T2 ?_
  refine zK_op rfl rfl ?_
  refine zK_op rfl rfl ?_
  refine zK_pI rfl rfl T2 rfl (fun m3 T4 => ?_)
  refine zK_op rfl rfl ?_
  refine zK_op rfl rfl ?_
  refine zK_pI rfl rfl T4 rfl (fun m5 T6 => ?_)
  refine zK_op rfl rfl ?_
  refine zK_op rfl rfl ?_
  refine zK_cI rfl (as := [.ref 181, .ref 1000006]) (rest := []) rfl rfl (xe_rcvO (zT_sh T6 rfl)) (Nat.le_of_ble_eq_true rfl) (Nat.le_of_ble_eq_true rfl) (by decide) (fun _ => rfl) (by omega) (zD35_ok (by omega) 1000006 m5 T6) (fun x9 m7 T8 => ?_)
  refine zK_ifeq rfl (fun _ => ?_) (fun _ => ?_)
  · refine zK_op rfl rfl ?_
    refine zK_op rfl rfl ?_
    refine zK_cI rfl (as := [.ref 181, .ref 1000008]) (rest := []) rfl rfl (xe_rcvO (zT_sh T8 rfl)) (Nat.le_of_ble_eq_true rfl) (Nat.le_of_ble_eq_true rfl) (by decide) (fun _ => rfl) (by omega) (zD35_ok (by omega) 1000008 m7 T8) (fun x12 m10 T11 => ?_)
    refine zK_ifeq rfl (fun _ => ?_) (fun _ => ?_)
    · refine zK_op rfl rfl ?_
      refine zK_cV rfl (as := [.ref 181]) (rest := []) rfl rfl (xe_rcvO (zT_sh T11 rfl)) (Nat.le_of_ble_eq_true rfl) (Nat.le_of_ble_eq_true rfl) (by decide) (fun _ => rfl) (by omega) (zD62_ok (by omega) m10 T11) (fun m13 T14 => ?_)
      refine zK_op rfl rfl ?_
      exact zK_ret1 rfl T14
    refine zK_op rfl rfl ?_
    refine zK_op rfl rfl ?_
    refine zK_cI rfl (as := [.ref 181, .int v1]) (rest := []) rfl rfl (xe_rcvO (zT_sh T11 rfl)) (Nat.le_of_ble_eq_true rfl) (Nat.le_of_ble_eq_true rfl) (by decide) (fun _ => rfl) (by omega) (zD61_ok hD0 (by omega) hf53 v1 m10 T11) (fun x17 m15 T16 => ?_)
    exact zK_ret1 rfl T16
  refine zK_op rfl rfl ?_
  refine zK_op rfl rfl ?_
  refine zK_cI rfl (as := [.ref 181, .int v1]) (rest := []) rfl rfl (xe_rcvO (zT_sh T8 rfl)) (Nat.le_of_ble_eq_true rfl) (Nat.le_of_ble_eq_true rfl) (by decide) (fun _ => rfl) (by omega) (zD55_ok hD0 (by omega) hf53 v1 m7 T8) (fun x20 m18 T19 => ?_)
  exact zK_ret1 rfl T19
theorem zD54_ok {μ0 : xe_Mem} {δ : xe_Dy} {d : Nat} {D0 : Nat} (hD0 : 110 ≤ D0) (hd : D0 + 2 ≤ d) {f53 : Int32 → xe_Mem → zO} (hf53 : ∀ d', D0 ≤ d' → ∀ (a1 : Int32) (μ : xe_Mem), zT zPc μ0 μ → zK zPc μ0 δ d' 53 0 (xe_init [.ref 181, .int a1] (xM_L 53)) [] μ (f53 a1 μ)) (a1 : Int32) (μ : xe_Mem) (hT : zT zPc μ0 μ) : zK zPc μ0 δ d 54 0 (xe_init [.ref 181, .int a1] (xM_L 54)) [] μ (zD54 f53 a1 μ) := by
  unfold zD54
  show zK zPc μ0 δ d 54 0 [some (.ref 181), some (.int a1)] [] μ _
  refine zK_op rfl rfl ?_
  refine zK_gI rfl rfl hT ?_
  refine zK_op rfl rfl ?_
  refine zK_icne rfl (fun _ => ?_) (fun _ => ?_)
  · refine zK_op rfl rfl ?_
    refine zK_op rfl rfl ?_
    exact zD54_7_ok hD0 hd hf53 a1 1 μ hT
  refine zK_op rfl rfl ?_
  exact zD54_7_ok hD0 hd hf53 a1 0 μ hT
