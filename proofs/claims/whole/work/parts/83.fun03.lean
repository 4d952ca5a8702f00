/-! methods as functions (by wip/whole/gen/dec.py) -/
/-! 53 LogicalTimes$Reader.readBlock(I)I -/
def zD53_37 (f53 : Int32 → xe_Mem → zO) (v2 : Int32) (s0 : Int32) (μ : xe_Mem) : zO := zq_cV (zD37 s0 μ) fun m5 => zq_cV (zD41 1000013 m5) fun m7 => some (.inl (some (.int v2)), m7)
def zD53_36 (f53 : Int32 → xe_Mem → zO) (v2 : Int32) (μ : xe_Mem) : zO := zD53_37 f53 v2 0 μ
def zD53_29 (f53 : Int32 → xe_Mem → zO) (v1 : Int32) (v2 : Int32) (μ : xe_Mem) : zO := if v1 = 0 then if v2 ≤ 200 then zD53_36 f53 v2 μ else zD53_37 f53 v2 1 μ else zD53_36 f53 v2 μ
def zD53_14_b (f53 : Int32 → xe_Mem → zO) (c14 : Int32 → Int32 → Int32 → xe_Mem → zO) (v1 : Int32) (v2 : Int32) (v3 : Int32) (μ : xe_Mem) : zO := if 150 < v3 then zD53_29 f53 v1 v2 μ else zq_cI (zD35 1000013 μ) fun x11 m9 => if x11 = 0 then zq_cI (zD54 f53 v1 m9) fun x14 m12 => zq_vI (v2 + x14) fun x15 => c14 v1 x15 (v3 + (1)) m12 else zD53_29 f53 v1 v2 m9
def zD53_14 (f53 : Int32 → xe_Mem → zO)  : Nat → Int32 → Int32 → Int32 → xe_Mem → zO
  | 0 => fun _ _ _ _  => none
  | n + 1 => zD53_14_b f53  (zD53_14 f53  n)
def zD53_6 (f53 : Int32 → xe_Mem → zO) (v1 : Int32) (s0 : Int32) (μ : xe_Mem) : zO := zq_cV (zD37 s0 μ) fun m1 => zq_cV (zD41 1000012 m1) fun m3 => zD53_14 f53 zfu v1 0 0 m3
def zD53 (f53 : Int32 → xe_Mem → zO) (a1 : Int32) (μ : xe_Mem) : zO := if a1 ≤ 5 then zD53_6 f53 a1 0 μ else zD53_6 f53 a1 1 μ
theorem zD53_37_ok {μ0 : xe_Mem} {δ : xe_Dy} {d : Nat} {D0 : Nat} (hD0 : 110 ≤ D0) (hd : D0 + 3 ≤ d) {f53 : Int32 → xe_Mem → zO} (hf53 : ∀ d', D0 ≤ d' → ∀ (a1 : Int32) (μ : xe_Mem), zT zPc μ0 μ → zK zPc μ0 δ d' 53 0 (xe_init [.ref 181, .int a1] (xM_L 53)) [] μ (f53 a1 μ))  : ∀ (v2 : Int32) (s0 : Int32) (l1 : Option Value) (l3 : Option Value) (μ : xe_Mem), zT zPc μ0 μ → zK zPc μ0 δ d 53 37 [some (.ref 181), l1, some (.int v2), l3] [.int s0] μ (zD53_37 f53 v2 s0 μ) := by
  intro v2 s0 l1 l3 μ hT
  unfold zD53_37
  refine zK_cV rfl (as := [.int s0]) (rest := []) rfl rfl rfl (Nat.le_of_ble_eq_true rfl) (Nat.le_of_ble_eq_true rfl) (by decide) (fun _ => rfl) (by omega) (zD37_ok (by omega) s0 μ hT) (fun m5 T6 => ?_)
  refine zK_op rfl rfl ?_
  refine zK_op rfl rfl ?_
  refine zK_cV rfl (as := [.ref 181, .ref 1000013]) (rest := []) rfl rfl (xe_rcvO (zT_sh T6 rfl)) (Nat.le_of_ble_eq_true rfl) (Nat.le_of_ble_eq_true rfl) (by decide) (fun _ => rfl) (by omega) (zD41_ok (by omega) 1000013 m5 T6) (fun m7 T8 => ?_)
  refine zK_op rfl rfl ?_
  exact zK_ret1 rfl T8
theorem zD53_36_ok {μ0 : xe_Mem} {δ : xe_Dy} {d : Nat} {D0 : Nat} (hD0 : 110 ≤ D0) (hd : D0 + 3 ≤ d) {f53 : Int32 → xe_Mem → zO} (hf53 : ∀ d', D0 ≤ d' → ∀ (a1 : Int32) (μ : xe_Mem), zT zPc μ0 μ → zK zPc μ0 δ d' 53 0 (xe_init [.ref 181, .int a1] (xM_L 53)) [] μ (f53 a1 μ))  : ∀ (v2 : Int32) (l1 : Option Value) (l3 : Option Value) (μ : xe_Mem), zT zPc μ0 μ → zK zPc μ0 δ d 53 36 [some (.ref 181), l1, some (.int v2), l3] [] μ (zD53_36 f53 v2 μ) := by
  intro v2 l1 l3 μ hT
  unfold zD53_36
  refine zK_op rfl rfl ?_
  exact zD53_37_ok hD0 hd hf53 v2 0 _ _ μ hT
theorem zD53_29_ok {μ0 : xe_Mem} {δ : xe_Dy} {d : Nat} {D0 : Nat} (hD0 : 110 ≤ D0) (hd : D0 + 3 ≤ d) {f53 : Int32 → xe_Mem → zO} (hf53 : ∀ d', D0 ≤ d' → ∀ (a1 : Int32) (μ : xe_Mem), zT zPc μ0 μ → zK zPc μ0 δ d' 53 0 (xe_init [.ref 181, .int a1] (xM_L 53)) [] μ (f53 a1 μ))  : ∀ (v1 : Int32) (v2 : Int32) (l3 : Option Value) (μ : xe_Mem), zT zPc μ0 μ → zK zPc μ0 δ d 53 29 [some (.ref 181), some (.int v1), some (.int v2), l3] [] μ (zD53_29 f53 v1 v2 μ) := by
  intro v1 v2 l3 μ hT
  unfold zD53_29
  refine zK_op rfl rfl ?_
  refine zK_ifne rfl (fun _ => ?_) (fun _ => ?_)
  · refine zK_op rfl rfl ?_
    refine zK_op rfl rfl ?_
    refine zK_icle rfl (fun _ => ?_) (fun _ => ?_)
    · exact zD53_36_ok hD0 hd hf53 v2 _ _ μ hT
    refine zK_op rfl rfl ?_
    refine zK_op rfl rfl ?_
    exact zD53_37_ok hD0 hd hf53 v2 1 _ _ μ hT
  exact zD53_36_ok hD0 hd hf53 v2 _ _ μ hT
theorem zD53_14_bok {μ0 : xe_Mem} {δ : xe_Dy} {d : Nat} {D0 : Nat} (hD0 : 110 ≤ D0) (hd : D0 + 3 ≤ d) {f53 : Int32 → xe_Mem → zO} (hf53 : ∀ d', D0 ≤ d' → ∀ (a1 : Int32) (μ : xe_Mem), zT zPc μ0 μ → zK zPc μ0 δ d' 53 0 (xe_init [.ref 181, .int a1] (xM_L 53)) [] μ (f53 a1 μ))  {c14 : Int32 → Int32 → Int32 → xe_Mem → zO} (hc14 : ∀ (v1 : Int32) (v2 : Int32) (v3 : Int32) (μ : xe_Mem), zT zPc μ0 μ → zK zPc μ0 δ d 53 14 [some (.ref 181), some (.int v1), some (.int v2), some (.int v3)] [] μ (c14 v1 v2 v3 μ)) : ∀ (v1 : Int32) (v2 : Int32) (v3 : Int32) (μ : xe_Mem), zT zPc μ0 μ → zK zPc μ0 δ d 53 14 [some (.ref 181), some (.int v1), some (.int v2), some (.int v3)] [] μ (zD53_14_b f53 c14 v1 v2 v3 μ) := by
  intro v1 v2 v3 μ hT
  unfold zD53_14_b
  refine zK_op rfl rfl ?_
  refine zK_op rfl rfl ?_
  refine zK_icgt rfl (fun _ => ?_) (fun _ => ?_)
  · exact zD53_29_ok hD0 hd hf53 v1 v2 _ μ hT
  refine zK_op rfl rfl ?_
  refine zK_op rfl rfl ?_
  refine zK_cI rfl (as := [.ref 181, .ref 1000013]) (rest := []) rfl rfl (xe_rcvO (zT_sh hT rfl)) (Nat.le_of_ble_eq_true rfl) (Nat.le_of_ble_eq_true rfl) (by decide) (fun _ => rfl) (by omega) (zD35_ok (by omega) 1000013 μ hT) (fun x11 m9 T10 => ?_)
  refine zK_ifne rfl (fun _ => ?_) (fun _ => ?_)
  · refine zK_op rfl rfl ?_
    refine zK_op rfl rfl ?_
    refine zK_op rfl rfl ?_
    refine zK_cI rfl (as := [.ref 181, .int v1]) (rest := [.int v2]) rfl rfl (xe_rcvO (zT_sh T10 rfl)) (Nat.le_of_ble_eq_true rfl) (Nat.le_of_ble_eq_true rfl) (by decide) (fun _ => rfl) (by omega) (zD54_ok hD0 (by omega) hf53 v1 m9 T10) (fun x14 m12 T13 => ?_)
    refine zK_op rfl rfl ?_
    refine zK_vI (fun x15 => ?_)
    refine zK_op rfl rfl ?_
    refine zK_op rfl rfl ?_
    refine zK_op rfl rfl ?_
    exact hc14 v1 x15 (v3 + (1)) m12 T13
  exact zD53_29_ok hD0 hd hf53 v1 v2 _ m9 T10
theorem zD53_14_ok {μ0 : xe_Mem} {δ : xe_Dy} {d : Nat} {D0 : Nat} (hD0 : 110 ≤ D0) (hd : D0 + 3 ≤ d) {f53 : Int32 → xe_Mem → zO} (hf53 : ∀ d', D0 ≤ d' → ∀ (a1 : Int32) (μ : xe_Mem), zT zPc μ0 μ → zK zPc μ0 δ d' 53 0 (xe_init [.ref 181, .int a1] (xM_L 53)) [] μ (f53 a1 μ))  : ∀ n : Nat, ∀ (v1 : Int32) (v2 : Int32) (v3 : Int32) (μ : xe_Mem), zT zPc μ0 μ → zK zPc μ0 δ d 53 14 [some (.ref 181), some (.int v1), some (.int v2), some (.int v3)] [] μ (zD53_14 f53 n v1 v2 v3 μ) := by
  intro n
  induction n with
  | zero => exact fun _ _ _ _ _  => fun o μ' h => by cases h
  | succ n ih => exact zD53_14_bok hD0 hd hf53  ih
theorem zD53_6_ok {μ0 : xe_Mem} {δ : xe_Dy} {d : Nat} {D0 : Nat} (hD0 : 110 ≤ D0) (hd : D0 + 3 ≤ d) {f53 : Int32 → xe_Mem → zO} (hf53 : ∀ d', D0 ≤ d' → ∀ (a1 : Int32) (μ : xe_Mem), zT zPc μ0 μ → zK zPc μ0 δ d' 53 0 (xe_init [.ref 181, .int a1] (xM_L 53)) [] μ (f53 a1 μ))  : ∀ (v1 : Int32) (s0 : Int32) (μ : xe_Mem), zT zPc μ0 μ → zK zPc μ0 δ d 53 6 [some (.ref 181), some (.int v1), none, none] [.int s0] μ (zD53_6 f53 v1 s0 μ) := by
  intro v1 s0 μ hT
  unfold zD53_6
  refine zK_cV rfl (as := [.int s0]) (rest := []) rfl rfl rfl (Nat.le_of_ble_eq_true rfl) (Nat.le_of_ble_eq_true rfl) (by decide) (fun _ => rfl) (by omega) (zD37_ok (by omega) s0 μ hT) (fun m1 T2 => ?_)
  refine zK_op rfl rfl ?_
  refine zK_op rfl rfl ?_
  refine zK_cV rfl (as := [.ref 181, .ref 1000012]) (rest := []) rfl rfl (xe_rcvO (zT_sh T2 rfl)) (Nat.le_of_ble_eq_true rfl) (Nat.le_of_ble_eq_true rfl) (by decide) (fun _ => rfl) (by omega) (zD41_ok (by omega) 1000012 m1 T2) (fun m3 T4 => ?_)
  refine zK_op rfl rfl ?_
  refine zK_op rfl rfl ?_
  refine zK_op rfl rfl ?_
  refine zK_op rfl rfl ?_
  exact zD53_14_ok hD0 hd hf53 zfu v1 0 0 m3 T4
theorem zD53_ok {μ0 : xe_Mem} {δ : xe_Dy} {d : Nat} {D0 : Nat} (hD0 : 110 ≤ D0) (hd : D0 + 3 ≤ d) {f53 : Int32 → xe_Mem → zO} (hf53 : ∀ d', D0 ≤ d' → ∀ (a1 : Int32) (μ : xe_Mem), zT zPc μ0 μ → zK zPc μ0 δ d' 53 0 (xe_init [.ref 181, .int a1] (xM_L 53)) [] μ (f53 a1 μ)) (a1 : Int32) (μ : xe_Mem) (hT : zT zPc μ0 μ) : zK zPc μ0 δ d 53 0 (xe_init [.ref 181, .int a1] (xM_L 53)) [] μ (zD53 f53 a1 μ) := by
  unfold zD53
  show zK zPc μ0 δ d 53 0 [some (.ref 181), some (.int a1), none, none] [] μ _
  refine zK_op rfl rfl ?_
  refine zK_op rfl rfl ?_
  refine zK_icle rfl (fun _ => ?_) (fun _ => ?_)
  · refine zK_op rfl rfl ?_
    exact zD53_6_ok hD0 hd hf53 a1 0 μ hT
  refine zK_op rfl rfl ?_
  refine zK_op rfl rfl ?_
  exact zD53_6_ok hD0 hd hf53 a1 1 μ hT
/-! readBlock in readBlock -/
def zKB : Nat → Int32 → xe_Mem → zO
  | 0 => fun _ _ => none
  | n + 1 => zD53 (zKB n)
def zE53 : Int32 → xe_Mem → zO := zKB 10
theorem zKB_ok {μ0 : xe_Mem} {δ : xe_Dy} : ∀ n : Nat, ∀ d', 110 + 3 * n ≤ d' → ∀ (a1 : Int32) (μ : xe_Mem), zT zPc μ0 μ → zK zPc μ0 δ d' 53 0 (xe_init [.ref 181, .int a1] (xM_L 53)) [] μ (zKB n a1 μ) := by
  intro n
  induction n with
  | zero => exact fun _ _ _ _ _ => zK_no
  | succ n ih => exact fun d' hd a1 μ hT => zD53_ok (D0 := 110 + 3 * n) (by omega) (by omega) ih a1 μ hT
theorem zE53_ok {μ0 : xe_Mem} {δ : xe_Dy} {d : Nat} (hd : 150 ≤ d) (a1 : Int32) (μ : xe_Mem) (hT : zT zPc μ0 μ) : zK zPc μ0 δ d 53 0 (xe_init [.ref 181, .int a1] (xM_L 53)) [] μ (zE53 a1 μ) := zKB_ok 10 d (by omega) a1 μ hT
/-! 47 LogicalTimes$Reader.readTask()V -/
def zD47_8 (s0 : Int32) (μ : xe_Mem) : zO := zq_cV (zD37 s0 μ) fun m3 => zq_m (xe_setI m3 181 6 ((xe_I m3 181 6) + 1)) fun m5 => zq_cV (zD38 190 0 0 m5) fun m7 => zq_cI (zD48 0 m7) fun x11 m9 => zq_cV (zD41 1000005 m9) fun m12 => zq_s (xe_R m12 181 10) fun b14 => zq_cI (zD42 0 3 m12) fun x17 m15 => zq_cR (zD50 b14 x17 x11 m15) fun x20 m18 => zq_m (xe_setR m18 181 11 (some x20)) fun m21 => zq_cV (zD52 m21) fun m23 => zq_m (xe_setI m23 181 9 0) fun m25 => zq_s (xe_R m25 181 11) fun b27 => zq_o b27 8 <| zq_m (xe_setI m25 b27 8 (xe_I m25 8 2)) fun m29 => zq_s (xe_R m29 181 11) fun b31 => zq_cI (zE53 0 m29) fun x34 m32 => zq_o b31 8 <| zq_m (xe_setI m32 b31 4 x34) fun m36 => zq_s (xe_R m36 181 11) fun b38 => zq_o b38 8 <| zq_m (xe_setI m36 b38 9 (xe_I m36 8 2)) fun m40 => zq_s (xe_R m40 181 11) fun b42 => zq_o b42 8 <| zq_m (xe_setI m40 b42 7 (xe_I m40 181 9)) fun m44 => zq_s (xe_R m44 181 10) fun b46 => zq_o b46 2 <| zq_s (xe_R m44 181 11) fun b48 => zq_o b48 8 <| zq_m (xe_setI m44 b46 4 ((xe_I m44 b46 4) ||| (xe_I m44 b48 6))) fun m50 => some (.inl none, m50)
def zD47   (μ : xe_Mem) : zO := zq_s (xe_R μ 181 10) fun b1 => zq_o b1 2 <| if (xe_I μ b1 3) = 6 then zD47_8 1 μ else zD47_8 0 μ
theorem zD47_8_ok {μ0 : xe_Mem} {δ : xe_Dy} {d : Nat} (hd : 151 ≤ d)  : ∀ (s0 : Int32) (μ : xe_Mem), zT zPc μ0 μ → zK zPc μ0 δ d 47 8 [some (.ref 181), none] [.int s0] μ (zD47_8  s0 μ) := by
  intro s0 μ hT
  unfold zD47_8
  refine zK_cV rfl (as := [.int s0]) (rest := []) rfl rfl rfl (Nat.le_of_ble_eq_true rfl) (Nat.le_of_ble_eq_true rfl) (by decide) (fun _ => rfl) (by omega) (zD37_ok (by omega) s0 μ hT) (fun m3 T4 => ?_)
  refine zK_op rfl rfl ?_
  refine zK_op rfl rfl ?_
  refine zK_gI rfl rfl T4 ?_
  refine zK_op rfl rfl ?_
  refine zK_op rfl rfl ?_
  refine zK_pI rfl rfl T4 rfl (fun m5 T6 => ?_)
  refine zK_op rfl rfl ?_
  refine zK_op rfl rfl ?_
  refine zK_gRl (b := 190) rfl rfl rfl T6 ?_
  refine zK_op rfl rfl ?_
  refine zK_op rfl rfl ?_
  refine zK_cV rfl (as := [.ref 181, .ref 190, .int 0, .int 0]) (rest := []) rfl rfl (xe_rcvO (zT_sh T6 rfl)) (Nat.le_of_ble_eq_true rfl) (Nat.le_of_ble_eq_true rfl) (by decide) (fun _ => rfl) (by omega) (zD38_ok (by omega) 190 0 0 m5 T6) (fun m7 T8 => ?_)
  refine zK_op rfl rfl ?_
  refine zK_op rfl rfl ?_
  refine zK_cI rfl (as := [.ref 181, .int 0]) (rest := []) rfl rfl (xe_rcvO (zT_sh T8 rfl)) (Nat.le_of_ble_eq_true rfl) (Nat.le_of_ble_eq_true rfl) (by decide) (fun _ => rfl) (by omega) (zD48_ok (by omega) 0 m7 T8) (fun x11 m9 T10 => ?_)
  refine zK_op rfl rfl ?_
  refine zK_op rfl rfl ?_
  refine zK_op rfl rfl ?_
  refine zK_cV rfl (as := [.ref 181, .ref 1000005]) (rest := []) rfl rfl (xe_rcvO (zT_sh T10 rfl)) (Nat.le_of_ble_eq_true rfl) (Nat.le_of_ble_eq_true rfl) (by decide) (fun _ => rfl) (by omega) (zD41_ok (by omega) 1000005 m9 T10) (fun m12 T13 => ?_)
  refine zK_op rfl rfl ?_
  refine zK_op rfl rfl ?_
  refine zK_gRl (b := 7) rfl rfl rfl T13 ?_
  refine zK_op rfl rfl ?_
  refine zK_gRs rfl rfl T13 (fun b14 => ?_)
  refine zK_op rfl rfl ?_
  refine zK_op rfl rfl ?_
  refine zK_op rfl rfl ?_
  refine zK_cI rfl (as := [.ref 181, .int 0, .int 3]) (rest := [.ref b14, .ref 7, .ref 181]) rfl rfl (xe_rcvO (zT_sh T13 rfl)) (Nat.le_of_ble_eq_true rfl) (Nat.le_of_ble_eq_true rfl) (by decide) (fun _ => rfl) (by omega) (zD42_ok (by omega) 0 3 m12 T13) (fun x17 m15 T16 => ?_)
  refine zK_op rfl rfl ?_
  refine zK_cR rfl (as := [.ref 7, .ref b14, .int x17, .int x11]) (rest := [.ref 181]) rfl rfl (xe_rcvO (zT_sh T16 rfl)) (Nat.le_of_ble_eq_true rfl) (Nat.le_of_ble_eq_true rfl) (by decide) (fun _ => rfl) (by omega) (zD50_ok (by omega) b14 x17 x11 m15 T16) (fun x20 m18 T19 => ?_)
  refine zK_pR rfl rfl rfl T19 rfl (fun m21 T22 => ?_)
  refine zK_op rfl rfl ?_
  refine zK_cV rfl (as := [.ref 181]) (rest := []) rfl rfl (xe_rcvO (zT_sh T22 rfl)) (Nat.le_of_ble_eq_true rfl) (Nat.le_of_ble_eq_true rfl) (by decide) (fun _ => rfl) (by omega) (zD52_ok (by omega) m21 T22) (fun m23 T24 => ?_)
  refine zK_op rfl rfl ?_
  refine zK_op rfl rfl ?_
  refine zK_pI rfl rfl T24 rfl (fun m25 T26 => ?_)
  refine zK_op rfl rfl ?_
  refine zK_gRs rfl rfl T26 (fun b27 => ?_)
  refine zK_op rfl rfl ?_
  refine zK_gRl (b := 8) rfl rfl rfl T26 ?_
  refine zK_gI rfl rfl T26 ?_
  refine zK_o (fun h28 ph28 => ?_)
  refine zK_pI rfl h28 T26 ph28 (fun m29 T30 => ?_)
  refine zK_op rfl rfl ?_
  refine zK_gRs rfl rfl T30 (fun b31 => ?_)
  refine zK_op rfl rfl ?_
  refine zK_op rfl rfl ?_
  refine zK_cI rfl (as := [.ref 181, .int 0]) (rest := [.ref b31]) rfl rfl (xe_rcvO (zT_sh T30 rfl)) (Nat.le_of_ble_eq_true rfl) (Nat.le_of_ble_eq_true rfl) (by decide) (fun _ => rfl) (by omega) (zE53_ok (by omega) 0 m29 T30) (fun x34 m32 T33 => ?_)
  refine zK_o (fun h35 ph35 => ?_)
  refine zK_pI rfl h35 T33 ph35 (fun m36 T37 => ?_)
  refine zK_op rfl rfl ?_
  refine zK_gRs rfl rfl T37 (fun b38 => ?_)
  refine zK_op rfl rfl ?_
  refine zK_gRl (b := 8) rfl rfl rfl T37 ?_
  refine zK_gI rfl rfl T37 ?_
  refine zK_o (fun h39 ph39 => ?_)
  refine zK_pI rfl h39 T37 ph39 (fun m40 T41 => ?_)
  refine zK_op rfl rfl ?_
  refine zK_gRs rfl rfl T41 (fun b42 => ?_)
  refine zK_op rfl rfl ?_
  refine zK_gI rfl rfl T41 ?_
  refine zK_o (fun h43 ph43 => ?_)
  refine zK_pI rfl h43 T41 ph43 (fun m44 T45 => ?_)
  refine zK_op rfl rfl ?_
  refine zK_gRs rfl rfl T45 (fun b46 => ?_)
  refine zK_op rfl rfl ?_
  refine zK_o (fun h47 ph47 => ?_)
  refine zK_gI rfl h47 T45 ?_
  refine zK_op rfl rfl ?_
  refine zK_gRs rfl rfl T45 (fun b48 => ?_)
  refine zK_o (fun h49 ph49 => ?_)
  refine zK_gI rfl h49 T45 ?_
  refine zK_op rfl rfl ?_
  refine zK_pI rfl h47 T45 ph47 (fun m50 T51 => ?_)
  exact zK_ret0 rfl T51
theorem zD47_ok {μ0 : xe_Mem} {δ : xe_Dy} {d : Nat} (hd : 151 ≤ d) (μ : xe_Mem) (hT : zT zPc μ0 μ) : zK zPc μ0 δ d 47 0 (xe_init [.ref 181] (xM_L 47)) [] μ (zD47 μ) := by
  unfold zD47
  show zK zPc μ0 δ d 47 0 [some (.ref 181), none] [] μ _
  refine zK_op rfl rfl ?_
  refine zK_gRs rfl rfl hT (fun b1 => ?_)
  refine zK_o (fun h2 ph2 => ?_)
  refine zK_gI rfl h2 hT ?_
  refine zK_op rfl rfl ?_
  refine zK_icne rfl (fun _ => ?_) (fun _ => ?_)
  · refine zK_op rfl rfl ?_
    refine zK_op rfl rfl ?_
    exact zD47_8_ok hd 1 μ hT
  refine zK_op rfl rfl ?_
  exact zD47_8_ok hd 0 μ hT
/-! 64 LogicalTimes$Mode.addExit()LLogicalTimes$Exit; -/
def zD64  (a0 : Nat) (μ : xe_Mem) : zO := zq_o a0 2 <| zq_s (xe_R μ a0 5) fun b2 => zq_a b2 6 fun N4 => zq_x (xe_I μ a0 6) N4 fun j5 => zq_s (xe_R μ b2 j5) fun b9 => zq_m (xe_setI μ a0 6 ((xe_I μ a0 6) + 1)) fun m10 => some (.inl (some (.ref b9)), m10)
theorem zD64_ok {μ0 : xe_Mem} {δ : xe_Dy} {d : Nat} (hd : 0 ≤ d) (a0 : Nat) (μ : xe_Mem) (hT : zT zPc μ0 μ) : zK zPc μ0 δ d 64 0 (xe_init [.ref a0] (xM_L 64)) [] μ (zD64 a0 μ) := by
  unfold zD64
  show zK zPc μ0 δ d 64 0 [some (.ref a0), none] [] μ _
  refine zK_op rfl rfl ?_
  refine zK_o (fun h1 ph1 => ?_)
  refine zK_gRs rfl h1 hT (fun b2 => ?_)
  refine zK_op rfl rfl ?_
  refine zK_gI rfl h1 hT ?_
  refine zK_a (fun N4 h3 ph3 => ?_)
  refine zK_x (fun j5 h6 h7 h8 => ?_)
  refine zK_aR rfl h3 hT h6 h7 h8 (fun b9 => ?_)
  refine zK_op rfl rfl ?_
  refine zK_op rfl rfl ?_
  refine zK_op rfl rfl ?_
  refine zK_gI rfl h1 hT ?_
  refine zK_op rfl rfl ?_
  refine zK_op rfl rfl ?_
  refine zK_pI rfl h1 hT ph1 (fun m10 T11 => ?_)
  refine zK_op rfl rfl ?_
  exact zK_ret4 rfl T11
/-! 63 LogicalTimes$Reader.readSwitch()V -/
def zD63_8 (s0 : Int32) (μ : xe_Mem) : zO := zq_cV (zD37 s0 μ) fun m3 => zq_m (xe_setI m3 181 6 ((xe_I m3 181 6) + 1)) fun m5 => zq_s (xe_R m5 181 10) fun b7 => zq_o b7 2 <| zq_cR (zD64 b7 m5) fun x11 m9 => zq_cI (zD48 1 m9) fun x14 m12 => zq_o x11 1 <| zq_m (xe_setI m12 x11 0 x14) fun m16 => zq_cV (zD41 1000006 m16) fun m18 => zq_cV (zD52 m18) fun m20 => zq_m (xe_setI m20 181 8 0) fun m22 => zq_m (xe_setI m22 x11 1 (xe_I m22 8 2)) fun m24 => zq_cV (zE56 0 0 m24) fun m26 => zq_m (xe_setI m26 x11 2 (xe_I m26 8 2)) fun m28 => zq_cV (zD41 1000010 m28) fun m30 => zq_m (xe_setI m30 x11 3 (xe_I m30 181 6)) fun m32 => zq_cV (zD41 1000026 m32) fun m34 => zq_cV (zD41 1000014 m34) fun m36 => some (.inl none, m36)
def zD63   (μ : xe_Mem) : zO := zq_s (xe_R μ 181 10) fun b1 => zq_o b1 2 <| if (xe_I μ b1 6) = 4 then zD63_8 1 μ else zD63_8 0 μ
theorem zD63_8_ok {μ0 : xe_Mem} {δ : xe_Dy} {d : Nat} (hd : 101 ≤ d)  : ∀ (s0 : Int32) (μ : xe_Mem), zT zPc μ0 μ → zK zPc μ0 δ d 63 8 [some (.ref 181), none] [.int s0] μ (zD63_8  s0 μ) := by
  intro s0 μ hT
  unfold zD63_8
  refine zK_cV rfl (as := [.int s0]) (rest := []) rfl rfl rfl (Nat.le_of_ble_eq_true rfl) (Nat.le_of_ble_eq_true rfl) (by decide) (fun _ => rfl) (by omega) (zD37_ok (by omega) s0 μ hT) (fun m3 T4 => ?_)
  refine zK_op rfl rfl ?_
  refine zK_op rfl rfl ?_
  refine zK_gI rfl rfl T4 ?_
  refine zK_op rfl rfl ?_
  refine zK_op rfl rfl ?_
  refine zK_pI rfl rfl T4 rfl (fun m5 T6 => ?_)
  refine zK_op rfl rfl ?_
  refine zK_gRs rfl rfl T6 (fun b7 => ?_)
  refine zK_o (fun h8 ph8 => ?_)
  refine zK_cR rfl (as := [.ref b7]) (rest := []) rfl rfl (xe_rcvO (zT_sh T6 h8)) (Nat.le_of_ble_eq_true rfl) (Nat.le_of_ble_eq_true rfl) (by decide) (fun _ => rfl) (by omega) (zD64_ok (by omega) b7 m5 T6) (fun x11 m9 T10 => ?_)
  refine zK_op rfl rfl ?_
  refine zK_op rfl rfl ?_
  refine zK_op rfl rfl ?_
  refine zK_op rfl rfl ?_
  refine zK_cI rfl (as := [.ref 181, .int 1]) (rest := [.ref x11]) rfl rfl (xe_rcvO (zT_sh T10 rfl)) (Nat.le_of_ble_eq_true rfl) (Nat.le_of_ble_eq_true rfl) (by decide) (fun _ => rfl) (by omega) (zD48_ok (by omega) 1 m9 T10) (fun x14 m12 T13 => ?_)
  refine zK_o (fun h15 ph15 => ?_)
  refine zK_pI rfl h15 T13 ph15 (fun m16 T17 => ?_)
  refine zK_op rfl rfl ?_
  refine zK_op rfl rfl ?_
  refine zK_cV rfl (as := [.ref 181, .ref 1000006]) (rest := []) rfl rfl (xe_rcvO (zT_sh T17 rfl)) (Nat.le_of_ble_eq_true rfl) (Nat.le_of_ble_eq_true rfl) (by decide) (fun _ => rfl) (by omega) (zD41_ok (by omega) 1000006 m16 T17) (fun m18 T19 => ?_)
  refine zK_op rfl rfl ?_
  refine zK_cV rfl (as := [.ref 181]) (rest := []) rfl rfl (xe_rcvO (zT_sh T19 rfl)) (Nat.le_of_ble_eq_true rfl) (Nat.le_of_ble_eq_true rfl) (by decide) (fun _ => rfl) (by omega) (zD52_ok (by omega) m18 T19) (fun m20 T21 => ?_)
  refine zK_op rfl rfl ?_
  refine zK_op rfl rfl ?_
  refine zK_pI rfl rfl T21 rfl (fun m22 T23 => ?_)
  refine zK_op rfl rfl ?_
  refine zK_op rfl rfl ?_
  refine zK_gRl (b := 8) rfl rfl rfl T23 ?_
  refine zK_gI rfl rfl T23 ?_
  refine zK_pI rfl h15 T23 ph15 (fun m24 T25 => ?_)
  refine zK_op rfl rfl ?_
  refine zK_op rfl rfl ?_
  refine zK_op rfl rfl ?_
  refine zK_cV rfl (as := [.ref 181, .int 0, .int 0]) (rest := []) rfl rfl (xe_rcvO (zT_sh T25 rfl)) (Nat.le_of_ble_eq_true rfl) (Nat.le_of_ble_eq_true rfl) (by decide) (fun _ => rfl) (by omega) (zE56_ok (by omega) 0 0 m24 T25) (fun m26 T27 => ?_)
  refine zK_op rfl rfl ?_
  refine zK_op rfl rfl ?_
  refine zK_gRl (b := 8) rfl rfl rfl T27 ?_
  refine zK_gI rfl rfl T27 ?_
  refine zK_pI rfl h15 T27 ph15 (fun m28 T29 => ?_)
  refine zK_op rfl rfl ?_
  refine zK_op rfl rfl ?_
  refine zK_cV rfl (as := [.ref 181, .ref 1000010]) (rest := []) rfl rfl (xe_rcvO (zT_sh T29 rfl)) (Nat.le_of_ble_eq_true rfl) (Nat.le_of_ble_eq_true rfl) (by decide) (fun _ => rfl) (by omega) (zD41_ok (by omega) 1000010 m28 T29) (fun m30 T31 => ?_)
  refine zK_op rfl rfl ?_
  refine zK_op rfl rfl ?_
  refine zK_gI rfl rfl T31 ?_
  refine zK_pI rfl h15 T31 ph15 (fun m32 T33 => ?_)
  refine zK_op rfl rfl ?_
  refine zK_op rfl rfl ?_
  refine zK_cV rfl (as := [.ref 181, .ref 1000026]) (rest := []) rfl rfl (xe_rcvO (zT_sh T33 rfl)) (Nat.le_of_ble_eq_true rfl) (Nat.le_of_ble_eq_true rfl) (by decide) (fun _ => rfl) (by omega) (zD41_ok (by omega) 1000026 m32 T33) (fun m34 T35 => ?_)
  refine zK_op rfl rfl ?_
  refine zK_op rfl rfl ?_
  refine zK_cV rfl (as := [.ref 181, .ref 1000014]) (rest := []) rfl rfl (xe_rcvO (zT_sh T35 rfl)) (Nat.le_of_ble_eq_true rfl) (Nat.le_of_ble_eq_true rfl) (by decide) (fun _ => rfl) (by omega) (zD41_ok (by omega) 1000014 m34 T35) (fun m36 T37 => ?_)
  exact zK_ret0 rfl T37
theorem zD63_ok {μ0 : xe_Mem} {δ : xe_Dy} {d : Nat} (hd : 101 ≤ d) (μ : xe_Mem) (hT : zT zPc μ0 μ) : zK zPc μ0 δ d 63 0 (xe_init [.ref 181] (xM_L 63)) [] μ (zD63 μ) := by
  unfold zD63
  show zK zPc μ0 δ d 63 0 [some (.ref 181), none] [] μ _
  refine zK_op rfl rfl ?_
  refine zK_gRs rfl rfl hT (fun b1 => ?_)
  refine zK_o (fun h2 ph2 => ?_)
  refine zK_gI rfl h2 hT ?_
  refine zK_op rfl rfl ?_
  refine zK_icne rfl (fun _ => ?_) (fun _ => ?_)
  · refine zK_op rfl rfl ?_
    refine zK_op rfl rfl ?_
    exact zD63_8_ok hd 1 μ hT
  refine zK_op rfl rfl ?_
  exact zD63_8_ok hd 0 μ hT
/-! 65 LogicalTimes$Reader.readSlots()V -/
def zD65_47 (μ : xe_Mem) : zO := zq_cV (zD41 1000014 μ) fun m5 => some (.inl none, m5)
def zD65_10_b (c10 : Int32 → Int32 → xe_Mem → zO) (v1 : Int32) (v2 : Int32) (μ : xe_Mem) : zO := zq_s (xe_R μ 181 10) fun b3 => zq_o b3 2 <| if (xe_I μ b3 1) < v2 then zD65_47 μ else zq_s (xe_R μ 181 10) fun b7 => zq_o b7 2 <| zq_cI (zD42 v1 ((xe_I μ b7 1) - 1) μ) fun x11 m9 => zq_s (xe_R m9 181 10) fun b12 => zq_o b12 2 <| zq_s (xe_R m9 b12 7) fun b14 => zq_a b14 3 fun N16 => zq_x x11 N16 fun j17 => zq_m (xe_setI m9 b14 j17 ((vp_nar .boolean) 1)) fun m21 => zq_vI (x11 + 1) fun x23 => zq_cI (zD35 1000015 m21) fun x26 m24 => if x26 = 0 then zD65_47 m24 else zq_m (xe_setI m24 181 6 ((xe_I m24 181 6) + 1)) fun m27 => c10 x23 (v2 + (1)) m27
def zD65_10   : Nat → Int32 → Int32 → xe_Mem → zO
  | 0 => fun _ _ _  => none
  | n + 1 => zD65_10_b   (zD65_10   n)
def zD65   (μ : xe_Mem) : zO := zq_m (xe_setI μ 181 6 ((xe_I μ 181 6) + 1)) fun m1 => zD65_10 zfu 0 0 m1
theorem zD65_47_ok {μ0 : xe_Mem} {δ : xe_Dy} {d : Nat} (hd : 2 ≤ d)  : ∀ (l1 : Option Value) (l2 : Option Value) (l3 : Option Value) (μ : xe_Mem), zT zPc μ0 μ → zK zPc μ0 δ d 65 47 [some (.ref 181), l1, l2, l3] [] μ (zD65_47  μ) := by
  intro l1 l2 l3 μ hT
  unfold zD65_47
  refine zK_op rfl rfl ?_
  refine zK_op rfl rfl ?_
  refine zK_cV rfl (as := [.ref 181, .ref 1000014]) (rest := []) rfl rfl (xe_rcvO (zT_sh hT rfl)) (Nat.le_of_ble_eq_true rfl) (Nat.le_of_ble_eq_true rfl) (by decide) (fun _ => rfl) (by omega) (zD41_ok (by omega) 1000014 μ hT) (fun m5 T6 => ?_)
  exact zK_ret0 rfl T6
theorem zD65_10_bok {μ0 : xe_Mem} {δ : xe_Dy} {d : Nat} (hd : 2 ≤ d)  {c10 : Int32 → Int32 → xe_Mem → zO} (hc10 : ∀ (v1 : Int32) (v2 : Int32) (l3 : Option Value) (μ : xe_Mem), zT zPc μ0 μ → zK zPc μ0 δ d 65 10 [some (.ref 181), some (.int v1), some (.int v2), l3] [] μ (c10 v1 v2 μ)) : ∀ (v1 : Int32) (v2 : Int32) (l3 : Option Value) (μ : xe_Mem), zT zPc μ0 μ → zK zPc μ0 δ d 65 10 [some (.ref 181), some (.int v1), some (.int v2), l3] [] μ (zD65_10_b  c10 v1 v2 μ) := by
  intro v1 v2 l3 μ hT
  unfold zD65_10_b
  refine zK_op rfl rfl ?_
  refine zK_op rfl rfl ?_
  refine zK_gRs rfl rfl hT (fun b3 => ?_)
  refine zK_o (fun h4 ph4 => ?_)
  refine zK_gI rfl h4 hT ?_
  refine zK_icgt rfl (fun _ => ?_) (fun _ => ?_)
  · exact zD65_47_ok hd _ _ _ μ hT
  refine zK_op rfl rfl ?_
  refine zK_op rfl rfl ?_
  refine zK_op rfl rfl ?_
  refine zK_gRs rfl rfl hT (fun b7 => ?_)
  refine zK_o (fun h8 ph8 => ?_)
  refine zK_gI rfl h8 hT ?_
  refine zK_op rfl rfl ?_
  refine zK_op rfl rfl ?_
  refine zK_cI rfl (as := [.ref 181, .int v1, .int ((xe_I μ b7 1) - 1)]) (rest := []) rfl rfl (xe_rcvO (zT_sh hT rfl)) (Nat.le_of_ble_eq_true rfl) (Nat.le_of_ble_eq_true rfl) (by decide) (fun _ => rfl) (by omega) (zD42_ok (by omega) v1 ((xe_I μ b7 1) - 1) μ hT) (fun x11 m9 T10 => ?_)
  refine zK_op rfl rfl ?_
  refine zK_op rfl rfl ?_
  refine zK_gRs rfl rfl T10 (fun b12 => ?_)
  refine zK_o (fun h13 ph13 => ?_)
  refine zK_gRs rfl h13 T10 (fun b14 => ?_)
  refine zK_op rfl rfl ?_
  refine zK_op rfl rfl ?_
  refine zK_a (fun N16 h15 ph15 => ?_)
  refine zK_x (fun j17 h18 h19 h20 => ?_)
  refine zK_sI (a := b14) (g := (vp_nar .boolean)) rfl h15 T10 h18 h19 h20 ph15 (fun m21 T22 => ?_)
  refine zK_op rfl rfl ?_
  refine zK_op rfl rfl ?_
  refine zK_op rfl rfl ?_
  refine zK_vI (fun x23 => ?_)
  refine zK_op rfl rfl ?_
  refine zK_op rfl rfl ?_
  refine zK_op rfl rfl ?_
  refine zK_cI rfl (as := [.ref 181, .ref 1000015]) (rest := []) rfl rfl (xe_rcvO (zT_sh T22 rfl)) (Nat.le_of_ble_eq_true rfl) (Nat.le_of_ble_eq_true rfl) (by decide) (fun _ => rfl) (by omega) (zD35_ok (by omega) 1000015 m21 T22) (fun x26 m24 T25 => ?_)
  refine zK_ifne rfl (fun _ => ?_) (fun _ => ?_)
  · refine zK_op rfl rfl ?_
    exact zD65_47_ok hd _ _ _ m24 T25
  refine zK_op rfl rfl ?_
  refine zK_op rfl rfl ?_
  refine zK_gI rfl rfl T25 ?_
  refine zK_op rfl rfl ?_
  refine zK_op rfl rfl ?_
  refine zK_pI rfl rfl T25 rfl (fun m27 T28 => ?_)
  refine zK_op rfl rfl ?_
  refine zK_op rfl rfl ?_
  exact hc10 x23 (v2 + (1)) _ m27 T28
theorem zD65_10_ok {μ0 : xe_Mem} {δ : xe_Dy} {d : Nat} (hd : 2 ≤ d)  : ∀ n : Nat, ∀ (v1 : Int32) (v2 : Int32) (l3 : Option Value) (μ : xe_Mem), zT zPc μ0 μ → zK zPc μ0 δ d 65 10 [some (.ref 181), some (.int v1), some (.int v2), l3] [] μ (zD65_10  n v1 v2 μ) := by
  intro n
  induction n with
  | zero => exact fun _ _ _ _ _  => fun o μ' h => by cases h
  | succ n ih => exact zD65_10_bok hd   ih
theorem zD65_ok {μ0 : xe_Mem} {δ : xe_Dy} {d : Nat} (hd : 2 ≤ d) (μ : xe_Mem) (hT : zT zPc μ0 μ) : zK zPc μ0 δ d 65 0 (xe_init [.ref 181] (xM_L 65)) [] μ (zD65 μ) := by
  unfold zD65
  show zK zPc μ0 δ d 65 0 [some (.ref 181), none, none, none] [] μ _
  refine zK_op rfl rfl ?_
  refine zK_op rfl rfl ?_
  refine zK_gI rfl rfl hT ?_
  refine zK_op rfl rfl ?_
  refine zK_op rfl rfl ?_
  refine zK_pI rfl rfl hT rfl (fun m1 T2 => ?_)
  refine zK_op rfl rfl ?_
  refine zK_op rfl rfl ?_
  refine zK_op rfl rfl ?_
  refine zK_op rfl rfl ?_
  exact zD65_10_ok hd zfu 0 0 _ m1 T2
/-! 44 LogicalTimes$Reader.readMode()V -/
def zD44_62 (μ : xe_Mem) : zO := zq_cV (zD41 1000013 μ) fun m20 => some (.inl none, m20)
def zD44_56 (μ : xe_Mem) : zO := zq_cI (zD35 1000011 μ) fun x19 m17 => if x19 = 0 then zD44_62 m17 else zq_cV (zD65 m17) fun m22 => zD44_62 m22
def zD44_45_b (c45 : Int32 → xe_Mem → zO) (v1 : Int32) (μ : xe_Mem) : zO := if 4 < v1 then zD44_56 μ else zq_cI (zD35 1000009 μ) fun x26 m24 => if x26 = 0 then zD44_56 m24 else zq_cV (zD63 m24) fun m27 => c45 (v1 + (1)) m27
def zD44_45   : Nat → Int32 → xe_Mem → zO
  | 0 => fun _ _  => none
  | n + 1 => zD44_45_b   (zD44_45   n)
def zD44_43 (μ : xe_Mem) : zO := zD44_45 zfu 0 μ
def zD44_32_b (c32 : Int32 → xe_Mem → zO) (v1 : Int32) (μ : xe_Mem) : zO := if 6 < v1 then zD44_43 μ else zq_cI (zD35 1000004 μ) fun x31 m29 => if x31 = 0 then zD44_43 m29 else zq_cV (zD47 m29) fun m32 => c32 (v1 + (1)) m32
def zD44_32   : Nat → Int32 → xe_Mem → zO
  | 0 => fun _ _  => none
  | n + 1 => zD44_32_b   (zD44_32   n)
def zD44_8 (s0 : Int32) (μ : xe_Mem) : zO := zq_cV (zD37 s0 μ) fun m1 => zq_cV (zD41 1000003 m1) fun m3 => zq_cV (zD38 186 0 0 m3) fun m5 => zq_cI (zD42 1 120 m5) fun x9 m7 => zq_cR (zD45 x9 m7) fun x12 m10 => zq_m (xe_setR m10 181 10 (some x12)) fun m13 => zq_cV (zD41 1000012 m13) fun m15 => zD44_32 zfu 0 m15
def zD44   (μ : xe_Mem) : zO := if (xe_I μ 7 6) = 4 then zD44_8 1 μ else zD44_8 0 μ
theorem zD44_62_ok {μ0 : xe_Mem} {δ : xe_Dy} {d : Nat} (hd : 152 ≤ d)  : ∀ (l1 : Option Value) (μ : xe_Mem), zT zPc μ0 μ → zK zPc μ0 δ d 44 62 [some (.ref 181), l1] [] μ (zD44_62  μ) := by
  intro l1 μ hT
  unfold zD44_62
  refine zK_op rfl rfl ?_
  refine zK_op rfl rfl ?_
  refine zK_cV rfl (as := [.ref 181, .ref 1000013]) (rest := []) rfl rfl (xe_rcvO (zT_sh hT rfl)) (Nat.le_of_ble_eq_true rfl) (Nat.le_of_ble_eq_true rfl) (by decide) (fun _ => rfl) (by omega) (zD41_ok (by omega) 1000013 μ hT) (fun m20 T21 => ?_)
  exact zK_ret0 rfl T21
theorem zD44_56_ok {μ0 : xe_Mem} {δ : xe_Dy} {d : Nat} (hd : 152 ≤ d)  : ∀ (l1 : Option Value) (μ : xe_Mem), zT zPc μ0 μ → zK zPc μ0 δ d 44 56 [some (.ref 181), l1] [] μ (zD44_56  μ) := by
  intro l1 μ hT
  unfold zD44_56
  refine zK_op rfl rfl ?_
  refine zK_op rfl rfl ?_
  refine zK_cI rfl (as := [.ref 181, .ref 1000011]) (rest := []) rfl rfl (xe_rcvO (zT_sh hT rfl)) (Nat.le_of_ble_eq_true rfl) (Nat.le_of_ble_eq_true rfl) (by decide) (fun _ => rfl) (by omega) (zD35_ok (by omega) 1000011 μ hT) (fun x19 m17 T18 => ?_)
  refine zK_ifeq rfl (fun _ => ?_) (fun _ => ?_)
  · exact zD44_62_ok hd _ m17 T18
  refine zK_op rfl rfl ?_
  refine zK_cV rfl (as := [.ref 181]) (rest := []) rfl rfl (xe_rcvO (zT_sh T18 rfl)) (Nat.le_of_ble_eq_true rfl) (Nat.le_of_ble_eq_true rfl) (by decide) (fun _ => rfl) (by omega) (zD65_ok (by omega) m17 T18) (fun m22 T23 => ?_)
  exact zD44_62_ok hd _ m22 T23
theorem zD44_45_bok {μ0 : xe_Mem} {δ : xe_Dy} {d : Nat} (hd : 152 ≤ d)  {c45 : Int32 → xe_Mem → zO} (hc45 : ∀ (v1 : Int32) (μ : xe_Mem), zT zPc μ0 μ → zK zPc μ0 δ d 44 45 [some (.ref 181), some (.int v1)] [] μ (c45 v1 μ)) : ∀ (v1 : Int32) (μ : xe_Mem), zT zPc μ0 μ → zK zPc μ0 δ d 44 45 [some (.ref 181), some (.int v1)] [] μ (zD44_45_b  c45 v1 μ) := by
  intro v1 μ hT
  unfold zD44_45_b
  refine zK_op rfl rfl ?_
  refine zK_op rfl rfl ?_
  refine zK_icgt rfl (fun _ => ?_) (fun _ => ?_)
  · exact zD44_56_ok hd _ μ hT
  refine zK_op rfl rfl ?_
  refine zK_op rfl rfl ?_
  refine zK_cI rfl (as := [.ref 181, .ref 1000009]) (rest := []) rfl rfl (xe_rcvO (zT_sh hT rfl)) (Nat.le_of_ble_eq_true rfl) (Nat.le_of_ble_eq_true rfl) (by decide) (fun _ => rfl) (by omega) (zD35_ok (by omega) 1000009 μ hT) (fun x26 m24 T25 => ?_)
  refine zK_ifeq rfl (fun _ => ?_) (fun _ => ?_)
  · exact zD44_56_ok hd _ m24 T25
  refine zK_op rfl rfl ?_
  refine zK_cV rfl (as := [.ref 181]) (rest := []) rfl rfl (xe_rcvO (zT_sh T25 rfl)) (Nat.le_of_ble_eq_true rfl) (Nat.le_of_ble_eq_true rfl) (by decide) (fun _ => rfl) (by omega) (zD63_ok (by omega) m24 T25) (fun m27 T28 => ?_)
  refine zK_op rfl rfl ?_
  refine zK_op rfl rfl ?_
  exact hc45 (v1 + (1)) m27 T28
theorem zD44_45_ok {μ0 : xe_Mem} {δ : xe_Dy} {d : Nat} (hd : 152 ≤ d)  : ∀ n : Nat, ∀ (v1 : Int32) (μ : xe_Mem), zT zPc μ0 μ → zK zPc μ0 δ d 44 45 [some (.ref 181), some (.int v1)] [] μ (zD44_45  n v1 μ) := by
  intro n
  induction n with
  | zero => exact fun _ _ _  => fun o μ' h => by cases h
  | succ n ih => exact zD44_45_bok hd   ih
theorem zD44_43_ok {μ0 : xe_Mem} {δ : xe_Dy} {d : Nat} (hd : 152 ≤ d)  : ∀ (l1 : Option Value) (μ : xe_Mem), zT zPc μ0 μ → zK zPc μ0 δ d 44 43 [some (.ref 181), l1] [] μ (zD44_43  μ) := by
  intro l1 μ hT
  unfold zD44_43
  refine zK_op rfl rfl ?_
  refine zK_op rfl rfl ?_
  exact zD44_45_ok hd zfu 0 μ hT
theorem zD44_32_bok {μ0 : xe_Mem} {δ : xe_Dy} {d : Nat} (hd : 152 ≤ d)  {c32 : Int32 → xe_Mem → zO} (hc32 : ∀ (v1 : Int32) (μ : xe_Mem), zT zPc μ0 μ → zK zPc μ0 δ d 44 32 [some (.ref 181), some (.int v1)] [] μ (c32 v1 μ)) : ∀ (v1 : Int32) (μ : xe_Mem), zT zPc μ0 μ → zK zPc μ0 δ d 44 32 [some (.ref 181), some (.int v1)] [] μ (zD44_32_b  c32 v1 μ) := by
  intro v1 μ hT
  unfold zD44_32_b
  refine zK_op rfl rfl ?_
  refine zK_op rfl rfl ?_
  refine zK_icgt rfl (fun _ => ?_) (fun _ => ?_)
  · exact zD44_43_ok hd _ μ hT
  refine zK_op rfl rfl ?_
  refine zK_op rfl rfl ?_
  refine zK_cI rfl (as := [.ref 181, .ref 1000004]) (rest := []) rfl rfl (xe_rcvO (zT_sh hT rfl)) (Nat.le_of_ble_eq_true rfl) (Nat.le_of_ble_eq_true rfl) (by decide) (fun _ => rfl) (by omega) (zD35_ok (by omega) 1000004 μ hT) (fun x31 m29 T30 => ?_)
  refine zK_ifeq rfl (fun _ => ?_) (fun _ => ?_)
  · exact zD44_43_ok hd _ m29 T30
  refine zK_op rfl rfl ?_
  refine zK_cV rfl (as := [.ref 181]) (rest := []) rfl rfl (xe_rcvO (zT_sh T30 rfl)) (Nat.le_of_ble_eq_true rfl) (Nat.le_of_ble_eq_true rfl) (by decide) (fun _ => rfl) (by omega) (zD47_ok (by omega) m29 T30) (fun m32 T33 => ?_)
  refine zK_op rfl rfl ?_
  refine zK_op rfl rfl ?_
  exact hc32 (v1 + (1)) m32 T33
theorem zD44_32_ok {μ0 : xe_Mem} {δ : xe_Dy} {d : Nat} (hd : 152 ≤ d)  : ∀ n : Nat, ∀ (v1 : Int32) (μ : xe_Mem), zT zPc μ0 μ → zK zPc μ0 δ d 44 32 [some (.ref 181), some (.int v1)] [] μ (zD44_32  n v1 μ) := by
  intro n
  induction n with
  | zero => exact fun _ _ _  => fun o μ' h => by cases h
  | succ n ih => exact zD44_32_bok hd   ih
theorem zD44_8_ok {μ0 : xe_Mem} {δ : xe_Dy} {d : Nat} (hd : 152 ≤ d)  : ∀ (s0 : Int32) (μ : xe_Mem), zT zPc μ0 μ → zK zPc μ0 δ d 44 8 [some (.ref 181), none] [.int s0] μ (zD44_8  s0 μ) := by
  intro s0 μ hT
  unfold zD44_8
  refine zK_cV rfl (as := [.int s0]) (rest := []) rfl rfl rfl (Nat.le_of_ble_eq_true rfl) (Nat.le_of_ble_eq_true rfl) (by decide) (fun _ => rfl) (by omega) (zD37_ok (by omega) s0 μ hT) (fun m1 T2 => ?_)
  refine zK_op rfl rfl ?_
  refine zK_op rfl rfl ?_
  refine zK_cV rfl (as := [.ref 181, .ref 1000003]) (rest := []) rfl rfl (xe_rcvO (zT_sh T2 rfl)) (Nat.le_of_ble_eq_true rfl) (Nat.le_of_ble_eq_true rfl) (by decide) (fun _ => rfl) (by omega) (zD41_ok (by omega) 1000003 m1 T2) (fun m3 T4 => ?_)
  refine zK_op rfl rfl ?_
  refine zK_op rfl rfl ?_
  refine zK_gRl (b := 186) rfl rfl rfl T4 ?_
  refine zK_op rfl rfl ?_
  refine zK_op rfl rfl ?_
  refine zK_cV rfl (as := [.ref 181, .ref 186, .int 0, .int 0]) (rest := []) rfl rfl (xe_rcvO (zT_sh T4 rfl)) (Nat.le_of_ble_eq_true rfl) (Nat.le_of_ble_eq_true rfl) (by decide) (fun _ => rfl) (by omega) (zD38_ok (by omega) 186 0 0 m3 T4) (fun m5 T6 => ?_)
  refine zK_op rfl rfl ?_
  refine zK_op rfl rfl ?_
  refine zK_gRl (b := 7) rfl rfl rfl T6 ?_
  refine zK_op rfl rfl ?_
  refine zK_op rfl rfl ?_
  refine zK_op rfl rfl ?_
  refine zK_cI rfl (as := [.ref 181, .int 1, .int 120]) (rest := [.ref 7, .ref 181]) rfl rfl (xe_rcvO (zT_sh T6 rfl)) (Nat.le_of_ble_eq_true rfl) (Nat.le_of_ble_eq_true rfl) (by decide) (fun _ => rfl) (by omega) (zD42_ok (by omega) 1 120 m5 T6) (fun x9 m7 T8 => ?_)
  refine zK_cR rfl (as := [.ref 7, .int x9]) (rest := [.ref 181]) rfl rfl (xe_rcvO (zT_sh T8 rfl)) (Nat.le_of_ble_eq_true rfl) (Nat.le_of_ble_eq_true rfl) (by decide) (fun _ => rfl) (by omega) (zD45_ok (by omega) x9 m7 T8) (fun x12 m10 T11 => ?_)
  refine zK_pR rfl rfl rfl T11 rfl (fun m13 T14 => ?_)
  refine zK_op rfl rfl ?_
  refine zK_op rfl rfl ?_
  refine zK_cV rfl (as := [.ref 181, .ref 1000012]) (rest := []) rfl rfl (xe_rcvO (zT_sh T14 rfl)) (Nat.le_of_ble_eq_true rfl) (Nat.le_of_ble_eq_true rfl) (by decide) (fun _ => rfl) (by omega) (zD41_ok (by omega) 1000012 m13 T14) (fun m15 T16 => ?_)
  refine zK_op rfl rfl ?_
  refine zK_op rfl rfl ?_
  exact zD44_32_ok hd zfu 0 m15 T16
theorem zD44_ok {μ0 : xe_Mem} {δ : xe_Dy} {d : Nat} (hd : 152 ≤ d) (μ : xe_Mem) (hT : zT zPc μ0 μ) : zK zPc μ0 δ d 44 0 (xe_init [.ref 181] (xM_L 44)) [] μ (zD44 μ) := by
  unfold zD44
  show zK zPc μ0 δ d 44 0 [some (.ref 181), none] [] μ _
  refine zK_op rfl rfl ?_
  refine zK_gRl (b := 7) rfl rfl rfl hT ?_
  refine zK_gI rfl rfl hT ?_
  refine zK_op rfl rfl ?_
  refine zK_icne rfl (fun _ => ?_) (fun _ => ?_)
  · refine zK_op rfl rfl ?_
    refine zK_op rfl rfl ?_
    exact zD44_8_ok hd 1 μ hT
  refine zK_op rfl rfl ?_
  exact zD44_8_ok hd 0 μ hT
/-! 66 LogicalTimes$Reader.aimSwitches()V -/
def zD66_47 (c9 : Int32 → Int32 → xe_Mem → zO) (v1 : Int32) (v2 : Int32) (s0 : Int32) (μ : xe_Mem) : zO := zq_cV (zD37 s0 μ) fun m33 => c9 v1 (v2 + (1)) m33
def zD66_9_b (c2 : Int32 → xe_Mem → zO) (c9 : Int32 → Int32 → xe_Mem → zO) (v1 : Int32) (v2 : Int32) (μ : xe_Mem) : zO := zq_x v1 4 fun j1 => zq_s (xe_R μ 15 j1) fun b5 => zq_o b5 2 <| if (xe_I μ b5 6) ≤ v2 then c2 (v1 + (1)) μ else zq_x v1 4 fun j7 => zq_s (xe_R μ 15 j7) fun b11 => zq_o b11 2 <| zq_s (xe_R μ b11 5) fun b13 => zq_a b13 6 fun N15 => zq_x v2 N15 fun j16 => zq_s (xe_R μ b13 j16) fun b20 => zq_o b20 1 <| zq_m (xe_setI μ 181 6 (xe_I μ b20 3)) fun m22 => zq_x (xe_I m22 181 6) 3001 fun j24 => zq_cI (zD39 186 (xe_L m22 6 j24) m22) fun x30 m28 => zq_m (xe_setI m28 b20 4 x30) fun m31 => if 0 ≤ (xe_I m31 b20 4) then zD66_47 c9 v1 v2 0 m31 else zD66_47 c9 v1 v2 1 m31
def zD66_9  (c2 : Int32 → xe_Mem → zO) : Nat → Int32 → Int32 → xe_Mem → zO
  | 0 => fun _ _ _  => none
  | n + 1 => zD66_9_b  c2 (zD66_9  c2 n)
def zD66_2_b (c2 : Int32 → xe_Mem → zO) (v1 : Int32) (μ : xe_Mem) : zO := if (xe_I μ 7 6) ≤ v1 then some (.inl none, μ) else zD66_9 c2 zfu v1 0 μ
def zD66_2   : Nat → Int32 → xe_Mem → zO
  | 0 => fun _ _  => none
  | n + 1 => zD66_2_b   (zD66_2   n)
def zD66   (μ : xe_Mem) : zO := zD66_2 zfu 0 μ
theorem zD66_47_ok {μ0 : xe_Mem} {δ : xe_Dy} {d : Nat} (hd : 1 ≤ d) {c9 : Int32 → Int32 → xe_Mem → zO} (hc9 : ∀ (v1 : Int32) (v2 : Int32) (l3 : Option Value) (μ : xe_Mem), zT zPc μ0 μ → zK zPc μ0 δ d 66 9 [some (.ref 181), some (.int v1), some (.int v2), l3] [] μ (c9 v1 v2 μ)) : ∀ (v1 : Int32) (v2 : Int32) (s0 : Int32) (l3 : Option Value) (μ : xe_Mem), zT zPc μ0 μ → zK zPc μ0 δ d 66 47 [some (.ref 181), some (.int v1), some (.int v2), l3] [.int s0] μ (zD66_47  c9 v1 v2 s0 μ) := by
  intro v1 v2 s0 l3 μ hT
  unfold zD66_47
  refine zK_cV rfl (as := [.int s0]) (rest := []) rfl rfl rfl (Nat.le_of_ble_eq_true rfl) (Nat.le_of_ble_eq_true rfl) (by decide) (fun _ => rfl) (by omega) (zD37_ok (by omega) s0 μ hT) (fun m33 T34 => ?_)
  refine zK_op rfl rfl ?_
  refine zK_op rfl rfl ?_
  exact hc9 v1 (v2 + (1)) _ m33 T34
theorem zD66_9_bok {μ0 : xe_Mem} {δ : xe_Dy} {d : Nat} (hd : 1 ≤ d) {c2 : Int32 → xe_Mem → zO} (hc2 : ∀ (v1 : Int32) (l2 : Option Value) (l3 : Option Value) (μ : xe_Mem), zT zPc μ0 μ → zK zPc μ0 δ d 66 2 [some (.ref 181), some (.int v1), l2, l3] [] μ (c2 v1 μ)) {c9 : Int32 → Int32 → xe_Mem → zO} (hc9 : ∀ (v1 : Int32) (v2 : Int32) (l3 : Option Value) (μ : xe_Mem), zT zPc μ0 μ → zK zPc μ0 δ d 66 9 [some (.ref 181), some (.int v1), some (.int v2), l3] [] μ (c9 v1 v2 μ)) : ∀ (v1 : Int32) (v2 : Int32) (l3 : Option Value) (μ : xe_Mem), zT zPc μ0 μ → zK zPc μ0 δ d 66 9 [some (.ref 181), some (.int v1), some (.int v2), l3] [] μ (zD66_9_b  c2 c9 v1 v2 μ) := by
  intro v1 v2 l3 μ hT
  unfold zD66_9_b
  refine zK_op rfl rfl ?_
  refine zK_op rfl rfl ?_
  refine zK_gRl (b := 7) rfl rfl rfl hT ?_
  refine zK_gRl (b := 15) rfl rfl rfl hT ?_
  refine zK_op rfl rfl ?_
  refine zK_x (fun j1 h2 h3 h4 => ?_)
  refine zK_aR rfl rfl hT h2 h3 h4 (fun b5 => ?_)
  refine zK_o (fun h6 ph6 => ?_)
  refine zK_gI rfl h6 hT ?_
  refine zK_icge rfl (fun _ => ?_) (fun _ => ?_)
  · refine zK_op rfl rfl ?_
    refine zK_op rfl rfl ?_
    exact hc2 (v1 + (1)) _ _ μ hT
  refine zK_op rfl rfl ?_
  refine zK_gRl (b := 7) rfl rfl rfl hT ?_
  refine zK_gRl (b := 15) rfl rfl rfl hT ?_
  refine zK_op rfl rfl ?_
  refine zK_x (fun j7 h8 h9 h10 => ?_)
  refine zK_aR rfl rfl hT h8 h9 h10 (fun b11 => ?_)
  refine zK_o (fun h12 ph12 => ?_)
  refine zK_gRs rfl h12 hT (fun b13 => ?_)
  refine zK_op rfl rfl ?_
  refine zK_a (fun N15 h14 ph14 => ?_)
  refine zK_x (fun j16 h17 h18 h19 => ?_)
  refine zK_aR rfl h14 hT h17 h18 h19 (fun b20 => ?_)
  refine zK_op rfl rfl ?_
  refine zK_op rfl rfl ?_
  refine zK_op rfl rfl ?_
  refine zK_o (fun h21 ph21 => ?_)
  refine zK_gI rfl h21 hT ?_
  refine zK_pI rfl rfl hT rfl (fun m22 T23 => ?_)
  refine zK_op rfl rfl ?_
  refine zK_op rfl rfl ?_
  refine zK_gRl (b := 186) rfl rfl rfl T23 ?_
  refine zK_op rfl rfl ?_
  refine zK_gRl (b := 3) rfl rfl rfl T23 ?_
  refine zK_gRl (b := 6) rfl rfl rfl T23 ?_
  refine zK_op rfl rfl ?_
  refine zK_gI rfl rfl T23 ?_
  refine zK_x (fun j24 h25 h26 h27 => ?_)
  refine zK_aL rfl rfl T23 h25 h26 h27 ?_
  refine zK_cI rfl (as := [.ref 186, .long (xe_L m22 6 j24)]) (rest := [.ref b20]) rfl rfl (xe_rcvO (zT_sh T23 rfl)) (Nat.le_of_ble_eq_true rfl) (Nat.le_of_ble_eq_true rfl) (by decide) (fun _ => rfl) (by omega) (zD39_ok (by omega) 186 (xe_L m22 6 j24) m22 T23) (fun x30 m28 T29 => ?_)
  refine zK_pI rfl h21 T29 ph21 (fun m31 T32 => ?_)
  refine zK_op rfl rfl ?_
  refine zK_gI rfl h21 T32 ?_
  refine zK_ifge rfl (fun _ => ?_) (fun _ => ?_)
  · refine zK_op rfl rfl ?_
    exact zD66_47_ok hd hc9 v1 v2 0 _ m31 T32
  refine zK_op rfl rfl ?_
  refine zK_op rfl rfl ?_
  exact zD66_47_ok hd hc9 v1 v2 1 _ m31 T32
theorem zD66_9_ok {μ0 : xe_Mem} {δ : xe_Dy} {d : Nat} (hd : 1 ≤ d) {c2 : Int32 → xe_Mem → zO} (hc2 : ∀ (v1 : Int32) (l2 : Option Value) (l3 : Option Value) (μ : xe_Mem), zT zPc μ0 μ → zK zPc μ0 δ d 66 2 [some (.ref 181), some (.int v1), l2, l3] [] μ (c2 v1 μ)) : ∀ n : Nat, ∀ (v1 : Int32) (v2 : Int32) (l3 : Option Value) (μ : xe_Mem), zT zPc μ0 μ → zK zPc μ0 δ d 66 9 [some (.ref 181), some (.int v1), some (.int v2), l3] [] μ (zD66_9  c2 n v1 v2 μ) := by
  intro n
  induction n with
  | zero => exact fun _ _ _ _ _  => fun o μ' h => by cases h
  | succ n ih => exact zD66_9_bok hd  hc2 ih
theorem zD66_2_bok {μ0 : xe_Mem} {δ : xe_Dy} {d : Nat} (hd : 1 ≤ d)  {c2 : Int32 → xe_Mem → zO} (hc2 : ∀ (v1 : Int32) (l2 : Option Value) (l3 : Option Value) (μ : xe_Mem), zT zPc μ0 μ → zK zPc μ0 δ d 66 2 [some (.ref 181), some (.int v1), l2, l3] [] μ (c2 v1 μ)) : ∀ (v1 : Int32) (l2 : Option Value) (l3 : Option Value) (μ : xe_Mem), zT zPc μ0 μ → zK zPc μ0 δ d 66 2 [some (.ref 181), some (.int v1), l2, l3] [] μ (zD66_2_b  c2 v1 μ) := by
  intro v1 l2 l3 μ hT
  unfold zD66_2_b
  refine zK_op rfl rfl ?_
  refine zK_op rfl rfl ?_
  refine zK_gRl (b := 7) rfl rfl rfl hT ?_
  refine zK_gI rfl rfl hT ?_
  refine zK_icge rfl (fun _ => ?_) (fun _ => ?_)
  · exact zK_ret0 rfl hT
  refine zK_op rfl rfl ?_
  refine zK_op rfl rfl ?_
  exact zD66_9_ok hd hc2 zfu v1 0 _ μ hT
theorem zD66_2_ok {μ0 : xe_Mem} {δ : xe_Dy} {d : Nat} (hd : 1 ≤ d)  : ∀ n : Nat, ∀ (v1 : Int32) (l2 : Option Value) (l3 : Option Value) (μ : xe_Mem), zT zPc μ0 μ → zK zPc μ0 δ d 66 2 [some (.ref 181), some (.int v1), l2, l3] [] μ (zD66_2  n v1 μ) := by
  intro n
  induction n with
  | zero => exact fun _ _ _ _ _  => fun o μ' h => by cases h
  | succ n ih => exact zD66_2_bok hd   ih
theorem zD66_ok {μ0 : xe_Mem} {δ : xe_Dy} {d : Nat} (hd : 1 ≤ d) (μ : xe_Mem) (hT : zT zPc μ0 μ) : zK zPc μ0 δ d 66 0 (xe_init [.ref 181] (xM_L 66)) [] μ (zD66 μ) := by
  unfold zD66
  show zK zPc μ0 δ d 66 0 [some (.ref 181), none, none, none] [] μ _
  refine zK_op rfl rfl ?_
  refine zK_op rfl rfl ?_
  exact zD66_2_ok hd zfu 0 _ _ μ hT
/-! 33 LogicalTimes$Reader.readProgram()V -/
def zD33_60 (s0 : Int32) (μ : xe_Mem) : zO := zq_cV (zD37 s0 μ) fun m16 => zq_cV (zD66 m16) fun m18 => some (.inl none, m18)
def zD33_53 (μ : xe_Mem) : zO := zq_cI (zD35 1000028 μ) fun x15 m13 => if x15 = 0 then zD33_60 1 m13 else zD33_60 0 m13
def zD33_49 (c40 : Int32 → xe_Mem → zO) (v1 : Int32) (μ : xe_Mem) : zO := zq_cV (zD44 μ) fun m20 => c40 (v1 + (1)) m20
def zD33_40_b (c40 : Int32 → xe_Mem → zO) (v1 : Int32) (μ : xe_Mem) : zO := if 4 < v1 then zD33_53 μ else if v1 = 0 then zD33_49 c40 v1 μ else zq_cI (zD35 1000003 μ) fun x24 m22 => if x24 = 0 then zD33_53 m22 else zD33_49 c40 v1 m22
def zD33_40   : Nat → Int32 → xe_Mem → zO
  | 0 => fun _ _  => none
  | n + 1 => zD33_40_b   (zD33_40   n)
def zD33_38 (μ : xe_Mem) : zO := zD33_40 zfu 0 μ
def zD33_34 (c23 : Int32 → xe_Mem → zO) (v1 : Int32) (μ : xe_Mem) : zO := zq_cV (zD36 μ) fun m31 => c23 (v1 + (1)) m31
def zD33_23_b (c23 : Int32 → xe_Mem → zO) (v1 : Int32) (μ : xe_Mem) : zO := if 16 < v1 then zD33_38 μ else zq_cI (zD35 1000001 μ) fun x27 m25 => if x27 = 0 then zq_cI (zD35 1000002 m25) fun x30 m28 => if x30 = 0 then zD33_38 m28 else zD33_34 c23 v1 m28 else zD33_34 c23 v1 m25
def zD33_23   : Nat → Int32 → xe_Mem → zO
  | 0 => fun _ _  => none
  | n + 1 => zD33_23_b   (zD33_23   n)
def zD33   (μ : xe_Mem) : zO := zq_cV (zD34 μ) fun m1 => zq_m (xe_setI m1 182 3 0) fun m3 => zq_m (xe_setI m3 186 3 0) fun m5 => zq_m (xe_setI m5 190 3 0) fun m7 => zq_m (xe_setI m7 181 7 0) fun m9 => zq_m (xe_setI m9 181 6 0) fun m11 => zD33_23 zfu 0 m11
theorem zD33_60_ok {μ0 : xe_Mem} {δ : xe_Dy} {d : Nat} (hd : 153 ≤ d)  : ∀ (s0 : Int32) (l1 : Option Value) (μ : xe_Mem), zT zPc μ0 μ → zK zPc μ0 δ d 33 60 [some (.ref 181), l1] [.int s0] μ (zD33_60  s0 μ) := by
  intro s0 l1 μ hT
  unfold zD33_60
  refine zK_cV rfl (as := [.int s0]) (rest := []) rfl rfl rfl (Nat.le_of_ble_eq_true rfl) (Nat.le_of_ble_eq_true rfl) (by decide) (fun _ => rfl) (by omega) (zD37_ok (by omega) s0 μ hT) (fun m16 T17 => ?_)
  refine zK_op rfl rfl ?_
  refine zK_cV rfl (as := [.ref 181]) (rest := []) rfl rfl (xe_rcvO (zT_sh T17 rfl)) (Nat.le_of_ble_eq_true rfl) (Nat.le_of_ble_eq_true rfl) (by decide) (fun _ => rfl) (by omega) (zD66_ok (by omega) m16 T17) (fun m18 T19 => ?_)
  exact zK_ret0 rfl T19
theorem zD33_53_ok {μ0 : xe_Mem} {δ : xe_Dy} {d : Nat} (hd : 153 ≤ d)  : ∀ (l1 : Option Value) (μ : xe_Mem), zT zPc μ0 μ → zK zPc μ0 δ d 33 53 [some (.ref 181), l1] [] μ (zD33_53  μ) := by
  intro l1 μ hT
  unfold zD33_53
  refine zK_op rfl rfl ?_
  refine zK_op rfl rfl ?_
  refine zK_cI rfl (as := [.ref 181, .ref 1000028]) (rest := []) rfl rfl (xe_rcvO (zT_sh hT rfl)) (Nat.le_of_ble_eq_true rfl) (Nat.le_of_ble_eq_true rfl) (by decide) (fun _ => rfl) (by omega) (zD35_ok (by omega) 1000028 μ hT) (fun x15 m13 T14 => ?_)
  refine zK_ifne rfl (fun _ => ?_) (fun _ => ?_)
  · refine zK_op rfl rfl ?_
    refine zK_op rfl rfl ?_
    exact zD33_60_ok hd 1 _ m13 T14
  refine zK_op rfl rfl ?_
  exact zD33_60_ok hd 0 _ m13 T14
theorem zD33_49_ok {μ0 : xe_Mem} {δ : xe_Dy} {d : Nat} (hd : 153 ≤ d) {c40 : Int32 → xe_Mem → zO} (hc40 : ∀ (v1 : Int32) (μ : xe_Mem), zT zPc μ0 μ → zK zPc μ0 δ d 33 40 [some (.ref 181), some (.int v1)] [] μ (c40 v1 μ)) : ∀ (v1 : Int32) (μ : xe_Mem), zT zPc μ0 μ → zK zPc μ0 δ d 33 49 [some (.ref 181), some (.int v1)] [] μ (zD33_49  c40 v1 μ) := by
  intro v1 μ hT
  unfold zD33_49
  refine zK_op rfl rfl ?_
  refine zK_cV rfl (as := [.ref 181]) (rest := []) rfl rfl (xe_rcvO (zT_sh hT rfl)) (Nat.le_of_ble_eq_true rfl) (Nat.le_of_ble_eq_true rfl) (by decide) (fun _ => rfl) (by omega) (zD44_ok (by omega) μ hT) (fun m20 T21 => ?_)
  refine zK_op rfl rfl ?_
  refine zK_op rfl rfl ?_
  exact hc40 (v1 + (1)) m20 T21
theorem zD33_40_bok {μ0 : xe_Mem} {δ : xe_Dy} {d : Nat} (hd : 153 ≤ d)  {c40 : Int32 → xe_Mem → zO} (hc40 : ∀ (v1 : Int32) (μ : xe_Mem), zT zPc μ0 μ → zK zPc μ0 δ d 33 40 [some (.ref 181), some (.int v1)] [] μ (c40 v1 μ)) : ∀ (v1 : Int32) (μ : xe_Mem), zT zPc μ0 μ → zK zPc μ0 δ d 33 40 [some (.ref 181), some (.int v1)] [] μ (zD33_40_b  c40 v1 μ) := by
  intro v1 μ hT
  unfold zD33_40_b
  refine zK_op rfl rfl ?_
  refine zK_op rfl rfl ?_
  refine zK_icgt rfl (fun _ => ?_) (fun _ => ?_)
  · exact zD33_53_ok hd _ μ hT
  refine zK_op rfl rfl ?_
  refine zK_ifeq rfl (fun _ => ?_) (fun _ => ?_)
  · exact zD33_49_ok hd hc40 v1 μ hT
  refine zK_op rfl rfl ?_
  refine zK_op rfl rfl ?_
  refine zK_cI rfl (as := [.ref 181, .ref 1000003]) (rest := []) rfl rfl (xe_rcvO (zT_sh hT rfl)) (Nat.le_of_ble_eq_true rfl) (Nat.le_of_ble_eq_true rfl) (by decide) (fun _ => rfl) (by omega) (zD35_ok (by omega) 1000003 μ hT) (fun x24 m22 T23 => ?_)
  refine zK_ifeq rfl (fun _ => ?_) (fun _ => ?_)
  · exact zD33_53_ok hd _ m22 T23
  exact zD33_49_ok hd hc40 v1 m22 T23
theorem zD33_40_ok {μ0 : xe_Mem} {δ : xe_Dy} {d : Nat} (hd : 153 ≤ d)  : ∀ n : Nat, ∀ (v1 : Int32) (μ : xe_Mem), zT zPc μ0 μ → zK zPc μ0 δ d 33 40 [some (.ref 181), some (.int v1)] [] μ (zD33_40  n v1 μ) := by
  intro n
  induction n with
  | zero => exact fun _ _ _  => fun o μ' h => by cases h
  | succ n ih => exact zD33_40_bok hd   ih
theorem zD33_38_ok {μ0 : xe_Mem} {δ : xe_Dy} {d : Nat} (hd : 153 ≤ d)  : ∀ (l1 : Option Value) (μ : xe_Mem), zT zPc μ0 μ → zK zPc μ0 δ d 33 38 [some (.ref 181), l1] [] μ (zD33_38  μ) := by
  intro l1 μ hT
  unfold zD33_38
  refine zK_op rfl rfl ?_
  refine zK_op rfl rfl ?_
  exact zD33_40_ok hd zfu 0 μ hT
theorem zD33_34_ok {μ0 : xe_Mem} {δ : xe_Dy} {d : Nat} (hd : 153 ≤ d) {c23 : Int32 → xe_Mem → zO} (hc23 : ∀ (v1 : Int32) (μ : xe_Mem), zT zPc μ0 μ → zK zPc μ0 δ d 33 23 [some (.ref 181), some (.int v1)] [] μ (c23 v1 μ)) : ∀ (v1 : Int32) (μ : xe_Mem), zT zPc μ0 μ → zK zPc μ0 δ d 33 34 [some (.ref 181), some (.int v1)] [] μ (zD33_34  c23 v1 μ) := by
  intro v1 μ hT
  unfold zD33_34
  refine zK_op rfl rfl ?_
  refine zK_cV rfl (as := [.ref 181]) (rest := []) rfl rfl (xe_rcvO (zT_sh hT rfl)) (Nat.le_of_ble_eq_true rfl) (Nat.le_of_ble_eq_true rfl) (by decide) (fun _ => rfl) (by omega) (zD36_ok (by omega) μ hT) (fun m31 T32 => ?_)
  refine zK_op rfl rfl ?_
  refine zK_op rfl rfl ?_
  exact hc23 (v1 + (1)) m31 T32
theorem zD33_23_bok {μ0 : xe_Mem} {δ : xe_Dy} {d : Nat} (hd : 153 ≤ d)  {c23 : Int32 → xe_Mem → zO} (hc23 : ∀ (v1 : Int32) (μ : xe_Mem), zT zPc μ0 μ → zK zPc μ0 δ d 33 23 [some (.ref 181), some (.int v1)] [] μ (c23 v1 μ)) : ∀ (v1 : Int32) (μ : xe_Mem), zT zPc μ0 μ → zK zPc μ0 δ d 33 23 [some (.ref 181), some (.int v1)] [] μ (zD33_23_b  c23 v1 μ) := by
  intro v1 μ hT
  unfold zD33_23_b
  refine zK_op rfl rfl ?_
  refine zK_op rfl rfl ?_
  refine zK_icgt rfl (fun _ => ?_) (fun _ => ?_)
  · exact zD33_38_ok hd _ μ hT
  refine zK_op rfl rfl ?_
  refine zK_op rfl rfl ?_
  refine zK_cI rfl (as := [.ref 181, .ref 1000001]) (rest := []) rfl rfl (xe_rcvO (zT_sh hT rfl)) (Nat.le_of_ble_eq_true rfl) (Nat.le_of_ble_eq_true rfl) (by decide) (fun _ => rfl) (by omega) (zD35_ok (by omega) 1000001 μ hT) (fun x27 m25 T26 => ?_)
  refine zK_ifne rfl (fun _ => ?_) (fun _ => ?_)
  · refine zK_op rfl rfl ?_
    refine zK_op rfl rfl ?_
    refine zK_cI rfl (as := [.ref 181, .ref 1000002]) (rest := []) rfl rfl (xe_rcvO (zT_sh T26 rfl)) (Nat.le_of_ble_eq_true rfl) (Nat.le_of_ble_eq_true rfl) (by decide) (fun _ => rfl) (by omega) (zD35_ok (by omega) 1000002 m25 T26) (fun x30 m28 T29 => ?_)
    refine zK_ifeq rfl (fun _ => ?_) (fun _ => ?_)
    · exact zD33_38_ok hd _ m28 T29
    exact zD33_34_ok hd hc23 v1 m28 T29
  exact zD33_34_ok hd hc23 v1 m25 T26
theorem zD33_23_ok {μ0 : xe_Mem} {δ : xe_Dy} {d : Nat} (hd : 153 ≤ d)  : ∀ n : Nat, ∀ (v1 : Int32) (μ : xe_Mem), zT zPc μ0 μ → zK zPc μ0 δ d 33 23 [some (.ref 181), some (.int v1)] [] μ (zD33_23  n v1 μ) := by
  intro n
  induction n with
  | zero => exact fun _ _ _  => fun o μ' h => by cases h
  | succ n ih => exact zD33_23_bok hd   ih
theorem zD33_ok {μ0 : xe_Mem} {δ : xe_Dy} {d : Nat} (hd : 153 ≤ d) (μ : xe_Mem) (hT : zT zPc μ0 μ) : zK zPc μ0 δ d 33 0 (xe_init [.ref 181] (xM_L 33)) [] μ (zD33 μ) := by
  unfold zD33
  show zK zPc μ0 δ d 33 0 [some (.ref 181), none] [] μ _
  refine zK_op rfl rfl ?_
  refine zK_gRl (b := 7) rfl rfl rfl hT ?_
  refine zK_cV rfl (as := [.ref 7]) (rest := []) rfl rfl (xe_rcvO (zT_sh hT rfl)) (Nat.le_of_ble_eq_true rfl) (Nat.le_of_ble_eq_true rfl) (by decide) (fun _ => rfl) (by omega) (zD34_ok (by omega) μ hT) (fun m1 T2 => ?_)
  refine zK_op rfl rfl ?_
  refine zK_gRl (b := 182) rfl rfl rfl T2 ?_
  refine zK_op rfl rfl ?_
  refine zK_pI rfl rfl T2 rfl (fun m3 T4 => ?_)
  refine zK_op rfl rfl ?_
  refine zK_gRl (b := 186) rfl rfl rfl T4 ?_
  refine zK_op rfl rfl ?_
  refine zK_pI rfl rfl T4 rfl (fun m5 T6 => ?_)
  refine zK_op rfl rfl ?_
  refine zK_gRl (b := 190) rfl rfl rfl T6 ?_
  refine zK_op rfl rfl ?_
  refine zK_pI rfl rfl T6 rfl (fun m7 T8 => ?_)
  refine zK_op rfl rfl ?_
  refine zK_op rfl rfl ?_
  refine zK_pI rfl rfl T8 rfl (fun m9 T10 => ?_)
  refine zK_op rfl rfl ?_
  refine zK_op rfl rfl ?_
  refine zK_pI rfl rfl T10 rfl (fun m11 T12 => ?_)
  refine zK_op rfl rfl ?_
  refine zK_op rfl rfl ?_
  exact zD33_23_ok hd zfu 0 m11 T12
