/-! methods as functions (by wip/whole/gen/dec.py) -/
/-! 71 LogicalTimes$Mode.checkTasks()V -/
def zD71_24_b (c7 : Nat → Int32 → xe_Mem → zO) (c24 : Nat → Int32 → Int32 → xe_Mem → zO) (v0 : Nat) (v1 : Int32) (v2 : Int32) (μ : xe_Mem) : zO := if 4 ≤ v2 then zq_o v0 2 <| zq_cV (zD79 v0 (v1 + 1) μ) fun m17 => c7 v0 (v1 + (1)) m17 else zq_o v0 2 <| zq_cV (zD77 v0 v2 v1 μ) fun m20 => c24 v0 v1 (v2 + (1)) m20
def zD71_24  (c7 : Nat → Int32 → xe_Mem → zO) : Nat → Nat → Int32 → Int32 → xe_Mem → zO
  | 0 => fun _ _ _ _  => none
  | n + 1 => zD71_24_b  c7 (zD71_24  c7 n)
def zD71_22 (c7 : Nat → Int32 → xe_Mem → zO) (v0 : Nat) (v1 : Int32) (μ : xe_Mem) : zO := zD71_24 c7 zfu v0 v1 0 μ
def zD71_7_b (c7 : Nat → Int32 → xe_Mem → zO) (v0 : Nat) (v1 : Int32) (μ : xe_Mem) : zO := zq_o v0 2 <| if (xe_I μ v0 1) ≤ v1 then some (.inl none, μ) else zq_cV (zD74 v0 v1 μ) fun m7 => zq_s (xe_R m7 v0 7) fun b9 => zq_a b9 3 fun N11 => zq_x v1 N11 fun j12 => if (xe_I m7 b9 j12) = 0 then zD71_22 c7 v0 v1 m7 else zq_cV (zD76 v0 v1 m7) fun m22 => zD71_22 c7 v0 v1 m22
def zD71_7   : Nat → Nat → Int32 → xe_Mem → zO
  | 0 => fun _ _ _  => none
  | n + 1 => zD71_7_b   (zD71_7   n)
def zD71  (a0 : Nat) (μ : xe_Mem) : zO := zq_o a0 2 <| zq_m (xe_setI μ a0 12 0) fun m2 => zq_cV (zD72 a0 m2) fun m4 => zD71_7 zfu a0 0 m4
theorem zD71_24_bok {μ0 : xe_Mem} {δ : xe_Dy} {d : Nat} (hd : 2 ≤ d) {c7 : Nat → Int32 → xe_Mem → zO} (hc7 : ∀ (v0 : Nat) (v1 : Int32) (l2 : Option Value) (μ : xe_Mem), zT zPc μ0 μ → zK zPc μ0 δ d 71 7 [some (.ref v0), some (.int v1), l2] [] μ (c7 v0 v1 μ)) {c24 : Nat → Int32 → Int32 → xe_Mem → zO} (hc24 : ∀ (v0 : Nat) (v1 : Int32) (v2 : Int32) (μ : xe_Mem), zT zPc μ0 μ → zK zPc μ0 δ d 71 24 [some (.ref v0), some (.int v1), some (.int v2)] [] μ (c24 v0 v1 v2 μ)) : ∀ (v0 : Nat) (v1 : Int32) (v2 : Int32) (μ : xe_Mem), zT zPc μ0 μ → zK zPc μ0 δ d 71 24 [some (.ref v0), some (.int v1), some (.int v2)] [] μ (zD71_24_b  c7 c24 v0 v1 v2 μ) := by
  intro v0 v1 v2 μ hT
  unfold zD71_24_b
  refine zK_op rfl rfl ?_
  refine zK_op rfl rfl ?_
  refine zK_icge rfl (fun _ => ?_) (fun _ => ?_)
  · refine zK_op rfl rfl ?_
    refine zK_op rfl rfl ?_
    refine zK_op rfl rfl ?_
    refine zK_op rfl rfl ?_
    refine zK_o (fun h16 ph16 => ?_)
    refine zK_cV rfl (as := [.ref v0, .int (v1 + 1)]) (rest := []) rfl rfl (xe_rcvO (zT_sh hT h16)) (Nat.le_of_ble_eq_true rfl) (Nat.le_of_ble_eq_true rfl) (by decide) (fun _ => rfl) (by omega) (zD79_ok (by omega) v0 (v1 + 1) μ hT) (fun m17 T18 => ?_)
    refine zK_op rfl rfl ?_
    refine zK_op rfl rfl ?_
    exact hc7 v0 (v1 + (1)) _ m17 T18
  refine zK_op rfl rfl ?_
  refine zK_op rfl rfl ?_
  refine zK_op rfl rfl ?_
  refine zK_o (fun h19 ph19 => ?_)
  refine zK_cV rfl (as := [.ref v0, .int v2, .int v1]) (rest := []) rfl rfl (xe_rcvO (zT_sh hT h19)) (Nat.le_of_ble_eq_true rfl) (Nat.le_of_ble_eq_true rfl) (by decide) (fun _ => rfl) (by omega) (zD77_ok (by omega) v0 v2 v1 μ hT) (fun m20 T21 => ?_)
  refine zK_op rfl rfl ?_
  refine zK_op rfl rfl ?_
  exact hc24 v0 v1 (v2 + (1)) m20 T21
theorem zD71_24_ok {μ0 : xe_Mem} {δ : xe_Dy} {d : Nat} (hd : 2 ≤ d) {c7 : Nat → Int32 → xe_Mem → zO} (hc7 : ∀ (v0 : Nat) (v1 : Int32) (l2 : Option Value) (μ : xe_Mem), zT zPc μ0 μ → zK zPc μ0 δ d 71 7 [some (.ref v0), some (.int v1), l2] [] μ (c7 v0 v1 μ)) : ∀ n : Nat, ∀ (v0 : Nat) (v1 : Int32) (v2 : Int32) (μ : xe_Mem), zT zPc μ0 μ → zK zPc μ0 δ d 71 24 [some (.ref v0), some (.int v1), some (.int v2)] [] μ (zD71_24  c7 n v0 v1 v2 μ) := by
  intro n
  induction n with
  | zero => exact fun _ _ _ _ _  => fun o μ' h => by cases h
  | succ n ih => exact zD71_24_bok hd  hc7 ih
theorem zD71_22_ok {μ0 : xe_Mem} {δ : xe_Dy} {d : Nat} (hd : 2 ≤ d) {c7 : Nat → Int32 → xe_Mem → zO} (hc7 : ∀ (v0 : Nat) (v1 : Int32) (l2 : Option Value) (μ : xe_Mem), zT zPc μ0 μ → zK zPc μ0 δ d 71 7 [some (.ref v0), some (.int v1), l2] [] μ (c7 v0 v1 μ)) : ∀ (v0 : Nat) (v1 : Int32) (l2 : Option Value) (μ : xe_Mem), zT zPc μ0 μ → zK zPc μ0 δ d 71 22 [some (.ref v0), some (.int v1), l2] [] μ (zD71_22  c7 v0 v1 μ) := by
  intro v0 v1 l2 μ hT
  unfold zD71_22
  refine zK_op rfl rfl ?_
  refine zK_op rfl rfl ?_
  exact zD71_24_ok hd hc7 zfu v0 v1 0 μ hT
theorem zD71_7_bok {μ0 : xe_Mem} {δ : xe_Dy} {d : Nat} (hd : 2 ≤ d)  {c7 : Nat → Int32 → xe_Mem → zO} (hc7 : ∀ (v0 : Nat) (v1 : Int32) (l2 : Option Value) (μ : xe_Mem), zT zPc μ0 μ → zK zPc μ0 δ d 71 7 [some (.ref v0), some (.int v1), l2] [] μ (c7 v0 v1 μ)) : ∀ (v0 : Nat) (v1 : Int32) (l2 : Option Value) (μ : xe_Mem), zT zPc μ0 μ → zK zPc μ0 δ d 71 7 [some (.ref v0), some (.int v1), l2] [] μ (zD71_7_b  c7 v0 v1 μ) := by
  intro v0 v1 l2 μ hT
  unfold zD71_7_b
  refine zK_op rfl rfl ?_
  refine zK_op rfl rfl ?_
  refine zK_o (fun h6 ph6 => ?_)
  refine zK_gI rfl h6 hT ?_
  refine zK_icge rfl (fun _ => ?_) (fun _ => ?_)
  · exact zK_ret0 rfl hT
  refine zK_op rfl rfl ?_
  refine zK_op rfl rfl ?_
  refine zK_cV rfl (as := [.ref v0, .int v1]) (rest := []) rfl rfl (xe_rcvO (zT_sh hT h6)) (Nat.le_of_ble_eq_true rfl) (Nat.le_of_ble_eq_true rfl) (by decide) (fun _ => rfl) (by omega) (zD74_ok (by omega) v0 v1 μ hT) (fun m7 T8 => ?_)
  refine zK_op rfl rfl ?_
  refine zK_gRs rfl h6 T8 (fun b9 => ?_)
  refine zK_op rfl rfl ?_
  refine zK_a (fun N11 h10 ph10 => ?_)
  refine zK_x (fun j12 h13 h14 h15 => ?_)
  refine zK_aI rfl h10 T8 h13 h14 h15 ?_
  refine zK_ifeq rfl (fun _ => ?_) (fun _ => ?_)
  · exact zD71_22_ok hd hc7 v0 v1 _ m7 T8
  refine zK_op rfl rfl ?_
  refine zK_op rfl rfl ?_
  refine zK_cV rfl (as := [.ref v0, .int v1]) (rest := []) rfl rfl (xe_rcvO (zT_sh T8 h6)) (Nat.le_of_ble_eq_true rfl) (Nat.le_of_ble_eq_true rfl) (by decide) (fun _ => rfl) (by omega) (zD76_ok (by omega) v0 v1 m7 T8) (fun m22 T23 => ?_)
  exact zD71_22_ok hd hc7 v0 v1 _ m22 T23
theorem zD71_7_ok {μ0 : xe_Mem} {δ : xe_Dy} {d : Nat} (hd : 2 ≤ d)  : ∀ n : Nat, ∀ (v0 : Nat) (v1 : Int32) (l2 : Option Value) (μ : xe_Mem), zT zPc μ0 μ → zK zPc μ0 δ d 71 7 [some (.ref v0), some (.int v1), l2] [] μ (zD71_7  n v0 v1 μ) := by
  intro n
  induction n with
  | zero => exact fun _ _ _ _ _  => fun o μ' h => by cases h
  | succ n ih => exact zD71_7_bok hd   ih
theorem zD71_ok {μ0 : xe_Mem} {δ : xe_Dy} {d : Nat} (hd : 2 ≤ d) (a0 : Nat) (μ : xe_Mem) (hT : zT zPc μ0 μ) : zK zPc μ0 δ d 71 0 (xe_init [.ref a0] (xM_L 71)) [] μ (zD71 a0 μ) := by
  unfold zD71
  show zK zPc μ0 δ d 71 0 [some (.ref a0), none, none] [] μ _
  refine zK_op rfl rfl ?_
  refine zK_op rfl rfl ?_
  refine zK_o (fun h1 ph1 => ?_)
  refine zK_pI rfl h1 hT ph1 (fun m2 T3 => ?_)
  refine zK_op rfl rfl ?_
  refine zK_cV rfl (as := [.ref a0]) (rest := []) rfl rfl (xe_rcvO (zT_sh T3 h1)) (Nat.le_of_ble_eq_true rfl) (Nat.le_of_ble_eq_true rfl) (by decide) (fun _ => rfl) (by omega) (zD72_ok (by omega) a0 m2 T3) (fun m4 T5 => ?_)
  refine zK_op rfl rfl ?_
  refine zK_op rfl rfl ?_
  exact zD71_7_ok hd zfu a0 0 _ m4 T5
/-! 80 LogicalTimes$Mode.judge()V -/
def zD80_8_b (c8 : Nat → Int32 → xe_Mem → zO) (v0 : Nat) (v1 : Int32) (μ : xe_Mem) : zO := zq_o v0 2 <| if (xe_I μ v0 10) ≤ v1 then some (.inl none, μ) else zq_s (xe_R μ v0 11) fun b3 => zq_a b3 0 fun N5 => zq_x v1 N5 fun j6 => if 0 ≤ (xe_I μ b3 j6) then c8 v0 (v1 + (1)) μ else zq_m (xe_setI μ v0 12 ((1000 + v1) + 1)) fun m10 => some (.inl none, m10)
def zD80_8   : Nat → Nat → Int32 → xe_Mem → zO
  | 0 => fun _ _ _  => none
  | n + 1 => zD80_8_b   (zD80_8   n)
def zD80  (a0 : Nat) (μ : xe_Mem) : zO := zq_o a0 2 <| if (xe_I μ a0 12) = 0 then zD80_8 zfu a0 0 μ else zq_cV (zD72 a0 μ) fun m12 => some (.inl none, m12)
theorem zD80_8_bok {μ0 : xe_Mem} {δ : xe_Dy} {d : Nat} (hd : 2 ≤ d)  {c8 : Nat → Int32 → xe_Mem → zO} (hc8 : ∀ (v0 : Nat) (v1 : Int32) (μ : xe_Mem), zT zPc μ0 μ → zK zPc μ0 δ d 80 8 [some (.ref v0), some (.int v1)] [] μ (c8 v0 v1 μ)) : ∀ (v0 : Nat) (v1 : Int32) (μ : xe_Mem), zT zPc μ0 μ → zK zPc μ0 δ d 80 8 [some (.ref v0), some (.int v1)] [] μ (zD80_8_b  c8 v0 v1 μ) := by
  intro v0 v1 μ hT
  unfold zD80_8_b
  refine zK_op rfl rfl ?_
  refine zK_op rfl rfl ?_
  refine zK_o (fun h2 ph2 => ?_)
  refine zK_gI rfl h2 hT ?_
  refine zK_icge rfl (fun _ => ?_) (fun _ => ?_)
  · exact zK_ret0 rfl hT
  refine zK_op rfl rfl ?_
  refine zK_gRs rfl h2 hT (fun b3 => ?_)
  refine zK_op rfl rfl ?_
  refine zK_a (fun N5 h4 ph4 => ?_)
  refine zK_x (fun j6 h7 h8 h9 => ?_)
  refine zK_aI rfl h4 hT h7 h8 h9 ?_
  refine zK_ifge rfl (fun _ => ?_) (fun _ => ?_)
  · refine zK_op rfl rfl ?_
    refine zK_op rfl rfl ?_
    exact hc8 v0 (v1 + (1)) μ hT
  refine zK_op rfl rfl ?_
  refine zK_op rfl rfl ?_
  refine zK_op rfl rfl ?_
  refine zK_op rfl rfl ?_
  refine zK_op rfl rfl ?_
  refine zK_op rfl rfl ?_
  refine zK_pI rfl h2 hT ph2 (fun m10 T11 => ?_)
  exact zK_ret0 rfl T11
theorem zD80_8_ok {μ0 : xe_Mem} {δ : xe_Dy} {d : Nat} (hd : 2 ≤ d)  : ∀ n : Nat, ∀ (v0 : Nat) (v1 : Int32) (μ : xe_Mem), zT zPc μ0 μ → zK zPc μ0 δ d 80 8 [some (.ref v0), some (.int v1)] [] μ (zD80_8  n v0 v1 μ) := by
  intro n
  induction n with
  | zero => exact fun _ _ _ _  => fun o μ' h => by cases h
  | succ n ih => exact zD80_8_bok hd   ih
theorem zD80_ok {μ0 : xe_Mem} {δ : xe_Dy} {d : Nat} (hd : 2 ≤ d) (a0 : Nat) (μ : xe_Mem) (hT : zT zPc μ0 μ) : zK zPc μ0 δ d 80 0 (xe_init [.ref a0] (xM_L 80)) [] μ (zD80 a0 μ) := by
  unfold zD80
  show zK zPc μ0 δ d 80 0 [some (.ref a0), none] [] μ _
  refine zK_op rfl rfl ?_
  refine zK_o (fun h1 ph1 => ?_)
  refine zK_gI rfl h1 hT ?_
  refine zK_ifeq rfl (fun _ => ?_) (fun _ => ?_)
  · refine zK_op rfl rfl ?_
    refine zK_op rfl rfl ?_
    exact zD80_8_ok hd zfu a0 0 μ hT
  refine zK_op rfl rfl ?_
  refine zK_cV rfl (as := [.ref a0]) (rest := []) rfl rfl (xe_rcvO (zT_sh hT h1)) (Nat.le_of_ble_eq_true rfl) (Nat.le_of_ble_eq_true rfl) (by decide) (fun _ => rfl) (by omega) (zD72_ok (by omega) a0 μ hT) (fun m12 T13 => ?_)
  exact zK_ret0 rfl T13
/-! 68 LogicalTimes$Program.prepare()V -/
def zD68_2_b (c2 : Int32 → xe_Mem → zO) (v1 : Int32) (μ : xe_Mem) : zO := if (xe_I μ 7 6) ≤ v1 then some (.inl none, μ) else zq_x v1 4 fun j1 => zq_s (xe_R μ 15 j1) fun b5 => zq_cV (zD69 b5 μ) fun m6 => zq_x v1 4 fun j8 => zq_s (xe_R m6 15 j8) fun b12 => zq_o b12 2 <| zq_cV (zD71 b12 m6) fun m14 => zq_x v1 4 fun j16 => zq_s (xe_R m14 15 j16) fun b20 => zq_o b20 2 <| zq_cV (zD80 b20 m14) fun m22 => c2 (v1 + (1)) m22
def zD68_2   : Nat → Int32 → xe_Mem → zO
  | 0 => fun _ _  => none
  | n + 1 => zD68_2_b   (zD68_2   n)
def zD68   (μ : xe_Mem) : zO := zD68_2 zfu 0 μ
theorem zD68_2_bok {μ0 : xe_Mem} {δ : xe_Dy} {d : Nat} (hd : 3 ≤ d)  {c2 : Int32 → xe_Mem → zO} (hc2 : ∀ (v1 : Int32) (μ : xe_Mem), zT zPc μ0 μ → zK zPc μ0 δ d 68 2 [some (.ref 7), some (.int v1)] [] μ (c2 v1 μ)) : ∀ (v1 : Int32) (μ : xe_Mem), zT zPc μ0 μ → zK zPc μ0 δ d 68 2 [some (.ref 7), some (.int v1)] [] μ (zD68_2_b  c2 v1 μ) := by
  intro v1 μ hT
  unfold zD68_2_b
  refine zK_op rfl rfl ?_
  refine zK_op rfl rfl ?_
  refine zK_gI rfl rfl hT ?_
  refine zK_icge rfl (fun _ => ?_) (fun _ => ?_)
  · exact zK_ret0 rfl hT
  refine zK_op rfl rfl ?_
  refine zK_op rfl rfl ?_
  refine zK_gRl (b := 15) rfl rfl rfl hT ?_
  refine zK_op rfl rfl ?_
  refine zK_x (fun j1 h2 h3 h4 => ?_)
  refine zK_aR rfl rfl hT h2 h3 h4 (fun b5 => ?_)
  refine zK_cV rfl (as := [.ref 7, .ref b5]) (rest := []) rfl rfl (xe_rcvO (zT_sh hT rfl)) (Nat.le_of_ble_eq_true rfl) (Nat.le_of_ble_eq_true rfl) (by decide) (fun _ => rfl) (by omega) (zD69_ok (by omega) b5 μ hT) (fun m6 T7 => ?_)
  refine zK_op rfl rfl ?_
  refine zK_gRl (b := 15) rfl rfl rfl T7 ?_
  refine zK_op rfl rfl ?_
  refine zK_x (fun j8 h9 h10 h11 => ?_)
  refine zK_aR rfl rfl T7 h9 h10 h11 (fun b12 => ?_)
  refine zK_o (fun h13 ph13 => ?_)
  refine zK_cV rfl (as := [.ref b12]) (rest := []) rfl rfl (xe_rcvO (zT_sh T7 h13)) (Nat.le_of_ble_eq_true rfl) (Nat.le_of_ble_eq_true rfl) (by decide) (fun _ => rfl) (by omega) (zD71_ok (by omega) b12 m6 T7) (fun m14 T15 => ?_)
  refine zK_op rfl rfl ?_
  refine zK_gRl (b := 15) rfl rfl rfl T15 ?_
  refine zK_op rfl rfl ?_
  refine zK_x (fun j16 h17 h18 h19 => ?_)
  refine zK_aR rfl rfl T15 h17 h18 h19 (fun b20 => ?_)
  refine zK_o (fun h21 ph21 => ?_)
  refine zK_cV rfl (as := [.ref b20]) (rest := []) rfl rfl (xe_rcvO (zT_sh T15 h21)) (Nat.le_of_ble_eq_true rfl) (Nat.le_of_ble_eq_true rfl) (by decide) (fun _ => rfl) (by omega) (zD80_ok (by omega) b20 m14 T15) (fun m22 T23 => ?_)
  refine zK_op rfl rfl ?_
  refine zK_op rfl rfl ?_
  exact hc2 (v1 + (1)) m22 T23
theorem zD68_2_ok {μ0 : xe_Mem} {δ : xe_Dy} {d : Nat} (hd : 3 ≤ d)  : ∀ n : Nat, ∀ (v1 : Int32) (μ : xe_Mem), zT zPc μ0 μ → zK zPc μ0 δ d 68 2 [some (.ref 7), some (.int v1)] [] μ (zD68_2  n v1 μ) := by
  intro n
  induction n with
  | zero => exact fun _ _ _  => fun o μ' h => by cases h
  | succ n ih => exact zD68_2_bok hd   ih
theorem zD68_ok {μ0 : xe_Mem} {δ : xe_Dy} {d : Nat} (hd : 3 ≤ d) (μ : xe_Mem) (hT : zT zPc μ0 μ) : zK zPc μ0 δ d 68 0 (xe_init [.ref 7] (xM_L 68)) [] μ (zD68 μ) := by
  unfold zD68
  show zK zPc μ0 δ d 68 0 [some (.ref 7), none] [] μ _
  refine zK_op rfl rfl ?_
  refine zK_op rfl rfl ?_
  exact zD68_2_ok hd zfu 0 μ hT
/-! 82 LogicalTimes$Program.allMessages()I -/
def zD82_4_b (c4 : Int32 → Int32 → xe_Mem → zO) (v1 : Int32) (v2 : Int32) (μ : xe_Mem) : zO := if (xe_I μ 7 6) ≤ v2 then some (.inl (some (.int v1)), μ) else zq_x v2 4 fun j1 => zq_s (xe_R μ 15 j1) fun b5 => zq_o b5 2 <| zq_vI (v1 + (xe_I μ b5 10)) fun x7 => c4 x7 (v2 + (1)) μ
def zD82_4   : Nat → Int32 → Int32 → xe_Mem → zO
  | 0 => fun _ _ _  => none
  | n + 1 => zD82_4_b   (zD82_4   n)
def zD82   (μ : xe_Mem) : zO := zD82_4 zfu 0 0 μ
theorem zD82_4_bok {μ0 : xe_Mem} {δ : xe_Dy} {d : Nat} (hd : 0 ≤ d)  {c4 : Int32 → Int32 → xe_Mem → zO} (hc4 : ∀ (v1 : Int32) (v2 : Int32) (μ : xe_Mem), zT zPc μ0 μ → zK zPc μ0 δ d 82 4 [some (.ref 7), some (.int v1), some (.int v2)] [] μ (c4 v1 v2 μ)) : ∀ (v1 : Int32) (v2 : Int32) (μ : xe_Mem), zT zPc μ0 μ → zK zPc μ0 δ d 82 4 [some (.ref 7), some (.int v1), some (.int v2)] [] μ (zD82_4_b  c4 v1 v2 μ) := by
  intro v1 v2 μ hT
  unfold zD82_4_b
  refine zK_op rfl rfl ?_
  refine zK_op rfl rfl ?_
  refine zK_gI rfl rfl hT ?_
  refine zK_icge rfl (fun _ => ?_) (fun _ => ?_)
  · refine zK_op rfl rfl ?_
    exact zK_ret1 rfl hT
  refine zK_op rfl rfl ?_
  refine zK_op rfl rfl ?_
  refine zK_gRl (b := 15) rfl rfl rfl hT ?_
  refine zK_op rfl rfl ?_
  refine zK_x (fun j1 h2 h3 h4 => ?_)
  refine zK_aR rfl rfl hT h2 h3 h4 (fun b5 => ?_)
  refine zK_o (fun h6 ph6 => ?_)
  refine zK_gI rfl h6 hT ?_
  refine zK_op rfl rfl ?_
  refine zK_vI (fun x7 => ?_)
  refine zK_op rfl rfl ?_
  refine zK_op rfl rfl ?_
  refine zK_op rfl rfl ?_
  exact hc4 x7 (v2 + (1)) μ hT
theorem zD82_4_ok {μ0 : xe_Mem} {δ : xe_Dy} {d : Nat} (hd : 0 ≤ d)  : ∀ n : Nat, ∀ (v1 : Int32) (v2 : Int32) (μ : xe_Mem), zT zPc μ0 μ → zK zPc μ0 δ d 82 4 [some (.ref 7), some (.int v1), some (.int v2)] [] μ (zD82_4  n v1 v2 μ) := by
  intro n
  induction n with
  | zero => exact fun _ _ _ _  => fun o μ' h => by cases h
  | succ n ih => exact zD82_4_bok hd   ih
theorem zD82_ok {μ0 : xe_Mem} {δ : xe_Dy} {d : Nat} (hd : 0 ≤ d) (μ : xe_Mem) (hT : zT zPc μ0 μ) : zK zPc μ0 δ d 82 0 (xe_init [.ref 7] (xM_L 82)) [] μ (zD82 μ) := by
  unfold zD82
  show zK zPc μ0 δ d 82 0 [some (.ref 7), none, none] [] μ _
  refine zK_op rfl rfl ?_
  refine zK_op rfl rfl ?_
  refine zK_op rfl rfl ?_
  refine zK_op rfl rfl ?_
  exact zD82_4_ok hd zfu 0 0 μ hT
/-! 81 LogicalTimes.count(I)I -/
def zD81  (a1 : Int32) (μ : xe_Mem) : zO := if a1 = 0 then some (.inl (some (.int (xe_I μ 7 4))), μ) else if a1 = 1 then some (.inl (some (.int (xe_I μ 7 5))), μ) else if a1 = 2 then some (.inl (some (.int (xe_I μ 7 6))), μ) else if a1 = 3 then some (.inl (some (.int (xe_I μ 7 7))), μ) else if a1 = 4 then zq_cI (zD82 μ) fun x8 m6 => some (.inl (some (.int x8)), m6) else some (.inl (some (.int ((-1)))), μ)
theorem zD81_ok {μ0 : xe_Mem} {δ : xe_Dy} {d : Nat} (hd : 1 ≤ d) (a1 : Int32) (μ : xe_Mem) (hT : zT zPc μ0 μ) : zK zPc μ0 δ d 81 0 (xe_init [.ref 0, .int a1] (xM_L 81)) [] μ (zD81 a1 μ) := by
  unfold zD81
  show zK zPc μ0 δ d 81 0 [some (.ref 0), some (.int a1)] [] μ _
  refine zK_op rfl rfl ?_
  refine zK_ite (fun h1 => ?_) (fun h1 => ?_)
  · rw [h1]
    refine zK_op (k' := 2) rfl (by rfl) ?_
    refine zK_op rfl rfl ?_
    refine zK_gRl (b := 7) rfl rfl rfl hT ?_
    refine zK_gI rfl rfl hT ?_
    exact zK_ret1 rfl hT
  refine zK_ite (fun h2 => ?_) (fun h2 => ?_)
  · rw [h2]
    refine zK_op (k' := 6) rfl (by rfl) ?_
    refine zK_op rfl rfl ?_
    refine zK_gRl (b := 7) rfl rfl rfl hT ?_
    refine zK_gI rfl rfl hT ?_
    exact zK_ret1 rfl hT
  refine zK_ite (fun h3 => ?_) (fun h3 => ?_)
  · rw [h3]
    refine zK_op (k' := 10) rfl (by rfl) ?_
    refine zK_op rfl rfl ?_
    refine zK_gRl (b := 7) rfl rfl rfl hT ?_
    refine zK_gI rfl rfl hT ?_
    exact zK_ret1 rfl hT
  refine zK_ite (fun h4 => ?_) (fun h4 => ?_)
  · rw [h4]
    refine zK_op (k' := 14) rfl (by rfl) ?_
    refine zK_op rfl rfl ?_
    refine zK_gRl (b := 7) rfl rfl rfl hT ?_
    refine zK_gI rfl rfl hT ?_
    exact zK_ret1 rfl hT
  refine zK_ite (fun h5 => ?_) (fun h5 => ?_)
  · rw [h5]
    refine zK_op (k' := 18) rfl (by rfl) ?_
    refine zK_op rfl rfl ?_
    refine zK_gRl (b := 7) rfl rfl rfl hT ?_
    refine zK_cI rfl (as := [.ref 7]) (rest := []) rfl rfl (xe_rcvO (zT_sh hT rfl)) (Nat.le_of_ble_eq_true rfl) (Nat.le_of_ble_eq_true rfl) (by decide) (fun _ => rfl) (by omega) (zD82_ok (by omega) μ hT) (fun x8 m6 T7 => ?_)
    exact zK_ret1 rfl T7
  refine zK_tswD rfl (by have a0 := zt_ne (0) (v := 0) (by decide) h1; have a1 := zt_ne (1) (v := 1) (by decide) h2; have a2 := zt_ne (2) (v := 2) (by decide) h3; have a3 := zt_ne (3) (v := 3) (by decide) h4; have a4 := zt_ne (4) (v := 4) (by decide) h5; simp only [List.length_cons, List.length_nil]; omega) ?_
  refine zK_op rfl rfl ?_
  exact zK_ret1 rfl hT
/-! 86 LogicalTimes.needBelow(II)V -/
def zD86_5 (μ : xe_Mem) : zO := zq_thr 14 μ
def zD86  (a0 : Int32) (a1 : Int32) (μ : xe_Mem) : zO := if a0 < 0 then zD86_5 μ else if a0 < a1 then some (.inl none, μ) else zD86_5 μ
theorem zD86_5_ok {μ0 : xe_Mem} {δ : xe_Dy} {d : Nat} (hd : 0 ≤ d)  : ∀ (l0 : Option Value) (l1 : Option Value) (μ : xe_Mem), zT zPc μ0 μ → zK zPc μ0 δ d 86 5 [l0, l1] [] μ (zD86_5  μ) := by
  intro l0 l1 μ hT
  unfold zD86_5
  exact zK_thr (c := 14) rfl (by decide) (fun _ => rfl) hT
theorem zD86_ok {μ0 : xe_Mem} {δ : xe_Dy} {d : Nat} (hd : 0 ≤ d) (a0 : Int32) (a1 : Int32) (μ : xe_Mem) (hT : zT zPc μ0 μ) : zK zPc μ0 δ d 86 0 (xe_init [.int a0, .int a1] (xM_L 86)) [] μ (zD86 a0 a1 μ) := by
  unfold zD86
  show zK zPc μ0 δ d 86 0 [some (.int a0), some (.int a1)] [] μ _
  refine zK_op rfl rfl ?_
  refine zK_iflt rfl (fun _ => ?_) (fun _ => ?_)
  · exact zD86_5_ok hd _ _ μ hT
  refine zK_op rfl rfl ?_
  refine zK_op rfl rfl ?_
  refine zK_iclt rfl (fun _ => ?_) (fun _ => ?_)
  · exact zK_ret0 rfl hT
  exact zD86_5_ok hd _ _ μ hT
/-! 85 LogicalTimes.taskNumbered(I)LLogicalTimes$Task; -/
def zD85  (a1 : Int32) (μ : xe_Mem) : zO := zq_cV (zD86 a1 (xe_I μ 7 7) μ) fun m1 => zq_x a1 24 fun j3 => zq_s (xe_R m1 16 j3) fun b7 => some (.inl (some (.ref b7)), m1)
theorem zD85_ok {μ0 : xe_Mem} {δ : xe_Dy} {d : Nat} (hd : 1 ≤ d) (a1 : Int32) (μ : xe_Mem) (hT : zT zPc μ0 μ) : zK zPc μ0 δ d 85 0 (xe_init [.ref 0, .int a1] (xM_L 85)) [] μ (zD85 a1 μ) := by
  unfold zD85
  show zK zPc μ0 δ d 85 0 [some (.ref 0), some (.int a1)] [] μ _
  refine zK_op rfl rfl ?_
  refine zK_op rfl rfl ?_
  refine zK_gRl (b := 7) rfl rfl rfl hT ?_
  refine zK_gI rfl rfl hT ?_
  refine zK_cV rfl (as := [.int a1, .int (xe_I μ 7 7)]) (rest := []) rfl rfl rfl (Nat.le_of_ble_eq_true rfl) (Nat.le_of_ble_eq_true rfl) (by decide) (fun _ => rfl) (by omega) (zD86_ok (by omega) a1 (xe_I μ 7 7) μ hT) (fun m1 T2 => ?_)
  refine zK_op rfl rfl ?_
  refine zK_gRl (b := 7) rfl rfl rfl T2 ?_
  refine zK_gRl (b := 16) rfl rfl rfl T2 ?_
  refine zK_op rfl rfl ?_
  refine zK_x (fun j3 h4 h5 h6 => ?_)
  refine zK_aR rfl rfl T2 h4 h5 h6 (fun b7 => ?_)
  exact zK_ret4 rfl T2
/-! 87 java/lang/Integer.bitCount(I)I -/
def zD87  (a0 : Int32) (μ : xe_Mem) : zO := zq_vI (a0 - (((a0.toUInt32 >>> ((1 : Int32).toUInt32 &&& Int32.toUInt32 31)).toInt32) &&& 1431655765)) fun x1 => zq_vI ((x1 &&& 858993459) + (((x1.toUInt32 >>> ((2 : Int32).toUInt32 &&& Int32.toUInt32 31)).toInt32) &&& 858993459)) fun x2 => zq_vI ((x2 + ((x2.toUInt32 >>> ((4 : Int32).toUInt32 &&& Int32.toUInt32 31)).toInt32)) &&& 252645135) fun x3 => zq_vI (x3 + ((x3.toUInt32 >>> ((8 : Int32).toUInt32 &&& Int32.toUInt32 31)).toInt32)) fun x4 => zq_vI (x4 + ((x4.toUInt32 >>> ((16 : Int32).toUInt32 &&& Int32.toUInt32 31)).toInt32)) fun x5 => some (.inl (some (.int (x5 &&& 63))), μ)
theorem zD87_ok {μ0 : xe_Mem} {δ : xe_Dy} {d : Nat} (hd : 0 ≤ d) (a0 : Int32) (μ : xe_Mem) (hT : zT zPc μ0 μ) : zK zPc μ0 δ d 87 0 (xe_init [.int a0] (xM_L 87)) [] μ (zD87 a0 μ) := by
  unfold zD87
  show zK zPc μ0 δ d 87 0 [some (.int a0)] [] μ _
  refine zK_op rfl rfl ?_
  refine zK_op rfl rfl ?_
  refine zK_op rfl rfl ?_
  refine zK_op rfl rfl ?_
  refine zK_op rfl rfl ?_
  refine zK_op rfl rfl ?_
  refine zK_op rfl rfl ?_
  refine zK_vI (fun x1 => ?_)
  refine zK_op rfl rfl ?_
  refine zK_op rfl rfl ?_
  refine zK_op rfl rfl ?_
  refine zK_op rfl rfl ?_
  refine zK_op rfl rfl ?_
  refine zK_op rfl rfl ?_
  refine zK_op rfl rfl ?_
  refine zK_op rfl rfl ?_
  refine zK_op rfl rfl ?_
  refine zK_op rfl rfl ?_
  refine zK_vI (fun x2 => ?_)
  refine zK_op rfl rfl ?_
  refine zK_op rfl rfl ?_
  refine zK_op rfl rfl ?_
  refine zK_op rfl rfl ?_
  refine zK_op rfl rfl ?_
  refine zK_op rfl rfl ?_
  refine zK_op rfl rfl ?_
  refine zK_op rfl rfl ?_
  refine zK_vI (fun x3 => ?_)
  refine zK_op rfl rfl ?_
  refine zK_op rfl rfl ?_
  refine zK_op rfl rfl ?_
  refine zK_op rfl rfl ?_
  refine zK_op rfl rfl ?_
  refine zK_op rfl rfl ?_
  refine zK_vI (fun x4 => ?_)
  refine zK_op rfl rfl ?_
  refine zK_op rfl rfl ?_
  refine zK_op rfl rfl ?_
  refine zK_op rfl rfl ?_
  refine zK_op rfl rfl ?_
  refine zK_op rfl rfl ?_
  refine zK_vI (fun x5 => ?_)
  refine zK_op rfl rfl ?_
  refine zK_op rfl rfl ?_
  refine zK_op rfl rfl ?_
  refine zK_op rfl rfl ?_
  exact zK_ret1 rfl hT
/-! 84 LogicalTimes.task(II)I -/
def zD84  (a1 : Int32) (a2 : Int32) (μ : xe_Mem) : zO := zq_cR (zD85 a1 μ) fun x3 m1 => if a2 = 0 then zq_o x3 8 <| some (.inl (some (.int (xe_I m1 x3 1))), m1) else if a2 = 1 then zq_o x3 8 <| some (.inl (some (.int (xe_I m1 x3 2))), m1) else if a2 = 2 then zq_o x3 8 <| some (.inl (some (.int (xe_I m1 x3 3))), m1) else if a2 = 3 then zq_o x3 8 <| some (.inl (some (.int (xe_I m1 x3 4))), m1) else if a2 = 4 then zq_o x3 8 <| some (.inl (some (.int (xe_I m1 x3 5))), m1) else if a2 = 5 then zq_o x3 8 <| zq_cI (zD87 (xe_I m1 x3 6) m1) fun x18 m16 => some (.inl (some (.int x18)), m16) else zq_thr 14 m1
theorem zD84_ok {μ0 : xe_Mem} {δ : xe_Dy} {d : Nat} (hd : 2 ≤ d) (a1 : Int32) (a2 : Int32) (μ : xe_Mem) (hT : zT zPc μ0 μ) : zK zPc μ0 δ d 84 0 (xe_init [.ref 0, .int a1, .int a2] (xM_L 84)) [] μ (zD84 a1 a2 μ) := by
  unfold zD84
  show zK zPc μ0 δ d 84 0 [some (.ref 0), some (.int a1), some (.int a2), none] [] μ _
  refine zK_op rfl rfl ?_
  refine zK_op rfl rfl ?_
  refine zK_cR rfl (as := [.ref 0, .int a1]) (rest := []) rfl rfl (xe_rcvO (zT_sh hT rfl)) (Nat.le_of_ble_eq_true rfl) (Nat.le_of_ble_eq_true rfl) (by decide) (fun _ => rfl) (by omega) (zD85_ok (by omega) a1 μ hT) (fun x3 m1 T2 => ?_)
  refine zK_op rfl rfl ?_
  refine zK_op rfl rfl ?_
  refine zK_ite (fun h4 => ?_) (fun h4 => ?_)
  · rw [h4]
    refine zK_op (k' := 6) rfl (by rfl) ?_
    refine zK_op rfl rfl ?_
    refine zK_o (fun h5 ph5 => ?_)
    refine zK_gI rfl h5 T2 ?_
    exact zK_ret1 rfl T2
  refine zK_ite (fun h6 => ?_) (fun h6 => ?_)
  · rw [h6]
    refine zK_op (k' := 9) rfl (by rfl) ?_
    refine zK_op rfl rfl ?_
    refine zK_o (fun h7 ph7 => ?_)
    refine zK_gI rfl h7 T2 ?_
    exact zK_ret1 rfl T2
  refine zK_ite (fun h8 => ?_) (fun h8 => ?_)
  · rw [h8]
    refine zK_op (k' := 12) rfl (by rfl) ?_
    refine zK_op rfl rfl ?_
    refine zK_o (fun h9 ph9 => ?_)
    refine zK_gI rfl h9 T2 ?_
    exact zK_ret1 rfl T2
  refine zK_ite (fun h10 => ?_) (fun h10 => ?_)
  · rw [h10]
    refine zK_op (k' := 15) rfl (by rfl) ?_
    refine zK_op rfl rfl ?_
    refine zK_o (fun h11 ph11 => ?_)
    refine zK_gI rfl h11 T2 ?_
    exact zK_ret1 rfl T2
  refine zK_ite (fun h12 => ?_) (fun h12 => ?_)
  · rw [h12]
    refine zK_op (k' := 18) rfl (by rfl) ?_
    refine zK_op rfl rfl ?_
    refine zK_o (fun h13 ph13 => ?_)
    refine zK_gI rfl h13 T2 ?_
    exact zK_ret1 rfl T2
  refine zK_ite (fun h14 => ?_) (fun h14 => ?_)
  · rw [h14]
    refine zK_op (k' := 21) rfl (by rfl) ?_
    refine zK_op rfl rfl ?_
    refine zK_o (fun h15 ph15 => ?_)
    refine zK_gI rfl h15 T2 ?_
    refine zK_cI rfl (as := [.int (xe_I m1 x3 6)]) (rest := []) rfl rfl rfl (Nat.le_of_ble_eq_true rfl) (Nat.le_of_ble_eq_true rfl) (by decide) (fun _ => rfl) (by omega) (zD87_ok (by omega) (xe_I m1 x3 6) m1 T2) (fun x18 m16 T17 => ?_)
    exact zK_ret1 rfl T17
  refine zK_tswD rfl (by have a0 := zt_ne (0) (v := 0) (by decide) h4; have a1 := zt_ne (1) (v := 1) (by decide) h6; have a2 := zt_ne (2) (v := 2) (by decide) h8; have a3 := zt_ne (3) (v := 3) (by decide) h10; have a4 := zt_ne (4) (v := 4) (by decide) h12; have a5 := zt_ne (5) (v := 5) (by decide) h14; simp only [List.length_cons, List.length_nil]; omega) ?_
  exact zK_thr (c := 14) rfl (by decide) (fun _ => rfl) T2
/-! 90 LogicalTimes.modeNumbered(I)LLogicalTimes$Mode; -/
def zD90  (a1 : Int32) (μ : xe_Mem) : zO := zq_cV (zD86 a1 (xe_I μ 7 6) μ) fun m1 => zq_x a1 4 fun j3 => zq_s (xe_R m1 15 j3) fun b7 => some (.inl (some (.ref b7)), m1)
theorem zD90_ok {μ0 : xe_Mem} {δ : xe_Dy} {d : Nat} (hd : 1 ≤ d) (a1 : Int32) (μ : xe_Mem) (hT : zT zPc μ0 μ) : zK zPc μ0 δ d 90 0 (xe_init [.ref 0, .int a1] (xM_L 90)) [] μ (zD90 a1 μ) := by
  unfold zD90
  show zK zPc μ0 δ d 90 0 [some (.ref 0), some (.int a1)] [] μ _
  refine zK_op rfl rfl ?_
  refine zK_op rfl rfl ?_
  refine zK_gRl (b := 7) rfl rfl rfl hT ?_
  refine zK_gI rfl rfl hT ?_
  refine zK_cV rfl (as := [.int a1, .int (xe_I μ 7 6)]) (rest := []) rfl rfl rfl (Nat.le_of_ble_eq_true rfl) (Nat.le_of_ble_eq_true rfl) (by decide) (fun _ => rfl) (by omega) (zD86_ok (by omega) a1 (xe_I μ 7 6) μ hT) (fun m1 T2 => ?_)
  refine zK_op rfl rfl ?_
  refine zK_gRl (b := 7) rfl rfl rfl T2 ?_
  refine zK_gRl (b := 15) rfl rfl rfl T2 ?_
  refine zK_op rfl rfl ?_
  refine zK_x (fun j3 h4 h5 h6 => ?_)
  refine zK_aR rfl rfl T2 h4 h5 h6 (fun b7 => ?_)
  exact zK_ret4 rfl T2
/-! 89 LogicalTimes.check(I)I -/
def zD89  (a1 : Int32) (μ : xe_Mem) : zO := zq_cR (zD90 a1 μ) fun x3 m1 => zq_o x3 2 <| some (.inl (some (.int (xe_I m1 x3 12))), m1)
theorem zD89_ok {μ0 : xe_Mem} {δ : xe_Dy} {d : Nat} (hd : 2 ≤ d) (a1 : Int32) (μ : xe_Mem) (hT : zT zPc μ0 μ) : zK zPc μ0 δ d 89 0 (xe_init [.ref 0, .int a1] (xM_L 89)) [] μ (zD89 a1 μ) := by
  unfold zD89
  show zK zPc μ0 δ d 89 0 [some (.ref 0), some (.int a1)] [] μ _
  refine zK_op rfl rfl ?_
  refine zK_op rfl rfl ?_
  refine zK_cR rfl (as := [.ref 0, .int a1]) (rest := []) rfl rfl (xe_rcvO (zT_sh hT rfl)) (Nat.le_of_ble_eq_true rfl) (Nat.le_of_ble_eq_true rfl) (by decide) (fun _ => rfl) (by omega) (zD90_ok (by omega) a1 μ hT) (fun x3 m1 T2 => ?_)
  refine zK_o (fun h4 ph4 => ?_)
  refine zK_gI rfl h4 T2 ?_
  exact zK_ret1 rfl T2
/-! 92 LogicalTimes.slack(I)I -/
def zD92  (a1 : Int32) (μ : xe_Mem) : zO := zq_cR (zD85 a1 μ) fun x3 m1 => zq_o x3 8 <| some (.inl (some (.int (xe_I m1 x3 13))), m1)
theorem zD92_ok {μ0 : xe_Mem} {δ : xe_Dy} {d : Nat} (hd : 2 ≤ d) (a1 : Int32) (μ : xe_Mem) (hT : zT zPc μ0 μ) : zK zPc μ0 δ d 92 0 (xe_init [.ref 0, .int a1] (xM_L 92)) [] μ (zD92 a1 μ) := by
  unfold zD92
  show zK zPc μ0 δ d 92 0 [some (.ref 0), some (.int a1)] [] μ _
  refine zK_op rfl rfl ?_
  refine zK_op rfl rfl ?_
  refine zK_cR rfl (as := [.ref 0, .int a1]) (rest := []) rfl rfl (xe_rcvO (zT_sh hT rfl)) (Nat.le_of_ble_eq_true rfl) (Nat.le_of_ble_eq_true rfl) (by decide) (fun _ => rfl) (by omega) (zD85_ok (by omega) a1 μ hT) (fun x3 m1 T2 => ?_)
  refine zK_o (fun h4 ph4 => ?_)
  refine zK_gI rfl h4 T2 ?_
  exact zK_ret1 rfl T2
/-! 94 LogicalTimes.slot(II)I -/
def zD94_10 (μ : xe_Mem) : zO := zq_thr 14 μ
def zD94  (a1 : Int32) (a2 : Int32) (μ : xe_Mem) : zO := zq_cR (zD90 a1 μ) fun x3 m1 => if a2 < 0 then zD94_10 m1 else zq_o x3 2 <| if a2 < (xe_I m1 x3 10) then zq_s (xe_R m1 x3 11) fun b5 => zq_a b5 0 fun N7 => zq_x a2 N7 fun j8 => some (.inl (some (.int (xe_I m1 b5 j8))), m1) else zD94_10 m1
theorem zD94_10_ok {μ0 : xe_Mem} {δ : xe_Dy} {d : Nat} (hd : 2 ≤ d)  : ∀ (l0 : Option Value) (l1 : Option Value) (l2 : Option Value) (l3 : Option Value) (μ : xe_Mem), zT zPc μ0 μ → zK zPc μ0 δ d 94 10 [l0, l1, l2, l3] [] μ (zD94_10  μ) := by
  intro l0 l1 l2 l3 μ hT
  unfold zD94_10
  exact zK_thr (c := 14) rfl (by decide) (fun _ => rfl) hT
theorem zD94_ok {μ0 : xe_Mem} {δ : xe_Dy} {d : Nat} (hd : 2 ≤ d) (a1 : Int32) (a2 : Int32) (μ : xe_Mem) (hT : zT zPc μ0 μ) : zK zPc μ0 δ d 94 0 (xe_init [.ref 0, .int a1, .int a2] (xM_L 94)) [] μ (zD94 a1 a2 μ) := by
  unfold zD94
  show zK zPc μ0 δ d 94 0 [some (.ref 0), some (.int a1), some (.int a2), none] [] μ _
  refine zK_op rfl rfl ?_
  refine zK_op rfl rfl ?_
  refine zK_cR rfl (as := [.ref 0, .int a1]) (rest := []) rfl rfl (xe_rcvO (zT_sh hT rfl)) (Nat.le_of_ble_eq_true rfl) (Nat.le_of_ble_eq_true rfl) (by decide) (fun _ => rfl) (by omega) (zD90_ok (by omega) a1 μ hT) (fun x3 m1 T2 => ?_)
  refine zK_op rfl rfl ?_
  refine zK_op rfl rfl ?_
  refine zK_iflt rfl (fun _ => ?_) (fun _ => ?_)
  · exact zD94_10_ok hd _ _ _ _ m1 T2
  refine zK_op rfl rfl ?_
  refine zK_op rfl rfl ?_
  refine zK_o (fun h4 ph4 => ?_)
  refine zK_gI rfl h4 T2 ?_
  refine zK_iclt rfl (fun _ => ?_) (fun _ => ?_)
  · refine zK_op rfl rfl ?_
    refine zK_gRs rfl h4 T2 (fun b5 => ?_)
    refine zK_op rfl rfl ?_
    refine zK_a (fun N7 h6 ph6 => ?_)
    refine zK_x (fun j8 h9 h10 h11 => ?_)
    refine zK_aI rfl h6 T2 h9 h10 h11 ?_
    exact zK_ret1 rfl T2
  exact zD94_10_ok hd _ _ _ _ m1 T2
/-! 97 LogicalTimes$Runner.restart(I)V -/
def zD97_61_b (c61 : Int32 → Int32 → xe_Mem → zO) (v1 : Int32) (v2 : Int32) (μ : xe_Mem) : zO := if (xe_I μ 7 7) ≤ v2 then some (.inl none, μ) else zq_x v2 24 fun j23 => zq_s (xe_R μ 16 j23) fun b27 => zq_o b27 8 <| zq_s (xe_R μ b27 14) fun b29 => zq_o b29 6 <| zq_m (xe_setI μ b29 2 ((-1))) fun m31 => c61 v1 (v2 + (1)) m31
def zD97_61   : Nat → Int32 → Int32 → xe_Mem → zO
  | 0 => fun _ _ _  => none
  | n + 1 => zD97_61_b   (zD97_61   n)
def zD97_35_b (c35 : Int32 → Int32 → xe_Mem → zO) (v1 : Int32) (v2 : Int32) (μ : xe_Mem) : zO := if 4 ≤ v2 then zq_cV (zD73 201 0 μ) fun m19 => zq_cV (zD73 202 ((-1)) m19) fun m21 => zD97_61 zfu v1 0 m21 else zq_x v2 4 fun j33 => zq_s (xe_R μ 196 j33) fun b37 => zq_a b37 0 fun N41 => zq_acp 0 (fun _ => true) 14 0 b37 0 12 μ fun m38 => c35 v1 (v2 + (1)) m38
def zD97_35   : Nat → Int32 → Int32 → xe_Mem → zO
  | 0 => fun _ _ _  => none
  | n + 1 => zD97_35_b   (zD97_35   n)
def zD97  (a1 : Int32) (μ : xe_Mem) : zO := zq_m (xe_setI μ 194 1 1) fun m1 => zq_m (xe_setI m1 194 2 a1) fun m3 => zq_m (xe_setI m3 194 3 0) fun m5 => zq_m (xe_setI m5 194 4 0) fun m7 => zq_m (xe_setI m7 194 5 0) fun m9 => zq_m (xe_setI m9 194 6 ((-1))) fun m11 => zq_m (xe_setI m11 194 7 0) fun m13 => zq_m (xe_setI m13 194 8 0) fun m15 => zq_acp 0 (fun _ => true) 14 0 195 0 12 m15 fun m17 => zD97_35 zfu a1 0 m17
theorem zD97_61_bok {μ0 : xe_Mem} {δ : xe_Dy} {d : Nat} (hd : 1 ≤ d)  {c61 : Int32 → Int32 → xe_Mem → zO} (hc61 : ∀ (v1 : Int32) (v2 : Int32) (μ : xe_Mem), zT zPc μ0 μ → zK zPc μ0 δ d 97 61 [some (.ref 194), some (.int v1), some (.int v2)] [] μ (c61 v1 v2 μ)) : ∀ (v1 : Int32) (v2 : Int32) (μ : xe_Mem), zT zPc μ0 μ → zK zPc μ0 δ d 97 61 [some (.ref 194), some (.int v1), some (.int v2)] [] μ (zD97_61_b  c61 v1 v2 μ) := by
  intro v1 v2 μ hT
  unfold zD97_61_b
  refine zK_op rfl rfl ?_
  refine zK_op rfl rfl ?_
  refine zK_gRl (b := 7) rfl rfl rfl hT ?_
  refine zK_gI rfl rfl hT ?_
  refine zK_icge rfl (fun _ => ?_) (fun _ => ?_)
  · exact zK_ret0 rfl hT
  refine zK_op rfl rfl ?_
  refine zK_gRl (b := 7) rfl rfl rfl hT ?_
  refine zK_gRl (b := 16) rfl rfl rfl hT ?_
  refine zK_op rfl rfl ?_
  refine zK_x (fun j23 h24 h25 h26 => ?_)
  refine zK_aR rfl rfl hT h24 h25 h26 (fun b27 => ?_)
  refine zK_o (fun h28 ph28 => ?_)
  refine zK_gRs rfl h28 hT (fun b29 => ?_)
  refine zK_op rfl rfl ?_
  refine zK_o (fun h30 ph30 => ?_)
  refine zK_pI rfl h30 hT ph30 (fun m31 T32 => ?_)
  refine zK_op rfl rfl ?_
  refine zK_op rfl rfl ?_
  exact hc61 v1 (v2 + (1)) m31 T32
theorem zD97_61_ok {μ0 : xe_Mem} {δ : xe_Dy} {d : Nat} (hd : 1 ≤ d)  : ∀ n : Nat, ∀ (v1 : Int32) (v2 : Int32) (μ : xe_Mem), zT zPc μ0 μ → zK zPc μ0 δ d 97 61 [some (.ref 194), some (.int v1), some (.int v2)] [] μ (zD97_61  n v1 v2 μ) := by
  intro n
  induction n with
  | zero => exact fun _ _ _ _  => fun o μ' h => by cases h
  | succ n ih => exact zD97_61_bok hd   ih
theorem zD97_35_bok {μ0 : xe_Mem} {δ : xe_Dy} {d : Nat} (hd : 1 ≤ d)  {c35 : Int32 → Int32 → xe_Mem → zO} (hc35 : ∀ (v1 : Int32) (v2 : Int32) (μ : xe_Mem), zT zPc μ0 μ → zK zPc μ0 δ d 97 35 [some (.ref 194), some (.int v1), some (.int v2)] [] μ (c35 v1 v2 μ)) : ∀ (v1 : Int32) (v2 : Int32) (μ : xe_Mem), zT zPc μ0 μ → zK zPc μ0 δ d 97 35 [some (.ref 194), some (.int v1), some (.int v2)] [] μ (zD97_35_b  c35 v1 v2 μ) := by
  intro v1 v2 μ hT
  unfold zD97_35_b
  refine zK_op rfl rfl ?_
  refine zK_op rfl rfl ?_
  refine zK_icge rfl (fun _ => ?_) (fun _ => ?_)
  · refine zK_op rfl rfl ?_
    refine zK_gRl (b := 201) rfl rfl rfl hT ?_
    refine zK_op rfl rfl ?_
    refine zK_cV rfl (as := [.ref 201, .int 0]) (rest := []) rfl rfl rfl (Nat.le_of_ble_eq_true rfl) (Nat.le_of_ble_eq_true rfl) (by decide) (fun _ => rfl) (by omega) (zD73_ok (by omega) 201 0 μ hT) (fun m19 T20 => ?_)
    refine zK_op rfl rfl ?_
    refine zK_gRl (b := 202) rfl rfl rfl T20 ?_
    refine zK_op rfl rfl ?_
    refine zK_cV rfl (as := [.ref 202, .int ((-1))]) (rest := []) rfl rfl rfl (Nat.le_of_ble_eq_true rfl) (Nat.le_of_ble_eq_true rfl) (by decide) (fun _ => rfl) (by omega) (zD73_ok (by omega) 202 ((-1)) m19 T20) (fun m21 T22 => ?_)
    refine zK_op rfl rfl ?_
    refine zK_op rfl rfl ?_
    exact zD97_61_ok hd zfu v1 0 m21 T22
  refine zK_op rfl rfl ?_
  refine zK_gRl (b := 7) rfl rfl rfl hT ?_
  refine zK_gRl (b := 14) rfl rfl rfl hT ?_
  refine zK_op rfl rfl ?_
  refine zK_op rfl rfl ?_
  refine zK_gRl (b := 196) rfl rfl rfl hT ?_
  refine zK_op rfl rfl ?_
  refine zK_x (fun j33 h34 h35 h36 => ?_)
  refine zK_aR rfl rfl hT h34 h35 h36 (fun b37 => ?_)
  refine zK_op rfl rfl ?_
  refine zK_op rfl rfl ?_
  refine zK_a (fun N41 h40 ph40 => ?_)
  refine zK_acp rfl hT ph40 (fun m38 T39 => ?_)
  refine zK_op rfl rfl ?_
  refine zK_op rfl rfl ?_
  exact hc35 v1 (v2 + (1)) m38 T39
theorem zD97_35_ok {μ0 : xe_Mem} {δ : xe_Dy} {d : Nat} (hd : 1 ≤ d)  : ∀ n : Nat, ∀ (v1 : Int32) (v2 : Int32) (μ : xe_Mem), zT zPc μ0 μ → zK zPc μ0 δ d 97 35 [some (.ref 194), some (.int v1), some (.int v2)] [] μ (zD97_35  n v1 v2 μ) := by
  intro n
  induction n with
  | zero => exact fun _ _ _ _  => fun o μ' h => by cases h
  | succ n ih => exact zD97_35_bok hd   ih
theorem zD97_ok {μ0 : xe_Mem} {δ : xe_Dy} {d : Nat} (hd : 1 ≤ d) (a1 : Int32) (μ : xe_Mem) (hT : zT zPc μ0 μ) : zK zPc μ0 δ d 97 0 (xe_init [.ref 194, .int a1] (xM_L 97)) [] μ (zD97 a1 μ) := by
  unfold zD97
  show zK zPc μ0 δ d 97 0 [some (.ref 194), some (.int a1), none] [] μ _
  refine zK_op rfl rfl ?_
  refine zK_op rfl rfl ?_
  refine zK_pZ rfl rfl (Or.inr rfl) hT rfl (fun m1 T2 => ?_)
  refine zK_op rfl rfl ?_
  refine zK_op rfl rfl ?_
  refine zK_pI rfl rfl T2 rfl (fun m3 T4 => ?_)
  refine zK_op rfl rfl ?_
  refine zK_op rfl rfl ?_
  refine zK_pI rfl rfl T4 rfl (fun m5 T6 => ?_)
  refine zK_op rfl rfl ?_
  refine zK_op rfl rfl ?_
  refine zK_pI rfl rfl T6 rfl (fun m7 T8 => ?_)
  refine zK_op rfl rfl ?_
  refine zK_op rfl rfl ?_
  refine zK_pI rfl rfl T8 rfl (fun m9 T10 => ?_)
  refine zK_op rfl rfl ?_
  refine zK_op rfl rfl ?_
  refine zK_pI rfl rfl T10 rfl (fun m11 T12 => ?_)
  refine zK_op rfl rfl ?_
  refine zK_op rfl rfl ?_
  refine zK_pI rfl rfl T12 rfl (fun m13 T14 => ?_)
  refine zK_op rfl rfl ?_
  refine zK_op rfl rfl ?_
  refine zK_pI rfl rfl T14 rfl (fun m15 T16 => ?_)
  refine zK_op rfl rfl ?_
  refine zK_gRl (b := 7) rfl rfl rfl T16 ?_
  refine zK_gRl (b := 14) rfl rfl rfl T16 ?_
  refine zK_op rfl rfl ?_
  refine zK_op rfl rfl ?_
  refine zK_gRl (b := 195) rfl rfl rfl T16 ?_
  refine zK_op rfl rfl ?_
  refine zK_op rfl rfl ?_
  refine zK_acp rfl T16 rfl (fun m17 T18 => ?_)
  refine zK_op rfl rfl ?_
  refine zK_op rfl rfl ?_
  exact zD97_35_ok hd zfu a1 0 m17 T18
/-! 96 LogicalTimes.reset(I)V -/
def zD96  (a1 : Int32) (μ : xe_Mem) : zO := zq_cR (zD90 a1 μ) fun x3 m1 => zq_cV (zD97 a1 m1) fun m4 => some (.inl none, m4)
theorem zD96_ok {μ0 : xe_Mem} {δ : xe_Dy} {d : Nat} (hd : 2 ≤ d) (a1 : Int32) (μ : xe_Mem) (hT : zT zPc μ0 μ) : zK zPc μ0 δ d 96 0 (xe_init [.ref 0, .int a1] (xM_L 96)) [] μ (zD96 a1 μ) := by
  unfold zD96
  show zK zPc μ0 δ d 96 0 [some (.ref 0), some (.int a1)] [] μ _
  refine zK_op rfl rfl ?_
  refine zK_op rfl rfl ?_
  refine zK_cR rfl (as := [.ref 0, .int a1]) (rest := []) rfl rfl (xe_rcvO (zT_sh hT rfl)) (Nat.le_of_ble_eq_true rfl) (Nat.le_of_ble_eq_true rfl) (by decide) (fun _ => rfl) (by omega) (zD90_ok (by omega) a1 μ hT) (fun x3 m1 T2 => ?_)
  refine zK_op rfl rfl ?_
  refine zK_op rfl rfl ?_
  refine zK_gRl (b := 194) rfl rfl rfl T2 ?_
  refine zK_op rfl rfl ?_
  refine zK_cV rfl (as := [.ref 194, .int a1]) (rest := []) rfl rfl (xe_rcvO (zT_sh T2 rfl)) (Nat.le_of_ble_eq_true rfl) (Nat.le_of_ble_eq_true rfl) (by decide) (fun _ => rfl) (by omega) (zD97_ok (by omega) a1 m1 T2) (fun m4 T5 => ?_)
  exact zK_ret0 rfl T5
/-! 100 LogicalTimes.needRunning()V -/
def zD100   (μ : xe_Mem) : zO := if (xe_I μ 194 1) = 0 then zq_thr 13 μ else some (.inl none, μ)
theorem zD100_ok {μ0 : xe_Mem} {δ : xe_Dy} {d : Nat} (hd : 0 ≤ d) (μ : xe_Mem) (hT : zT zPc μ0 μ) : zK zPc μ0 δ d 100 0 (xe_init [.ref 0] (xM_L 100)) [] μ (zD100 μ) := by
  unfold zD100
  show zK zPc μ0 δ d 100 0 [some (.ref 0)] [] μ _
  refine zK_op rfl rfl ?_
  refine zK_gRl (b := 194) rfl rfl rfl hT ?_
  refine zK_gI rfl rfl hT ?_
  refine zK_ifne rfl (fun _ => ?_) (fun _ => ?_)
  · exact zK_thr (c := 13) rfl (by decide) (fun _ => rfl) hT
  exact zK_ret0 rfl hT
/-! 99 LogicalTimes.takes(II)V -/
def zD99_12 (μ : xe_Mem) : zO := zq_thr 12 μ
def zD99  (a1 : Int32) (a2 : Int32) (μ : xe_Mem) : zO := zq_cV (zD100 μ) fun m1 => zq_cR (zD85 a1 m1) fun x5 m3 => if a2 < 0 then zD99_12 m3 else zq_o x5 8 <| if a2 ≤ (xe_I m3 x5 4) then zq_s (xe_R m3 x5 14) fun b7 => zq_o b7 6 <| zq_m (xe_setI m3 b7 2 a2) fun m9 => some (.inl none, m9) else zD99_12 m3
theorem zD99_12_ok {μ0 : xe_Mem} {δ : xe_Dy} {d : Nat} (hd : 2 ≤ d)  : ∀ (l0 : Option Value) (l1 : Option Value) (l2 : Option Value) (l3 : Option Value) (μ : xe_Mem), zT zPc μ0 μ → zK zPc μ0 δ d 99 12 [l0, l1, l2, l3] [] μ (zD99_12  μ) := by
  intro l0 l1 l2 l3 μ hT
  unfold zD99_12
  exact zK_thr (c := 12) rfl (by decide) (fun _ => rfl) hT
theorem zD99_ok {μ0 : xe_Mem} {δ : xe_Dy} {d : Nat} (hd : 2 ≤ d) (a1 : Int32) (a2 : Int32) (μ : xe_Mem) (hT : zT zPc μ0 μ) : zK zPc μ0 δ d 99 0 (xe_init [.ref 0, .int a1, .int a2] (xM_L 99)) [] μ (zD99 a1 a2 μ) := by
  unfold zD99
  show zK zPc μ0 δ d 99 0 [some (.ref 0), some (.int a1), some (.int a2), none] [] μ _
  refine zK_op rfl rfl ?_
  refine zK_cV rfl (as := [.ref 0]) (rest := []) rfl rfl (xe_rcvO (zT_sh hT rfl)) (Nat.le_of_ble_eq_true rfl) (Nat.le_of_ble_eq_true rfl) (by decide) (fun _ => rfl) (by omega) (zD100_ok (by omega) μ hT) (fun m1 T2 => ?_)
  refine zK_op rfl rfl ?_
  refine zK_op rfl rfl ?_
  refine zK_cR rfl (as := [.ref 0, .int a1]) (rest := []) rfl rfl (xe_rcvO (zT_sh T2 rfl)) (Nat.le_of_ble_eq_true rfl) (Nat.le_of_ble_eq_true rfl) (by decide) (fun _ => rfl) (by omega) (zD85_ok (by omega) a1 m1 T2) (fun x5 m3 T4 => ?_)
  refine zK_op rfl rfl ?_
  refine zK_op rfl rfl ?_
  refine zK_iflt rfl (fun _ => ?_) (fun _ => ?_)
  · exact zD99_12_ok hd _ _ _ _ m3 T4
  refine zK_op rfl rfl ?_
  refine zK_op rfl rfl ?_
  refine zK_o (fun h6 ph6 => ?_)
  refine zK_gI rfl h6 T4 ?_
  refine zK_icle rfl (fun _ => ?_) (fun _ => ?_)
  · refine zK_op rfl rfl ?_
    refine zK_gRs rfl h6 T4 (fun b7 => ?_)
    refine zK_op rfl rfl ?_
    refine zK_o (fun h8 ph8 => ?_)
    refine zK_pI rfl h8 T4 ph8 (fun m9 T10 => ?_)
    exact zK_ret0 rfl T10
  exact zD99_12_ok hd _ _ _ _ m3 T4
/-! 102 LogicalTimes.sensor(II)V -/
def zD102  (a1 : Int32) (a2 : Int32) (μ : xe_Mem) : zO := zq_cV (zD100 μ) fun m1 => zq_cV (zD86 a1 (xe_I m1 7 5) m1) fun m3 => zq_x a1 4 fun j5 => zq_m (xe_setI m3 201 j5 a2) fun m9 => some (.inl none, m9)
theorem zD102_ok {μ0 : xe_Mem} {δ : xe_Dy} {d : Nat} (hd : 1 ≤ d) (a1 : Int32) (a2 : Int32) (μ : xe_Mem) (hT : zT zPc μ0 μ) : zK zPc μ0 δ d 102 0 (xe_init [.ref 0, .int a1, .int a2] (xM_L 102)) [] μ (zD102 a1 a2 μ) := by
  unfold zD102
  show zK zPc μ0 δ d 102 0 [some (.ref 0), some (.int a1), some (.int a2)] [] μ _
  refine zK_op rfl rfl ?_
  refine zK_cV rfl (as := [.ref 0]) (rest := []) rfl rfl (xe_rcvO (zT_sh hT rfl)) (Nat.le_of_ble_eq_true rfl) (Nat.le_of_ble_eq_true rfl) (by decide) (fun _ => rfl) (by omega) (zD100_ok (by omega) μ hT) (fun m1 T2 => ?_)
  refine zK_op rfl rfl ?_
  refine zK_op rfl rfl ?_
  refine zK_gRl (b := 7) rfl rfl rfl T2 ?_
  refine zK_gI rfl rfl T2 ?_
  refine zK_cV rfl (as := [.int a1, .int (xe_I m1 7 5)]) (rest := []) rfl rfl rfl (Nat.le_of_ble_eq_true rfl) (Nat.le_of_ble_eq_true rfl) (by decide) (fun _ => rfl) (by omega) (zD86_ok (by omega) a1 (xe_I m1 7 5) m1 T2) (fun m3 T4 => ?_)
  refine zK_op rfl rfl ?_
  refine zK_gRl (b := 194) rfl rfl rfl T4 ?_
  refine zK_gRl (b := 201) rfl rfl rfl T4 ?_
  refine zK_op rfl rfl ?_
  refine zK_op rfl rfl ?_
  refine zK_x (fun j5 h6 h7 h8 => ?_)
  refine zK_sI (a := 201) (g := (fun x => x)) rfl rfl T4 h6 h7 h8 rfl (fun m9 T10 => ?_)
  exact zK_ret0 rfl T10
/-! 108 LogicalTimes$Runner.show(LLogicalTimes$Task;I)V -/
def zD108_34 (c14 : Nat → Int32 → Int32 → Int32 → xe_Mem → zO) (v1 : Nat) (v2 : Int32) (v3 : Int32) (v4 : Int32) (μ : xe_Mem) : zO := c14 v1 v2 v3 (v4 + (1)) μ
def zD108_23 (c14 : Nat → Int32 → Int32 → Int32 → xe_Mem → zO) (v1 : Nat) (v2 : Int32) (v3 : Int32) (v4 : Int32) (μ : xe_Mem) : zO := zq_x v4 4 fun j5 => zq_s (xe_R μ 196 j5) fun b9 => zq_o v1 8 <| zq_s (xe_R μ v1 14) fun b11 => zq_o b11 6 <| zq_s (xe_R μ b11 6) fun b13 => zq_a b13 0 fun N15 => zq_x v2 N15 fun j16 => zq_a b9 0 fun N21 => zq_x v2 N21 fun j22 => zq_m (xe_setI μ b9 j22 (xe_I μ b13 j16)) fun m26 => zD108_34 c14 v1 v2 v3 v4 m26
def zD108_14_b (c14 : Nat → Int32 → Int32 → Int32 → xe_Mem → zO) (v1 : Nat) (v2 : Int32) (v3 : Int32) (v4 : Int32) (μ : xe_Mem) : zO := if 4 ≤ v4 then some (.inl none, μ) else if v3 = 0 then zq_o v1 8 <| if v4 = (xe_I μ v1 2) then zD108_23 c14 v1 v2 v3 v4 μ else zD108_34 c14 v1 v2 v3 v4 μ else zD108_23 c14 v1 v2 v3 v4 μ
def zD108_14   : Nat → Nat → Int32 → Int32 → Int32 → xe_Mem → zO
  | 0 => fun _ _ _ _ _  => none
  | n + 1 => zD108_14_b   (zD108_14   n)
def zD108_11 (v1 : Nat) (v2 : Int32) (s0 : Int32) (μ : xe_Mem) : zO := zD108_14 zfu v1 v2 s0 0 μ
def zD108  (a1 : Nat) (a2 : Int32) (μ : xe_Mem) : zO := zq_o a1 8 <| zq_s (xe_R μ a1 14) fun b2 => zq_o b2 6 <| if (((xe_I μ b2 4) >>> (a2 &&& 31)) &&& 1) = 0 then zD108_11 a1 a2 0 μ else zD108_11 a1 a2 1 μ
theorem zD108_34_ok {μ0 : xe_Mem} {δ : xe_Dy} {d : Nat} (hd : 0 ≤ d) {c14 : Nat → Int32 → Int32 → Int32 → xe_Mem → zO} (hc14 : ∀ (v1 : Nat) (v2 : Int32) (v3 : Int32) (v4 : Int32) (μ : xe_Mem), zT zPc μ0 μ → zK zPc μ0 δ d 108 14 [some (.ref 194), some (.ref v1), some (.int v2), some (.int v3), some (.int v4)] [] μ (c14 v1 v2 v3 v4 μ)) : ∀ (v1 : Nat) (v2 : Int32) (v3 : Int32) (v4 : Int32) (μ : xe_Mem), zT zPc μ0 μ → zK zPc μ0 δ d 108 34 [some (.ref 194), some (.ref v1), some (.int v2), some (.int v3), some (.int v4)] [] μ (zD108_34  c14 v1 v2 v3 v4 μ) := by
  intro v1 v2 v3 v4 μ hT
  unfold zD108_34
  refine zK_op rfl rfl ?_
  refine zK_op rfl rfl ?_
  exact hc14 v1 v2 v3 (v4 + (1)) μ hT
theorem zD108_23_ok {μ0 : xe_Mem} {δ : xe_Dy} {d : Nat} (hd : 0 ≤ d) {c14 : Nat → Int32 → Int32 → Int32 → xe_Mem → zO} (hc14 : ∀ (v1 : Nat) (v2 : Int32) (v3 : Int32) (v4 : Int32) (μ : xe_Mem), zT zPc μ0 μ → zK zPc μ0 δ d 108 14 [some (.ref 194), some (.ref v1), some (.int v2), some (.int v3), some (.int v4)] [] μ (c14 v1 v2 v3 v4 μ)) : ∀ (v1 : Nat) (v2 : Int32) (v3 : Int32) (v4 : Int32) (μ : xe_Mem), zT zPc μ0 μ → zK zPc μ0 δ d 108 23 [some (.ref 194), some (.ref v1), some (.int v2), some (.int v3), some (.int v4)] [] μ (zD108_23  c14 v1 v2 v3 v4 μ) := by
  intro v1 v2 v3 v4 μ hT
  unfold zD108_23
  refine zK_op rfl rfl ?_
  refine zK_gRl (b := 196) rfl rfl rfl hT ?_
  refine zK_op rfl rfl ?_
  refine zK_x (fun j5 h6 h7 h8 => ?_)
  refine zK_aR rfl rfl hT h6 h7 h8 (fun b9 => ?_)
  refine zK_op rfl rfl ?_
  refine zK_op rfl rfl ?_
  refine zK_o (fun h10 ph10 => ?_)
  refine zK_gRs rfl h10 hT (fun b11 => ?_)
  refine zK_o (fun h12 ph12 => ?_)
  refine zK_gRs rfl h12 hT (fun b13 => ?_)
  refine zK_op rfl rfl ?_
  refine zK_a (fun N15 h14 ph14 => ?_)
  refine zK_x (fun j16 h17 h18 h19 => ?_)
  refine zK_aI rfl h14 hT h17 h18 h19 ?_
  refine zK_a (fun N21 h20 ph20 => ?_)
  refine zK_x (fun j22 h23 h24 h25 => ?_)
  refine zK_sI (a := b9) (g := (fun x => x)) rfl h20 hT h23 h24 h25 ph20 (fun m26 T27 => ?_)
  exact zD108_34_ok hd hc14 v1 v2 v3 v4 m26 T27
theorem zD108_14_bok {μ0 : xe_Mem} {δ : xe_Dy} {d : Nat} (hd : 0 ≤ d)  {c14 : Nat → Int32 → Int32 → Int32 → xe_Mem → zO} (hc14 : ∀ (v1 : Nat) (v2 : Int32) (v3 : Int32) (v4 : Int32) (μ : xe_Mem), zT zPc μ0 μ → zK zPc μ0 δ d 108 14 [some (.ref 194), some (.ref v1), some (.int v2), some (.int v3), some (.int v4)] [] μ (c14 v1 v2 v3 v4 μ)) : ∀ (v1 : Nat) (v2 : Int32) (v3 : Int32) (v4 : Int32) (μ : xe_Mem), zT zPc μ0 μ → zK zPc μ0 δ d 108 14 [some (.ref 194), some (.ref v1), some (.int v2), some (.int v3), some (.int v4)] [] μ (zD108_14_b  c14 v1 v2 v3 v4 μ) := by
  intro v1 v2 v3 v4 μ hT
  unfold zD108_14_b
  refine zK_op rfl rfl ?_
  refine zK_op rfl rfl ?_
  refine zK_icge rfl (fun _ => ?_) (fun _ => ?_)
  · exact zK_ret0 rfl hT
  refine zK_op rfl rfl ?_
  refine zK_ifne rfl (fun _ => ?_) (fun _ => ?_)
  · refine zK_op rfl rfl ?_
    refine zK_op rfl rfl ?_
    refine zK_o (fun h4 ph4 => ?_)
    refine zK_gI rfl h4 hT ?_
    refine zK_icne rfl (fun _ => ?_) (fun _ => ?_)
    · exact zD108_23_ok hd hc14 v1 v2 v3 v4 μ hT
    exact zD108_34_ok hd hc14 v1 v2 v3 v4 μ hT
  exact zD108_23_ok hd hc14 v1 v2 v3 v4 μ hT
theorem zD108_14_ok {μ0 : xe_Mem} {δ : xe_Dy} {d : Nat} (hd : 0 ≤ d)  : ∀ n : Nat, ∀ (v1 : Nat) (v2 : Int32) (v3 : Int32) (v4 : Int32) (μ : xe_Mem), zT zPc μ0 μ → zK zPc μ0 δ d 108 14 [some (.ref 194), some (.ref v1), some (.int v2), some (.int v3), some (.int v4)] [] μ (zD108_14  n v1 v2 v3 v4 μ) := by
  intro n
  induction n with
  | zero => exact fun _ _ _ _ _ _  => fun o μ' h => by cases h
  | succ n ih => exact zD108_14_bok hd   ih
theorem zD108_11_ok {μ0 : xe_Mem} {δ : xe_Dy} {d : Nat} (hd : 0 ≤ d)  : ∀ (v1 : Nat) (v2 : Int32) (s0 : Int32) (μ : xe_Mem), zT zPc μ0 μ → zK zPc μ0 δ d 108 11 [some (.ref 194), some (.ref v1), some (.int v2), none, none] [.int s0] μ (zD108_11  v1 v2 s0 μ) := by
  intro v1 v2 s0 μ hT
  unfold zD108_11
  refine zK_op rfl rfl ?_
  refine zK_op rfl rfl ?_
  refine zK_op rfl rfl ?_
  exact zD108_14_ok hd zfu v1 v2 s0 0 μ hT
theorem zD108_ok {μ0 : xe_Mem} {δ : xe_Dy} {d : Nat} (hd : 0 ≤ d) (a1 : Nat) (a2 : Int32) (μ : xe_Mem) (hT : zT zPc μ0 μ) : zK zPc μ0 δ d 108 0 (xe_init [.ref 194, .ref a1, .int a2] (xM_L 108)) [] μ (zD108 a1 a2 μ) := by
  unfold zD108
  show zK zPc μ0 δ d 108 0 [some (.ref 194), some (.ref a1), some (.int a2), none, none] [] μ _
  refine zK_op rfl rfl ?_
  refine zK_o (fun h1 ph1 => ?_)
  refine zK_gRs rfl h1 hT (fun b2 => ?_)
  refine zK_o (fun h3 ph3 => ?_)
  refine zK_gI rfl h3 hT ?_
  refine zK_op rfl rfl ?_
  refine zK_op rfl rfl ?_
  refine zK_op rfl rfl ?_
  refine zK_op rfl rfl ?_
  refine zK_ifeq rfl (fun _ => ?_) (fun _ => ?_)
  · refine zK_op rfl rfl ?_
    exact zD108_11_ok hd a1 a2 0 μ hT
  refine zK_op rfl rfl ?_
  refine zK_op rfl rfl ?_
  exact zD108_11_ok hd a1 a2 1 μ hT
