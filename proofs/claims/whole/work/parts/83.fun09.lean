/-! methods as functions (by wip/whole/gen/dec.py) -/
/-! 144 LogicalTimesModel.portOf(J)I -/
def zD144_2_b (c2 : Int64 → Int32 → xe_Mem → zO) (v1 : Int64) (v3 : Int32) (μ : xe_Mem) : zO := if (xe_I μ 203 12) ≤ v3 then some (.inl (some (.int ((-1)))), μ) else zq_x v3 12 fun j1 => if (lg_cmp (xe_L μ 210 j1) v1) = 0 then some (.inl (some (.int v3)), μ) else c2 v1 (v3 + (1)) μ
def zD144_2   : Nat → Int64 → Int32 → xe_Mem → zO
  | 0 => fun _ _ _  => none
  | n + 1 => zD144_2_b   (zD144_2   n)
def zD144  (a1 : Int64) (μ : xe_Mem) : zO := zD144_2 zfu a1 0 μ
theorem zD144_2_bok {μ0 : xe_Mem} {δ : xe_Dy} {d : Nat} (hd : 0 ≤ d)  {c2 : Int64 → Int32 → xe_Mem → zO} (hc2 : ∀ (v1 : Int64) (v3 : Int32) (μ : xe_Mem), zT zPr μ0 μ → zK zPr μ0 δ d 144 2 [some (.ref 203), some (.long v1), none, some (.int v3)] [] μ (c2 v1 v3 μ)) : ∀ (v1 : Int64) (v3 : Int32) (μ : xe_Mem), zT zPr μ0 μ → zK zPr μ0 δ d 144 2 [some (.ref 203), some (.long v1), none, some (.int v3)] [] μ (zD144_2_b  c2 v1 v3 μ) := by
  intro v1 v3 μ hT
  unfold zD144_2_b
  refine zK_op rfl rfl ?_
  refine zK_op rfl rfl ?_
  refine zK_gI rfl rfl hT ?_
  refine zK_icge rfl (fun _ => ?_) (fun _ => ?_)
  · refine zK_op rfl rfl ?_
    exact zK_ret1 rfl hT
  refine zK_op rfl rfl ?_
  refine zK_gRl (b := 210) rfl rfl rfl hT ?_
  refine zK_op rfl rfl ?_
  refine zK_x (fun j1 h2 h3 h4 => ?_)
  refine zK_aL rfl rfl hT h2 h3 h4 ?_
  refine zK_op rfl rfl ?_
  refine zK_op rfl rfl ?_
  refine zK_ifne rfl (fun _ => ?_) (fun _ => ?_)
  · refine zK_op rfl rfl ?_
    exact zK_ret1 rfl hT
  refine zK_op rfl rfl ?_
  refine zK_op rfl rfl ?_
  exact hc2 v1 (v3 + (1)) μ hT
theorem zD144_2_ok {μ0 : xe_Mem} {δ : xe_Dy} {d : Nat} (hd : 0 ≤ d)  : ∀ n : Nat, ∀ (v1 : Int64) (v3 : Int32) (μ : xe_Mem), zT zPr μ0 μ → zK zPr μ0 δ d 144 2 [some (.ref 203), some (.long v1), none, some (.int v3)] [] μ (zD144_2  n v1 v3 μ) := by
  intro n
  induction n with
  | zero => exact fun _ _ _ _  => fun o μ' h => by cases h
  | succ n ih => exact zD144_2_bok hd   ih
theorem zD144_ok {μ0 : xe_Mem} {δ : xe_Dy} {d : Nat} (hd : 0 ≤ d) (a1 : Int64) (μ : xe_Mem) (hT : zT zPr μ0 μ) : zK zPr μ0 δ d 144 0 (xe_init [.ref 203, .long a1] (xM_L 144)) [] μ (zD144 a1 μ) := by
  unfold zD144
  show zK zPr μ0 δ d 144 0 [some (.ref 203), some (.long a1), none, none] [] μ _
  refine zK_op rfl rfl ?_
  refine zK_op rfl rfl ?_
  exact zD144_2_ok hd zfu a1 0 μ hT
/-! 145 LogicalTimesModel.sensorOf(J)I -/
def zD145_2_b (c2 : Int64 → Int32 → xe_Mem → zO) (v1 : Int64) (v3 : Int32) (μ : xe_Mem) : zO := if (xe_I μ 203 15) ≤ v3 then some (.inl (some (.int ((-1)))), μ) else zq_x v3 4 fun j1 => if (lg_cmp (xe_L μ 212 j1) v1) = 0 then some (.inl (some (.int v3)), μ) else c2 v1 (v3 + (1)) μ
def zD145_2   : Nat → Int64 → Int32 → xe_Mem → zO
  | 0 => fun _ _ _  => none
  | n + 1 => zD145_2_b   (zD145_2   n)
def zD145  (a1 : Int64) (μ : xe_Mem) : zO := zD145_2 zfu a1 0 μ
theorem zD145_2_bok {μ0 : xe_Mem} {δ : xe_Dy} {d : Nat} (hd : 0 ≤ d)  {c2 : Int64 → Int32 → xe_Mem → zO} (hc2 : ∀ (v1 : Int64) (v3 : Int32) (μ : xe_Mem), zT zPr μ0 μ → zK zPr μ0 δ d 145 2 [some (.ref 203), some (.long v1), none, some (.int v3)] [] μ (c2 v1 v3 μ)) : ∀ (v1 : Int64) (v3 : Int32) (μ : xe_Mem), zT zPr μ0 μ → zK zPr μ0 δ d 145 2 [some (.ref 203), some (.long v1), none, some (.int v3)] [] μ (zD145_2_b  c2 v1 v3 μ) := by
  intro v1 v3 μ hT
  unfold zD145_2_b
  refine zK_op rfl rfl ?_
  refine zK_op rfl rfl ?_
  refine zK_gI rfl rfl hT ?_
  refine zK_icge rfl (fun _ => ?_) (fun _ => ?_)
  · refine zK_op rfl rfl ?_
    exact zK_ret1 rfl hT
  refine zK_op rfl rfl ?_
  refine zK_gRl (b := 212) rfl rfl rfl hT ?_
  refine zK_op rfl rfl ?_
  refine zK_x (fun j1 h2 h3 h4 => ?_)
  refine zK_aL rfl rfl hT h2 h3 h4 ?_
  refine zK_op rfl rfl ?_
  refine zK_op rfl rfl ?_
  refine zK_ifne rfl (fun _ => ?_) (fun _ => ?_)
  · refine zK_op rfl rfl ?_
    exact zK_ret1 rfl hT
  refine zK_op rfl rfl ?_
  refine zK_op rfl rfl ?_
  exact hc2 v1 (v3 + (1)) μ hT
theorem zD145_2_ok {μ0 : xe_Mem} {δ : xe_Dy} {d : Nat} (hd : 0 ≤ d)  : ∀ n : Nat, ∀ (v1 : Int64) (v3 : Int32) (μ : xe_Mem), zT zPr μ0 μ → zK zPr μ0 δ d 145 2 [some (.ref 203), some (.long v1), none, some (.int v3)] [] μ (zD145_2  n v1 v3 μ) := by
  intro n
  induction n with
  | zero => exact fun _ _ _ _  => fun o μ' h => by cases h
  | succ n ih => exact zD145_2_bok hd   ih
theorem zD145_ok {μ0 : xe_Mem} {δ : xe_Dy} {d : Nat} (hd : 0 ≤ d) (a1 : Int64) (μ : xe_Mem) (hT : zT zPr μ0 μ) : zK zPr μ0 δ d 145 0 (xe_init [.ref 203, .long a1] (xM_L 145)) [] μ (zD145 a1 μ) := by
  unfold zD145
  show zK zPr μ0 δ d 145 0 [some (.ref 203), some (.long a1), none, none] [] μ _
  refine zK_op rfl rfl ?_
  refine zK_op rfl rfl ?_
  exact zD145_2_ok hd zfu a1 0 μ hT
/-! 147 LogicalTimesModel.isSignOf(I)Z -/
def zD147_19 (s0 : Int32) (μ : xe_Mem) : zO := zq_z s0 <| some (.inl (some (.int s0)), μ)
def zD147_18 (μ : xe_Mem) : zO := zD147_19 0 μ
def zD147  (a1 : Int32) (μ : xe_Mem) : zO := zq_x (xe_I μ 203 10) 3002 fun j1 => if (xe_I μ 207 j1) = 3 then zq_x (xe_I μ 203 10) 3002 fun j5 => if (lg_cmp (xe_L μ 209 j5) a1.toInt64) = 0 then zD147_19 1 μ else zD147_18 μ else zD147_18 μ
theorem zD147_19_ok {μ0 : xe_Mem} {δ : xe_Dy} {d : Nat} (hd : 0 ≤ d)  : ∀ (s0 : Int32) (l0 : Option Value) (l1 : Option Value) (μ : xe_Mem), zT zPr μ0 μ → zK zPr μ0 δ d 147 19 [l0, l1] [.int s0] μ (zD147_19  s0 μ) := by
  intro s0 l0 l1 μ hT
  unfold zD147_19
  exact zK_ret3z rfl hT
theorem zD147_18_ok {μ0 : xe_Mem} {δ : xe_Dy} {d : Nat} (hd : 0 ≤ d)  : ∀ (l0 : Option Value) (l1 : Option Value) (μ : xe_Mem), zT zPr μ0 μ → zK zPr μ0 δ d 147 18 [l0, l1] [] μ (zD147_18  μ) := by
  intro l0 l1 μ hT
  unfold zD147_18
  refine zK_op rfl rfl ?_
  exact zD147_19_ok hd 0 _ _ μ hT
theorem zD147_ok {μ0 : xe_Mem} {δ : xe_Dy} {d : Nat} (hd : 0 ≤ d) (a1 : Int32) (μ : xe_Mem) (hT : zT zPr μ0 μ) : zK zPr μ0 δ d 147 0 (xe_init [.ref 203, .int a1] (xM_L 147)) [] μ (zD147 a1 μ) := by
  unfold zD147
  show zK zPr μ0 δ d 147 0 [some (.ref 203), some (.int a1)] [] μ _
  refine zK_op rfl rfl ?_
  refine zK_gRl (b := 207) rfl rfl rfl hT ?_
  refine zK_op rfl rfl ?_
  refine zK_gI rfl rfl hT ?_
  refine zK_x (fun j1 h2 h3 h4 => ?_)
  refine zK_aI rfl rfl hT h2 h3 h4 ?_
  refine zK_op rfl rfl ?_
  refine zK_icne rfl (fun _ => ?_) (fun _ => ?_)
  · refine zK_op rfl rfl ?_
    refine zK_gRl (b := 209) rfl rfl rfl hT ?_
    refine zK_op rfl rfl ?_
    refine zK_gI rfl rfl hT ?_
    refine zK_x (fun j5 h6 h7 h8 => ?_)
    refine zK_aL rfl rfl hT h6 h7 h8 ?_
    refine zK_op rfl rfl ?_
    refine zK_op rfl rfl ?_
    refine zK_op rfl rfl ?_
    refine zK_ifne rfl (fun _ => ?_) (fun _ => ?_)
    · refine zK_op rfl rfl ?_
      refine zK_op rfl rfl ?_
      exact zD147_19_ok hd 1 _ _ μ hT
    exact zD147_18_ok hd _ _ μ hT
  exact zD147_18_ok hd _ _ μ hT
/-! 146 LogicalTimesModel.sign(I)Z -/
def zD146  (a1 : Int32) (μ : xe_Mem) : zO := zq_cI (zD147 a1 μ) fun x3 m1 => zq_cI (zD143 x3 m1) fun x6 m4 => zq_z x6 <| some (.inl (some (.int x6)), m4)
theorem zD146_ok {μ0 : xe_Mem} {δ : xe_Dy} {d : Nat} (hd : 1 ≤ d) (a1 : Int32) (μ : xe_Mem) (hT : zT zPr μ0 μ) : zK zPr μ0 δ d 146 0 (xe_init [.ref 203, .int a1] (xM_L 146)) [] μ (zD146 a1 μ) := by
  unfold zD146
  show zK zPr μ0 δ d 146 0 [some (.ref 203), some (.int a1)] [] μ _
  refine zK_op rfl rfl ?_
  refine zK_op rfl rfl ?_
  refine zK_op rfl rfl ?_
  refine zK_cI rfl (as := [.ref 203, .int a1]) (rest := [.ref 203]) rfl rfl (xe_rcvO (zT_sh hT rfl)) (Nat.le_of_ble_eq_true rfl) (Nat.le_of_ble_eq_true rfl) (by decide) (fun _ => rfl) (by omega) (zD147_ok (by omega) a1 μ hT) (fun x3 m1 T2 => ?_)
  refine zK_cI rfl (as := [.ref 203, .int x3]) (rest := []) rfl rfl (xe_rcvO (zT_sh T2 rfl)) (Nat.le_of_ble_eq_true rfl) (Nat.le_of_ble_eq_true rfl) (by decide) (fun _ => rfl) (by omega) (zD143_ok (by omega) x3 m1 T2) (fun x6 m4 T5 => ?_)
  exact zK_ret3z rfl T5
/-! 148 LogicalTimesModel.number(JJ)Z -/
def zD148_20 (s1 : Int32) (μ : xe_Mem) : zO := zq_cI (zD143 s1 μ) fun x14 m12 => zq_z x14 <| some (.inl (some (.int x14)), m12)
def zD148_19 (μ : xe_Mem) : zO := zD148_20 0 μ
def zD148  (a1 : Int64) (a2 : Int64) (μ : xe_Mem) : zO := zq_x (xe_I μ 203 10) 3002 fun j1 => if (xe_I μ 207 j1) = 2 then zq_x (xe_I μ 203 10) 3002 fun j5 => zq_cI (zD132 (xe_L μ 209 j5) a1 a2 μ) fun x11 m9 => if x11 = 0 then zD148_19 m9 else zD148_20 1 m9 else zD148_19 μ
theorem zD148_20_ok {μ0 : xe_Mem} {δ : xe_Dy} {d : Nat} (hd : 1 ≤ d)  : ∀ (s1 : Int32) (l0 : Option Value) (l1 : Option Value) (l3 : Option Value) (μ : xe_Mem), zT zPr μ0 μ → zK zPr μ0 δ d 148 20 [l0, l1, none, l3, none] [.int s1, .ref 203] μ (zD148_20  s1 μ) := by
  intro s1 l0 l1 l3 μ hT
  unfold zD148_20
  refine zK_cI rfl (as := [.ref 203, .int s1]) (rest := []) rfl rfl (xe_rcvO (zT_sh hT rfl)) (Nat.le_of_ble_eq_true rfl) (Nat.le_of_ble_eq_true rfl) (by decide) (fun _ => rfl) (by omega) (zD143_ok (by omega) s1 μ hT) (fun x14 m12 T13 => ?_)
  exact zK_ret3z rfl T13
theorem zD148_19_ok {μ0 : xe_Mem} {δ : xe_Dy} {d : Nat} (hd : 1 ≤ d)  : ∀ (l0 : Option Value) (l1 : Option Value) (l3 : Option Value) (μ : xe_Mem), zT zPr μ0 μ → zK zPr μ0 δ d 148 19 [l0, l1, none, l3, none] [.ref 203] μ (zD148_19  μ) := by
  intro l0 l1 l3 μ hT
  unfold zD148_19
  refine zK_op rfl rfl ?_
  exact zD148_20_ok hd 0 _ _ _ μ hT
theorem zD148_ok {μ0 : xe_Mem} {δ : xe_Dy} {d : Nat} (hd : 1 ≤ d) (a1 : Int64) (a2 : Int64) (μ : xe_Mem) (hT : zT zPr μ0 μ) : zK zPr μ0 δ d 148 0 (xe_init [.ref 203, .long a1, .long a2] (xM_L 148)) [] μ (zD148 a1 a2 μ) := by
  unfold zD148
  show zK zPr μ0 δ d 148 0 [some (.ref 203), some (.long a1), none, some (.long a2), none] [] μ _
  refine zK_op rfl rfl ?_
  refine zK_op rfl rfl ?_
  refine zK_gRl (b := 207) rfl rfl rfl hT ?_
  refine zK_op rfl rfl ?_
  refine zK_gI rfl rfl hT ?_
  refine zK_x (fun j1 h2 h3 h4 => ?_)
  refine zK_aI rfl rfl hT h2 h3 h4 ?_
  refine zK_op rfl rfl ?_
  refine zK_icne rfl (fun _ => ?_) (fun _ => ?_)
  · refine zK_op rfl rfl ?_
    refine zK_gRl (b := 209) rfl rfl rfl hT ?_
    refine zK_op rfl rfl ?_
    refine zK_gI rfl rfl hT ?_
    refine zK_x (fun j5 h6 h7 h8 => ?_)
    refine zK_aL rfl rfl hT h6 h7 h8 ?_
    refine zK_op rfl rfl ?_
    refine zK_op rfl rfl ?_
    refine zK_cI rfl (as := [.long (xe_L μ 209 j5), .long a1, .long a2]) (rest := [.ref 203]) rfl rfl rfl (Nat.le_of_ble_eq_true rfl) (Nat.le_of_ble_eq_true rfl) (by decide) (fun _ => rfl) (by omega) (zD132_ok (by omega) (xe_L μ 209 j5) a1 a2 μ hT) (fun x11 m9 T10 => ?_)
    refine zK_ifeq rfl (fun _ => ?_) (fun _ => ?_)
    · exact zD148_19_ok hd _ _ _ m9 T10
    refine zK_op rfl rfl ?_
    refine zK_op rfl rfl ?_
    exact zD148_20_ok hd 1 _ _ _ m9 T10
  exact zD148_19_ok hd _ _ _ μ hT
/-! 149 LogicalTimesModel.before()I -/
def zD149   (μ : xe_Mem) : zO := zq_x ((xe_I μ 203 10) - 1) 3002 fun j1 => some (.inl (some (.int ((xe_L μ 209 j1).toInt32))), μ)
theorem zD149_ok {μ0 : xe_Mem} {δ : xe_Dy} {d : Nat} (hd : 0 ≤ d) (μ : xe_Mem) (hT : zT zPr μ0 μ) : zK zPr μ0 δ d 149 0 (xe_init [.ref 203] (xM_L 149)) [] μ (zD149 μ) := by
  unfold zD149
  show zK zPr μ0 δ d 149 0 [some (.ref 203)] [] μ _
  refine zK_op rfl rfl ?_
  refine zK_gRl (b := 209) rfl rfl rfl hT ?_
  refine zK_op rfl rfl ?_
  refine zK_gI rfl rfl hT ?_
  refine zK_op rfl rfl ?_
  refine zK_op rfl rfl ?_
  refine zK_x (fun j1 h2 h3 h4 => ?_)
  refine zK_aL rfl rfl hT h2 h3 h4 ?_
  refine zK_op rfl rfl ?_
  exact zK_ret1 rfl hT
/-! 142 LogicalTimesModel.declaration()Z -/
def zD142_82 (μ : xe_Mem) : zO := some (.inl (some (.int 0)), μ)
def zD142_51 (v1 : Int32) (v2 : Int64) (s1 : Int32) (μ : xe_Mem) : zO := zq_cI (zD143 s1 μ) fun x21 m19 => if x21 = 0 then some (.inl (some (.int 0)), m19) else if v1 = 0 then zq_x (xe_I m19 203 15) 4 fun j22 => zq_m (xe_setL m19 212 j22 v2) fun m26 => zq_m (xe_setI m26 203 15 ((xe_I m26 203 15) + 1)) fun m28 => zq_cI (zD146 59 m28) fun x32 m30 => zq_z x32 <| some (.inl (some (.int x32)), m30) else zq_cI (zD146 61 m19) fun x35 m33 => if x35 = 0 then zD142_82 m33 else zq_cI (zD148 0 999999 m33) fun x38 m36 => if x38 = 0 then zD142_82 m36 else zq_x (xe_I m36 203 12) 12 fun j39 => zq_m (xe_setL m36 210 j39 v2) fun m43 => zq_cI (zD149 m43) fun x47 m45 => zq_x (xe_I m43 203 12) 12 fun j48 => zq_m (xe_setI m45 211 j48 x47) fun m52 => zq_m (xe_setI m52 203 12 ((xe_I m52 203 12) + 1)) fun m54 => zq_cI (zD146 59 m54) fun x58 m56 => zq_z x58 <| some (.inl (some (.int x58)), m56)
def zD142_50 (v1 : Int32) (v2 : Int64) (μ : xe_Mem) : zO := zD142_51 v1 v2 0 μ
def zD142_22 (v1 : Int32) (s1 : Int32) (μ : xe_Mem) : zO := zq_cI (zD143 s1 μ) fun x6 m4 => if x6 = 0 then some (.inl (some (.int 0)), m4) else zq_x (xe_I m4 203 10) 3002 fun j7 => zq_vL (xe_L m4 209 j7) fun x11 => zq_x (xe_I m4 203 10) 3002 fun j12 => if (xe_I m4 207 j12) = 1 then zq_cI (zD144 x11 m4) fun x18 m16 => if 0 ≤ x18 then zD142_50 v1 x11 m16 else zq_cI (zD145 x11 m16) fun x61 m59 => if 0 ≤ x61 then zD142_50 v1 x11 m59 else zD142_51 v1 x11 1 m59 else zD142_50 v1 x11 m4
def zD142   (μ : xe_Mem) : zO := zq_cI (zD141 0 μ) fun x3 m1 => if x3 = 0 then if 4 ≤ (xe_I m1 203 15) then zD142_22 x3 0 m1 else zD142_22 x3 1 m1 else if 12 ≤ (xe_I m1 203 12) then zD142_22 x3 0 m1 else zD142_22 x3 1 m1
theorem zD142_82_ok {μ0 : xe_Mem} {δ : xe_Dy} {d : Nat} (hd : 2 ≤ d)  : ∀ (l0 : Option Value) (l1 : Option Value) (l2 : Option Value) (μ : xe_Mem), zT zPr μ0 μ → zK zPr μ0 δ d 142 82 [l0, l1, l2, none] [] μ (zD142_82  μ) := by
  intro l0 l1 l2 μ hT
  unfold zD142_82
  refine zK_op rfl rfl ?_
  exact zK_ret3 rfl (Or.inl rfl) hT
theorem zD142_51_ok {μ0 : xe_Mem} {δ : xe_Dy} {d : Nat} (hd : 2 ≤ d)  : ∀ (v1 : Int32) (v2 : Int64) (s1 : Int32) (μ : xe_Mem), zT zPr μ0 μ → zK zPr μ0 δ d 142 51 [some (.ref 203), some (.int v1), some (.long v2), none] [.int s1, .ref 203] μ (zD142_51  v1 v2 s1 μ) := by
  intro v1 v2 s1 μ hT
  unfold zD142_51
  refine zK_cI rfl (as := [.ref 203, .int s1]) (rest := []) rfl rfl (xe_rcvO (zT_sh hT rfl)) (Nat.le_of_ble_eq_true rfl) (Nat.le_of_ble_eq_true rfl) (by decide) (fun _ => rfl) (by omega) (zD143_ok (by omega) s1 μ hT) (fun x21 m19 T20 => ?_)
  refine zK_ifne rfl (fun _ => ?_) (fun _ => ?_)
  · refine zK_op rfl rfl ?_
    exact zK_ret3 rfl (Or.inl rfl) T20
  refine zK_op rfl rfl ?_
  refine zK_ifne rfl (fun _ => ?_) (fun _ => ?_)
  · refine zK_op rfl rfl ?_
    refine zK_gRl (b := 212) rfl rfl rfl T20 ?_
    refine zK_op rfl rfl ?_
    refine zK_gI rfl rfl T20 ?_
    refine zK_op rfl rfl ?_
    refine zK_x (fun j22 h23 h24 h25 => ?_)
    refine zK_sL rfl rfl T20 h23 h24 h25 rfl (fun m26 T27 => ?_)
    refine zK_op rfl rfl ?_
    refine zK_op rfl rfl ?_
    refine zK_gI rfl rfl T27 ?_
    refine zK_op rfl rfl ?_
    refine zK_op rfl rfl ?_
    refine zK_pI rfl rfl T27 rfl (fun m28 T29 => ?_)
    refine zK_op rfl rfl ?_
    refine zK_op rfl rfl ?_
    refine zK_cI rfl (as := [.ref 203, .int 59]) (rest := []) rfl rfl (xe_rcvO (zT_sh T29 rfl)) (Nat.le_of_ble_eq_true rfl) (Nat.le_of_ble_eq_true rfl) (by decide) (fun _ => rfl) (by omega) (zD146_ok (by omega) 59 m28 T29) (fun x32 m30 T31 => ?_)
    exact zK_ret3z rfl T31
  refine zK_op rfl rfl ?_
  refine zK_op rfl rfl ?_
  refine zK_cI rfl (as := [.ref 203, .int 61]) (rest := []) rfl rfl (xe_rcvO (zT_sh T20 rfl)) (Nat.le_of_ble_eq_true rfl) (Nat.le_of_ble_eq_true rfl) (by decide) (fun _ => rfl) (by omega) (zD146_ok (by omega) 61 m19 T20) (fun x35 m33 T34 => ?_)
  refine zK_ifeq rfl (fun _ => ?_) (fun _ => ?_)
  · exact zD142_82_ok hd _ _ _ m33 T34
  refine zK_op rfl rfl ?_
  refine zK_op rfl rfl ?_
  refine zK_op rfl rfl ?_
  refine zK_cI rfl (as := [.ref 203, .long 0, .long 999999]) (rest := []) rfl rfl (xe_rcvO (zT_sh T34 rfl)) (Nat.le_of_ble_eq_true rfl) (Nat.le_of_ble_eq_true rfl) (by decide) (fun _ => rfl) (by omega) (zD148_ok (by omega) 0 999999 m33 T34) (fun x38 m36 T37 => ?_)
  refine zK_ifne rfl (fun _ => ?_) (fun _ => ?_)
  · exact zD142_82_ok hd _ _ _ m36 T37
  refine zK_op rfl rfl ?_
  refine zK_gRl (b := 210) rfl rfl rfl T37 ?_
  refine zK_op rfl rfl ?_
  refine zK_gI rfl rfl T37 ?_
  refine zK_op rfl rfl ?_
  refine zK_x (fun j39 h40 h41 h42 => ?_)
  refine zK_sL rfl rfl T37 h40 h41 h42 rfl (fun m43 T44 => ?_)
  refine zK_op rfl rfl ?_
  refine zK_gRl (b := 211) rfl rfl rfl T44 ?_
  refine zK_op rfl rfl ?_
  refine zK_gI rfl rfl T44 ?_
  refine zK_op rfl rfl ?_
  refine zK_cI rfl (as := [.ref 203]) (rest := [.int (xe_I m43 203 12), .ref 211]) rfl rfl (xe_rcvO (zT_sh T44 rfl)) (Nat.le_of_ble_eq_true rfl) (Nat.le_of_ble_eq_true rfl) (by decide) (fun _ => rfl) (by omega) (zD149_ok (by omega) m43 T44) (fun x47 m45 T46 => ?_)
  refine zK_x (fun j48 h49 h50 h51 => ?_)
  refine zK_sI (a := 211) (g := (fun x => x)) rfl rfl T46 h49 h50 h51 rfl (fun m52 T53 => ?_)
  refine zK_op rfl rfl ?_
  refine zK_op rfl rfl ?_
  refine zK_gI rfl rfl T53 ?_
  refine zK_op rfl rfl ?_
  refine zK_op rfl rfl ?_
  refine zK_pI rfl rfl T53 rfl (fun m54 T55 => ?_)
  refine zK_op rfl rfl ?_
  refine zK_op rfl rfl ?_
  refine zK_cI rfl (as := [.ref 203, .int 59]) (rest := []) rfl rfl (xe_rcvO (zT_sh T55 rfl)) (Nat.le_of_ble_eq_true rfl) (Nat.le_of_ble_eq_true rfl) (by decide) (fun _ => rfl) (by omega) (zD146_ok (by omega) 59 m54 T55) (fun x58 m56 T57 => ?_)
  exact zK_ret3z rfl T57
theorem zD142_50_ok {μ0 : xe_Mem} {δ : xe_Dy} {d : Nat} (hd : 2 ≤ d)  : ∀ (v1 : Int32) (v2 : Int64) (μ : xe_Mem), zT zPr μ0 μ → zK zPr μ0 δ d 142 50 [some (.ref 203), some (.int v1), some (.long v2), none] [.ref 203] μ (zD142_50  v1 v2 μ) := by
  intro v1 v2 μ hT
  unfold zD142_50
  refine zK_op rfl rfl ?_
  exact zD142_51_ok hd v1 v2 0 μ hT
theorem zD142_22_ok {μ0 : xe_Mem} {δ : xe_Dy} {d : Nat} (hd : 2 ≤ d)  : ∀ (v1 : Int32) (s1 : Int32) (μ : xe_Mem), zT zPr μ0 μ → zK zPr μ0 δ d 142 22 [some (.ref 203), some (.int v1), none, none] [.int s1, .ref 203] μ (zD142_22  v1 s1 μ) := by
  intro v1 s1 μ hT
  unfold zD142_22
  refine zK_cI rfl (as := [.ref 203, .int s1]) (rest := []) rfl rfl (xe_rcvO (zT_sh hT rfl)) (Nat.le_of_ble_eq_true rfl) (Nat.le_of_ble_eq_true rfl) (by decide) (fun _ => rfl) (by omega) (zD143_ok (by omega) s1 μ hT) (fun x6 m4 T5 => ?_)
  refine zK_ifne rfl (fun _ => ?_) (fun _ => ?_)
  · refine zK_op rfl rfl ?_
    exact zK_ret3 rfl (Or.inl rfl) T5
  refine zK_op rfl rfl ?_
  refine zK_gRl (b := 209) rfl rfl rfl T5 ?_
  refine zK_op rfl rfl ?_
  refine zK_gI rfl rfl T5 ?_
  refine zK_x (fun j7 h8 h9 h10 => ?_)
  refine zK_aL rfl rfl T5 h8 h9 h10 ?_
  refine zK_vL (fun x11 => ?_)
  refine zK_op rfl rfl ?_
  refine zK_op rfl rfl ?_
  refine zK_op rfl rfl ?_
  refine zK_gRl (b := 207) rfl rfl rfl T5 ?_
  refine zK_op rfl rfl ?_
  refine zK_gI rfl rfl T5 ?_
  refine zK_x (fun j12 h13 h14 h15 => ?_)
  refine zK_aI rfl rfl T5 h13 h14 h15 ?_
  refine zK_op rfl rfl ?_
  refine zK_icne rfl (fun _ => ?_) (fun _ => ?_)
  · refine zK_op rfl rfl ?_
    refine zK_op rfl rfl ?_
    refine zK_cI rfl (as := [.ref 203, .long x11]) (rest := [.ref 203]) rfl rfl (xe_rcvO (zT_sh T5 rfl)) (Nat.le_of_ble_eq_true rfl) (Nat.le_of_ble_eq_true rfl) (by decide) (fun _ => rfl) (by omega) (zD144_ok (by omega) x11 m4 T5) (fun x18 m16 T17 => ?_)
    refine zK_ifge rfl (fun _ => ?_) (fun _ => ?_)
    · exact zD142_50_ok hd v1 x11 m16 T17
    refine zK_op rfl rfl ?_
    refine zK_op rfl rfl ?_
    refine zK_cI rfl (as := [.ref 203, .long x11]) (rest := [.ref 203]) rfl rfl (xe_rcvO (zT_sh T17 rfl)) (Nat.le_of_ble_eq_true rfl) (Nat.le_of_ble_eq_true rfl) (by decide) (fun _ => rfl) (by omega) (zD145_ok (by omega) x11 m16 T17) (fun x61 m59 T60 => ?_)
    refine zK_ifge rfl (fun _ => ?_) (fun _ => ?_)
    · exact zD142_50_ok hd v1 x11 m59 T60
    refine zK_op rfl rfl ?_
    refine zK_op rfl rfl ?_
    exact zD142_51_ok hd v1 x11 1 m59 T60
  exact zD142_50_ok hd v1 x11 m4 T5
theorem zD142_ok {μ0 : xe_Mem} {δ : xe_Dy} {d : Nat} (hd : 2 ≤ d) (μ : xe_Mem) (hT : zT zPr μ0 μ) : zK zPr μ0 δ d 142 0 (xe_init [.ref 203] (xM_L 142)) [] μ (zD142 μ) := by
  unfold zD142
  show zK zPr μ0 δ d 142 0 [some (.ref 203), none, none, none] [] μ _
  refine zK_op rfl rfl ?_
  refine zK_op rfl rfl ?_
  refine zK_cI rfl (as := [.ref 203, .int 0]) (rest := []) rfl rfl (xe_rcvO (zT_sh hT rfl)) (Nat.le_of_ble_eq_true rfl) (Nat.le_of_ble_eq_true rfl) (by decide) (fun _ => rfl) (by omega) (zD141_ok (by omega) 0 μ hT) (fun x3 m1 T2 => ?_)
  refine zK_op rfl rfl ?_
  refine zK_op rfl rfl ?_
  refine zK_op rfl rfl ?_
  refine zK_ifeq rfl (fun _ => ?_) (fun _ => ?_)
  · refine zK_op rfl rfl ?_
    refine zK_gI rfl rfl T2 ?_
    refine zK_op rfl rfl ?_
    refine zK_icge rfl (fun _ => ?_) (fun _ => ?_)
    · refine zK_op rfl rfl ?_
      exact zD142_22_ok hd x3 0 m1 T2
    refine zK_op rfl rfl ?_
    refine zK_op rfl rfl ?_
    exact zD142_22_ok hd x3 1 m1 T2
  refine zK_op rfl rfl ?_
  refine zK_gI rfl rfl T2 ?_
  refine zK_op rfl rfl ?_
  refine zK_icge rfl (fun _ => ?_) (fun _ => ?_)
  · refine zK_op rfl rfl ?_
    refine zK_op rfl rfl ?_
    exact zD142_22_ok hd x3 0 m1 T2
  refine zK_op rfl rfl ?_
  refine zK_op rfl rfl ?_
  exact zD142_22_ok hd x3 1 m1 T2
/-! 150 LogicalTimesModel.fails()Z -/
def zD150   (μ : xe_Mem) : zO := zq_m (xe_setI μ 203 11 1) fun m1 => some (.inl (some (.int 0)), m1)
theorem zD150_ok {μ0 : xe_Mem} {δ : xe_Dy} {d : Nat} (hd : 0 ≤ d) (μ : xe_Mem) (hT : zT zPr μ0 μ) : zK zPr μ0 δ d 150 0 (xe_init [.ref 203] (xM_L 150)) [] μ (zD150 μ) := by
  unfold zD150
  show zK zPr μ0 δ d 150 0 [some (.ref 203)] [] μ _
  refine zK_op rfl rfl ?_
  refine zK_op rfl rfl ?_
  refine zK_pZ rfl rfl (Or.inr rfl) hT rfl (fun m1 T2 => ?_)
  refine zK_op rfl rfl ?_
  exact zK_ret3 rfl (Or.inl rfl) T2
/-! 152 LogicalTimesModel.modeOf(J)I -/
def zD152_2_b (c2 : Int64 → Int32 → xe_Mem → zO) (v1 : Int64) (v3 : Int32) (μ : xe_Mem) : zO := if (xe_I μ 203 17) ≤ v3 then some (.inl (some (.int ((-1)))), μ) else zq_x v3 4 fun j1 => if (lg_cmp (xe_L μ 213 j1) v1) = 0 then some (.inl (some (.int v3)), μ) else c2 v1 (v3 + (1)) μ
def zD152_2   : Nat → Int64 → Int32 → xe_Mem → zO
  | 0 => fun _ _ _  => none
  | n + 1 => zD152_2_b   (zD152_2   n)
def zD152  (a1 : Int64) (μ : xe_Mem) : zO := zD152_2 zfu a1 0 μ
theorem zD152_2_bok {μ0 : xe_Mem} {δ : xe_Dy} {d : Nat} (hd : 0 ≤ d)  {c2 : Int64 → Int32 → xe_Mem → zO} (hc2 : ∀ (v1 : Int64) (v3 : Int32) (μ : xe_Mem), zT zPr μ0 μ → zK zPr μ0 δ d 152 2 [some (.ref 203), some (.long v1), none, some (.int v3)] [] μ (c2 v1 v3 μ)) : ∀ (v1 : Int64) (v3 : Int32) (μ : xe_Mem), zT zPr μ0 μ → zK zPr μ0 δ d 152 2 [some (.ref 203), some (.long v1), none, some (.int v3)] [] μ (zD152_2_b  c2 v1 v3 μ) := by
  intro v1 v3 μ hT
  unfold zD152_2_b
  refine zK_op rfl rfl ?_
  refine zK_op rfl rfl ?_
  refine zK_gI rfl rfl hT ?_
  refine zK_icge rfl (fun _ => ?_) (fun _ => ?_)
  · refine zK_op rfl rfl ?_
    exact zK_ret1 rfl hT
  refine zK_op rfl rfl ?_
  refine zK_gRl (b := 213) rfl rfl rfl hT ?_
  refine zK_op rfl rfl ?_
  refine zK_x (fun j1 h2 h3 h4 => ?_)
  refine zK_aL rfl rfl hT h2 h3 h4 ?_
  refine zK_op rfl rfl ?_
  refine zK_op rfl rfl ?_
  refine zK_ifne rfl (fun _ => ?_) (fun _ => ?_)
  · refine zK_op rfl rfl ?_
    exact zK_ret1 rfl hT
  refine zK_op rfl rfl ?_
  refine zK_op rfl rfl ?_
  exact hc2 v1 (v3 + (1)) μ hT
theorem zD152_2_ok {μ0 : xe_Mem} {δ : xe_Dy} {d : Nat} (hd : 0 ≤ d)  : ∀ n : Nat, ∀ (v1 : Int64) (v3 : Int32) (μ : xe_Mem), zT zPr μ0 μ → zK zPr μ0 δ d 152 2 [some (.ref 203), some (.long v1), none, some (.int v3)] [] μ (zD152_2  n v1 v3 μ) := by
  intro n
  induction n with
  | zero => exact fun _ _ _ _  => fun o μ' h => by cases h
  | succ n ih => exact zD152_2_bok hd   ih
theorem zD152_ok {μ0 : xe_Mem} {δ : xe_Dy} {d : Nat} (hd : 0 ≤ d) (a1 : Int64) (μ : xe_Mem) (hT : zT zPr μ0 μ) : zK zPr μ0 δ d 152 0 (xe_init [.ref 203, .long a1] (xM_L 152)) [] μ (zD152 a1 μ) := by
  unfold zD152
  show zK zPr μ0 δ d 152 0 [some (.ref 203), some (.long a1), none, none] [] μ _
  refine zK_op rfl rfl ?_
  refine zK_op rfl rfl ?_
  exact zD152_2_ok hd zfu a1 0 μ hT
/-! 154 LogicalTimesModel.word(I)Z -/
def zD154  (a1 : Int32) (μ : xe_Mem) : zO := zq_cI (zD141 a1 μ) fun x3 m1 => zq_cI (zD143 x3 m1) fun x6 m4 => zq_z x6 <| some (.inl (some (.int x6)), m4)
theorem zD154_ok {μ0 : xe_Mem} {δ : xe_Dy} {d : Nat} (hd : 1 ≤ d) (a1 : Int32) (μ : xe_Mem) (hT : zT zPr μ0 μ) : zK zPr μ0 δ d 154 0 (xe_init [.ref 203, .int a1] (xM_L 154)) [] μ (zD154 a1 μ) := by
  unfold zD154
  show zK zPr μ0 δ d 154 0 [some (.ref 203), some (.int a1)] [] μ _
  refine zK_op rfl rfl ?_
  refine zK_op rfl rfl ?_
  refine zK_op rfl rfl ?_
  refine zK_cI rfl (as := [.ref 203, .int a1]) (rest := [.ref 203]) rfl rfl (xe_rcvO (zT_sh hT rfl)) (Nat.le_of_ble_eq_true rfl) (Nat.le_of_ble_eq_true rfl) (by decide) (fun _ => rfl) (by omega) (zD141_ok (by omega) a1 μ hT) (fun x3 m1 T2 => ?_)
  refine zK_cI rfl (as := [.ref 203, .int x3]) (rest := []) rfl rfl (xe_rcvO (zT_sh T2 rfl)) (Nat.le_of_ble_eq_true rfl) (Nat.le_of_ble_eq_true rfl) (by decide) (fun _ => rfl) (by omega) (zD143_ok (by omega) x3 m1 T2) (fun x6 m4 T5 => ?_)
  exact zK_ret3z rfl T5
/-! 155 LogicalTimesModel.openBlock(I)V -/
def zD155  (a1 : Int32) (μ : xe_Mem) : zO := zq_x (xe_I μ 203 53) 8 fun j1 => zq_m (xe_setI μ 243 j1 a1) fun m5 => zq_x (xe_I m5 203 53) 8 fun j7 => zq_m (xe_setI m5 245 j7 0) fun m11 => zq_m (xe_setI m11 203 53 ((xe_I m11 203 53) + 1)) fun m13 => some (.inl none, m13)
theorem zD155_ok {μ0 : xe_Mem} {δ : xe_Dy} {d : Nat} (hd : 0 ≤ d) (a1 : Int32) (μ : xe_Mem) (hT : zT zPr μ0 μ) : zK zPr μ0 δ d 155 0 (xe_init [.ref 203, .int a1] (xM_L 155)) [] μ (zD155 a1 μ) := by
  unfold zD155
  show zK zPr μ0 δ d 155 0 [some (.ref 203), some (.int a1)] [] μ _
  refine zK_op rfl rfl ?_
  refine zK_gRl (b := 243) rfl rfl rfl hT ?_
  refine zK_op rfl rfl ?_
  refine zK_gI rfl rfl hT ?_
  refine zK_op rfl rfl ?_
  refine zK_x (fun j1 h2 h3 h4 => ?_)
  refine zK_sI (a := 243) (g := (fun x => x)) rfl rfl hT h2 h3 h4 rfl (fun m5 T6 => ?_)
  refine zK_op rfl rfl ?_
  refine zK_gRl (b := 245) rfl rfl rfl T6 ?_
  refine zK_op rfl rfl ?_
  refine zK_gI rfl rfl T6 ?_
  refine zK_op rfl rfl ?_
  refine zK_x (fun j7 h8 h9 h10 => ?_)
  refine zK_sI (a := 245) (g := (fun x => x)) rfl rfl T6 h8 h9 h10 rfl (fun m11 T12 => ?_)
  refine zK_op rfl rfl ?_
  refine zK_op rfl rfl ?_
  refine zK_gI rfl rfl T12 ?_
  refine zK_op rfl rfl ?_
  refine zK_op rfl rfl ?_
  refine zK_pI rfl rfl T12 rfl (fun m13 T14 => ?_)
  exact zK_ret0 rfl T14
/-! 157 LogicalTimesModel.put(II)V -/
def zD157  (a1 : Int32) (a2 : Int32) (μ : xe_Mem) : zO := zq_x (xe_I μ 203 47) 6000 fun j1 => zq_m (xe_setI μ 239 j1 a1) fun m5 => zq_x (xe_I m5 203 47) 6000 fun j7 => zq_m (xe_setI m5 240 j7 a2) fun m11 => zq_m (xe_setI m11 203 47 ((xe_I m11 203 47) + 1)) fun m13 => some (.inl none, m13)
theorem zD157_ok {μ0 : xe_Mem} {δ : xe_Dy} {d : Nat} (hd : 0 ≤ d) (a1 : Int32) (a2 : Int32) (μ : xe_Mem) (hT : zT zPr μ0 μ) : zK zPr μ0 δ d 157 0 (xe_init [.ref 203, .int a1, .int a2] (xM_L 157)) [] μ (zD157 a1 a2 μ) := by
  unfold zD157
  show zK zPr μ0 δ d 157 0 [some (.ref 203), some (.int a1), some (.int a2)] [] μ _
  refine zK_op rfl rfl ?_
  refine zK_gRl (b := 239) rfl rfl rfl hT ?_
  refine zK_op rfl rfl ?_
  refine zK_gI rfl rfl hT ?_
  refine zK_op rfl rfl ?_
  refine zK_x (fun j1 h2 h3 h4 => ?_)
  refine zK_sI (a := 239) (g := (fun x => x)) rfl rfl hT h2 h3 h4 rfl (fun m5 T6 => ?_)
  refine zK_op rfl rfl ?_
  refine zK_gRl (b := 240) rfl rfl rfl T6 ?_
  refine zK_op rfl rfl ?_
  refine zK_gI rfl rfl T6 ?_
  refine zK_op rfl rfl ?_
  refine zK_x (fun j7 h8 h9 h10 => ?_)
  refine zK_sI (a := 240) (g := (fun x => x)) rfl rfl T6 h8 h9 h10 rfl (fun m11 T12 => ?_)
  refine zK_op rfl rfl ?_
  refine zK_op rfl rfl ?_
  refine zK_gI rfl rfl T12 ?_
  refine zK_op rfl rfl ?_
  refine zK_op rfl rfl ?_
  refine zK_pI rfl rfl T12 rfl (fun m13 T14 => ?_)
  exact zK_ret0 rfl T14
/-! 158 LogicalTimesModel.brace(I)Z -/
def zD158_12 (v1 : Int32) (s1 : Int32) (μ : xe_Mem) : zO := zq_cI (zD143 s1 μ) fun x6 m4 => if x6 = 0 then some (.inl (some (.int 0)), m4) else zq_cV (zD155 v1 m4) fun m7 => some (.inl (some (.int 1)), m7)
def zD158_11 (v1 : Int32) (μ : xe_Mem) : zO := zD158_12 v1 0 μ
def zD158  (a1 : Int32) (μ : xe_Mem) : zO := zq_cI (zD147 123 μ) fun x3 m1 => if x3 = 0 then zD158_11 a1 m1 else if 6 ≤ (xe_I m1 203 53) then zD158_11 a1 m1 else zD158_12 a1 1 m1
theorem zD158_12_ok {μ0 : xe_Mem} {δ : xe_Dy} {d : Nat} (hd : 1 ≤ d)  : ∀ (v1 : Int32) (s1 : Int32) (μ : xe_Mem), zT zPr μ0 μ → zK zPr μ0 δ d 158 12 [some (.ref 203), some (.int v1)] [.int s1, .ref 203] μ (zD158_12  v1 s1 μ) := by
  intro v1 s1 μ hT
  unfold zD158_12
  refine zK_cI rfl (as := [.ref 203, .int s1]) (rest := []) rfl rfl (xe_rcvO (zT_sh hT rfl)) (Nat.le_of_ble_eq_true rfl) (Nat.le_of_ble_eq_true rfl) (by decide) (fun _ => rfl) (by omega) (zD143_ok (by omega) s1 μ hT) (fun x6 m4 T5 => ?_)
  refine zK_ifne rfl (fun _ => ?_) (fun _ => ?_)
  · refine zK_op rfl rfl ?_
    exact zK_ret3 rfl (Or.inl rfl) T5
  refine zK_op rfl rfl ?_
  refine zK_op rfl rfl ?_
  refine zK_cV rfl (as := [.ref 203, .int v1]) (rest := []) rfl rfl (xe_rcvO (zT_sh T5 rfl)) (Nat.le_of_ble_eq_true rfl) (Nat.le_of_ble_eq_true rfl) (by decide) (fun _ => rfl) (by omega) (zD155_ok (by omega) v1 m4 T5) (fun m7 T8 => ?_)
  refine zK_op rfl rfl ?_
  exact zK_ret3 rfl (Or.inr rfl) T8
theorem zD158_11_ok {μ0 : xe_Mem} {δ : xe_Dy} {d : Nat} (hd : 1 ≤ d)  : ∀ (v1 : Int32) (μ : xe_Mem), zT zPr μ0 μ → zK zPr μ0 δ d 158 11 [some (.ref 203), some (.int v1)] [.ref 203] μ (zD158_11  v1 μ) := by
  intro v1 μ hT
  unfold zD158_11
  refine zK_op rfl rfl ?_
  exact zD158_12_ok hd v1 0 μ hT
theorem zD158_ok {μ0 : xe_Mem} {δ : xe_Dy} {d : Nat} (hd : 1 ≤ d) (a1 : Int32) (μ : xe_Mem) (hT : zT zPr μ0 μ) : zK zPr μ0 δ d 158 0 (xe_init [.ref 203, .int a1] (xM_L 158)) [] μ (zD158 a1 μ) := by
  unfold zD158
  show zK zPr μ0 δ d 158 0 [some (.ref 203), some (.int a1)] [] μ _
  refine zK_op rfl rfl ?_
  refine zK_op rfl rfl ?_
  refine zK_op rfl rfl ?_
  refine zK_cI rfl (as := [.ref 203, .int 123]) (rest := [.ref 203]) rfl rfl (xe_rcvO (zT_sh hT rfl)) (Nat.le_of_ble_eq_true rfl) (Nat.le_of_ble_eq_true rfl) (by decide) (fun _ => rfl) (by omega) (zD147_ok (by omega) 123 μ hT) (fun x3 m1 T2 => ?_)
  refine zK_ifeq rfl (fun _ => ?_) (fun _ => ?_)
  · exact zD158_11_ok hd a1 m1 T2
  refine zK_op rfl rfl ?_
  refine zK_gI rfl rfl T2 ?_
  refine zK_op rfl rfl ?_
  refine zK_icge rfl (fun _ => ?_) (fun _ => ?_)
  · exact zD158_11_ok hd a1 m1 T2
  refine zK_op rfl rfl ?_
  refine zK_op rfl rfl ?_
  exact zD158_12_ok hd a1 1 m1 T2
/-! 156 LogicalTimesModel.closeBlock(I)Z -/
def zD156_166 (s1 : Int32) (s2 : Int32) (s3 : Int32) (s4 : Int32) (μ : xe_Mem) : zO := zq_x s1 8 fun j81 => zq_m (xe_setI μ 245 j81 (s2 + (s3 + s4))) fun m85 => some (.inl (some (.int 1)), m85)
def zD156_151 (v2 : Int32) (v3 : Int32) (s0 : Int32) (μ : xe_Mem) : zO := zq_x (v2 - 1) 8 fun j77 => if v3 ≤ s0 then zD156_166 (v2 - 1) (xe_I μ 245 j77) 1 s0 μ else zD156_166 (v2 - 1) (xe_I μ 245 j77) 1 v3 μ
def zD156_130 (v2 : Int32) (v3 : Int32) (μ : xe_Mem) : zO := zq_x v2 8 fun j59 => zq_x (xe_I μ 244 j59) 6000 fun j63 => zq_m (xe_setI μ 240 j63 (xe_I μ 203 47)) fun m67 => zq_x v2 8 fun j69 => if (xe_I m67 243 j69) = 2 then zq_x v2 8 fun j73 => zD156_151 v2 v3 (xe_I m67 246 j73) m67 else zD156_151 v2 v3 0 m67
def zD156  (a1 : Int32) (μ : xe_Mem) : zO := zq_vI ((xe_I μ 203 53) - 1) fun x1 => zq_x x1 8 fun j2 => zq_vI (xe_I μ 245 j2) fun x6 => zq_x x1 8 fun j7 => if (xe_I μ 243 j7) = 0 then if x6 ≤ 200 then zq_x a1 24 fun j11 => zq_m (xe_setI μ 222 j11 x6) fun m15 => zq_m (xe_setI m15 203 10 ((xe_I m15 203 10) + 1)) fun m17 => zq_m (xe_setI m17 203 53 ((xe_I m17 203 53) - 1)) fun m19 => some (.inl (some (.int 1)), m19) else zq_cI (zD150 μ) fun x23 m21 => zq_z x23 <| some (.inl (some (.int x23)), m21) else zq_m (xe_setI μ 203 10 ((xe_I μ 203 10) + 1)) fun m24 => zq_m (xe_setI m24 203 53 ((xe_I m24 203 53) - 1)) fun m26 => zq_x x1 8 fun j28 => if (xe_I m26 243 j28) = 3 then zq_x x1 8 fun j32 => zq_cV (zD157 12 (xe_I m26 244 j32) m26) fun m36 => zq_x (x1 - 1) 8 fun j38 => zq_x x1 8 fun j42 => zq_x (x1 - 1) 8 fun j46 => zq_m (xe_setI m36 245 j46 ((xe_I m36 245 j38) + ((xe_I m36 247 j42) * (1 + x6)))) fun m50 => some (.inl (some (.int 1)), m50) else zq_x x1 8 fun j52 => if (xe_I m26 243 j52) = 1 then zq_cI (zD141 6 m26) fun x58 m56 => if x58 = 0 then zD156_130 x1 x6 m56 else zq_m (xe_setI m56 203 10 ((xe_I m56 203 10) + 1)) fun m87 => zq_cV (zD157 10 0 m87) fun m89 => zq_x x1 8 fun j91 => zq_x (xe_I m89 244 j91) 6000 fun j95 => zq_m (xe_setI m89 240 j95 (xe_I m89 203 47)) fun m99 => zq_x x1 8 fun j101 => zq_m (xe_setI m99 244 j101 ((xe_I m99 203 47) - 1)) fun m105 => zq_x x1 8 fun j107 => zq_m (xe_setI m105 246 j107 x6) fun m111 => zq_cI (zD158 2 m111) fun x115 m113 => zq_z x115 <| some (.inl (some (.int x115)), m113) else zD156_130 x1 x6 m26
theorem zD156_166_ok {μ0 : xe_Mem} {δ : xe_Dy} {d : Nat} (hd : 2 ≤ d)  : ∀ (s1 : Int32) (s2 : Int32) (s3 : Int32) (s4 : Int32) (l0 : Option Value) (l1 : Option Value) (l2 : Option Value) (l3 : Option Value) (l4 : Option Value) (μ : xe_Mem), zT zPr μ0 μ → zK zPr μ0 δ d 156 166 [l0, l1, l2, l3, l4] [.int s4, .int s3, .int s2, .int s1, .ref 245] μ (zD156_166  s1 s2 s3 s4 μ) := by
  intro s1 s2 s3 s4 l0 l1 l2 l3 l4 μ hT
  unfold zD156_166
  refine zK_op rfl rfl ?_
  refine zK_op rfl rfl ?_
  refine zK_x (fun j81 h82 h83 h84 => ?_)
  refine zK_sI (a := 245) (g := (fun x => x)) rfl rfl hT h82 h83 h84 rfl (fun m85 T86 => ?_)
  refine zK_op rfl rfl ?_
  exact zK_ret3 rfl (Or.inr rfl) T86
theorem zD156_151_ok {μ0 : xe_Mem} {δ : xe_Dy} {d : Nat} (hd : 2 ≤ d)  : ∀ (v2 : Int32) (v3 : Int32) (s0 : Int32) (l1 : Option Value) (μ : xe_Mem), zT zPr μ0 μ → zK zPr μ0 δ d 156 151 [some (.ref 203), l1, some (.int v2), some (.int v3), none] [.int s0] μ (zD156_151  v2 v3 s0 μ) := by
  intro v2 v3 s0 l1 μ hT
  unfold zD156_151
  refine zK_op rfl rfl ?_
  refine zK_op rfl rfl ?_
  refine zK_gRl (b := 245) rfl rfl rfl hT ?_
  refine zK_op rfl rfl ?_
  refine zK_op rfl rfl ?_
  refine zK_op rfl rfl ?_
  refine zK_op rfl rfl ?_
  refine zK_x (fun j77 h78 h79 h80 => ?_)
  refine zK_aI rfl rfl hT h78 h79 h80 ?_
  refine zK_op rfl rfl ?_
  refine zK_op rfl rfl ?_
  refine zK_op rfl rfl ?_
  refine zK_icle rfl (fun _ => ?_) (fun _ => ?_)
  · refine zK_op rfl rfl ?_
    exact zD156_166_ok hd (v2 - 1) (xe_I μ 245 j77) 1 s0 _ _ _ _ _ μ hT
  refine zK_op rfl rfl ?_
  refine zK_op rfl rfl ?_
  exact zD156_166_ok hd (v2 - 1) (xe_I μ 245 j77) 1 v3 _ _ _ _ _ μ hT
theorem zD156_130_ok {μ0 : xe_Mem} {δ : xe_Dy} {d : Nat} (hd : 2 ≤ d)  : ∀ (v2 : Int32) (v3 : Int32) (l1 : Option Value) (μ : xe_Mem), zT zPr μ0 μ → zK zPr μ0 δ d 156 130 [some (.ref 203), l1, some (.int v2), some (.int v3), none] [] μ (zD156_130  v2 v3 μ) := by
  intro v2 v3 l1 μ hT
  unfold zD156_130
  refine zK_op rfl rfl ?_
  refine zK_gRl (b := 240) rfl rfl rfl hT ?_
  refine zK_op rfl rfl ?_
  refine zK_gRl (b := 244) rfl rfl rfl hT ?_
  refine zK_op rfl rfl ?_
  refine zK_x (fun j59 h60 h61 h62 => ?_)
  refine zK_aI rfl rfl hT h60 h61 h62 ?_
  refine zK_op rfl rfl ?_
  refine zK_gI rfl rfl hT ?_
  refine zK_x (fun j63 h64 h65 h66 => ?_)
  refine zK_sI (a := 240) (g := (fun x => x)) rfl rfl hT h64 h65 h66 rfl (fun m67 T68 => ?_)
  refine zK_op rfl rfl ?_
  refine zK_gRl (b := 243) rfl rfl rfl T68 ?_
  refine zK_op rfl rfl ?_
  refine zK_x (fun j69 h70 h71 h72 => ?_)
  refine zK_aI rfl rfl T68 h70 h71 h72 ?_
  refine zK_op rfl rfl ?_
  refine zK_icne rfl (fun _ => ?_) (fun _ => ?_)
  · refine zK_op rfl rfl ?_
    refine zK_gRl (b := 246) rfl rfl rfl T68 ?_
    refine zK_op rfl rfl ?_
    refine zK_x (fun j73 h74 h75 h76 => ?_)
    refine zK_aI rfl rfl T68 h74 h75 h76 ?_
    refine zK_op rfl rfl ?_
    exact zD156_151_ok hd v2 v3 (xe_I m67 246 j73) _ m67 T68
  refine zK_op rfl rfl ?_
  exact zD156_151_ok hd v2 v3 0 _ m67 T68
theorem zD156_ok {μ0 : xe_Mem} {δ : xe_Dy} {d : Nat} (hd : 2 ≤ d) (a1 : Int32) (μ : xe_Mem) (hT : zT zPr μ0 μ) : zK zPr μ0 δ d 156 0 (xe_init [.ref 203, .int a1] (xM_L 156)) [] μ (zD156 a1 μ) := by
  unfold zD156
  show zK zPr μ0 δ d 156 0 [some (.ref 203), some (.int a1), none, none, none] [] μ _
  refine zK_op rfl rfl ?_
  refine zK_gI rfl rfl hT ?_
  refine zK_op rfl rfl ?_
  refine zK_op rfl rfl ?_
  refine zK_vI (fun x1 => ?_)
  refine zK_op rfl rfl ?_
  refine zK_op rfl rfl ?_
  refine zK_gRl (b := 245) rfl rfl rfl hT ?_
  refine zK_op rfl rfl ?_
  refine zK_x (fun j2 h3 h4 h5 => ?_)
  refine zK_aI rfl rfl hT h3 h4 h5 ?_
  refine zK_vI (fun x6 => ?_)
  refine zK_op rfl rfl ?_
  refine zK_op rfl rfl ?_
  refine zK_gRl (b := 243) rfl rfl rfl hT ?_
  refine zK_op rfl rfl ?_
  refine zK_x (fun j7 h8 h9 h10 => ?_)
  refine zK_aI rfl rfl hT h8 h9 h10 ?_
  refine zK_ifne rfl (fun _ => ?_) (fun _ => ?_)
  · refine zK_op rfl rfl ?_
    refine zK_op rfl rfl ?_
    refine zK_icle rfl (fun _ => ?_) (fun _ => ?_)
    · refine zK_op rfl rfl ?_
      refine zK_gRl (b := 222) rfl rfl rfl hT ?_
      refine zK_op rfl rfl ?_
      refine zK_op rfl rfl ?_
      refine zK_x (fun j11 h12 h13 h14 => ?_)
      refine zK_sI (a := 222) (g := (fun x => x)) rfl rfl hT h12 h13 h14 rfl (fun m15 T16 => ?_)
      refine zK_op rfl rfl ?_
      refine zK_op rfl rfl ?_
      refine zK_gI rfl rfl T16 ?_
      refine zK_op rfl rfl ?_
      refine zK_op rfl rfl ?_
      refine zK_pI rfl rfl T16 rfl (fun m17 T18 => ?_)
      refine zK_op rfl rfl ?_
      refine zK_op rfl rfl ?_
      refine zK_gI rfl rfl T18 ?_
      refine zK_op rfl rfl ?_
      refine zK_op rfl rfl ?_
      refine zK_pI rfl rfl T18 rfl (fun m19 T20 => ?_)
      refine zK_op rfl rfl ?_
      exact zK_ret3 rfl (Or.inr rfl) T20
    refine zK_op rfl rfl ?_
    refine zK_cI rfl (as := [.ref 203]) (rest := []) rfl rfl (xe_rcvO (zT_sh hT rfl)) (Nat.le_of_ble_eq_true rfl) (Nat.le_of_ble_eq_true rfl) (by decide) (fun _ => rfl) (by omega) (zD150_ok (by omega) μ hT) (fun x23 m21 T22 => ?_)
    exact zK_ret3z rfl T22
  refine zK_op rfl rfl ?_
  refine zK_op rfl rfl ?_
  refine zK_gI rfl rfl hT ?_
  refine zK_op rfl rfl ?_
  refine zK_op rfl rfl ?_
  refine zK_pI rfl rfl hT rfl (fun m24 T25 => ?_)
  refine zK_op rfl rfl ?_
  refine zK_op rfl rfl ?_
  refine zK_gI rfl rfl T25 ?_
  refine zK_op rfl rfl ?_
  refine zK_op rfl rfl ?_
  refine zK_pI rfl rfl T25 rfl (fun m26 T27 => ?_)
  refine zK_op rfl rfl ?_
  refine zK_gRl (b := 243) rfl rfl rfl T27 ?_
  refine zK_op rfl rfl ?_
  refine zK_x (fun j28 h29 h30 h31 => ?_)
  refine zK_aI rfl rfl T27 h29 h30 h31 ?_
  refine zK_op rfl rfl ?_
  refine zK_icne rfl (fun _ => ?_) (fun _ => ?_)
  · refine zK_op rfl rfl ?_
    refine zK_op rfl rfl ?_
    refine zK_op rfl rfl ?_
    refine zK_gRl (b := 244) rfl rfl rfl T27 ?_
    refine zK_op rfl rfl ?_
    refine zK_x (fun j32 h33 h34 h35 => ?_)
    refine zK_aI rfl rfl T27 h33 h34 h35 ?_
    refine zK_cV rfl (as := [.ref 203, .int 12, .int (xe_I m26 244 j32)]) (rest := []) rfl rfl (xe_rcvO (zT_sh T27 rfl)) (Nat.le_of_ble_eq_true rfl) (Nat.le_of_ble_eq_true rfl) (by decide) (fun _ => rfl) (by omega) (zD157_ok (by omega) 12 (xe_I m26 244 j32) m26 T27) (fun m36 T37 => ?_)
    refine zK_op rfl rfl ?_
    refine zK_gRl (b := 245) rfl rfl rfl T37 ?_
    refine zK_op rfl rfl ?_
    refine zK_op rfl rfl ?_
    refine zK_op rfl rfl ?_
    refine zK_op rfl rfl ?_
    refine zK_x (fun j38 h39 h40 h41 => ?_)
    refine zK_aI rfl rfl T37 h39 h40 h41 ?_
    refine zK_op rfl rfl ?_
    refine zK_gRl (b := 247) rfl rfl rfl T37 ?_
    refine zK_op rfl rfl ?_
    refine zK_x (fun j42 h43 h44 h45 => ?_)
    refine zK_aI rfl rfl T37 h43 h44 h45 ?_
    refine zK_op rfl rfl ?_
    refine zK_op rfl rfl ?_
    refine zK_op rfl rfl ?_
    refine zK_op rfl rfl ?_
    refine zK_op rfl rfl ?_
    refine zK_x (fun j46 h47 h48 h49 => ?_)
    refine zK_sI (a := 245) (g := (fun x => x)) rfl rfl T37 h47 h48 h49 rfl (fun m50 T51 => ?_)
    refine zK_op rfl rfl ?_
    exact zK_ret3 rfl (Or.inr rfl) T51
  refine zK_op rfl rfl ?_
  refine zK_gRl (b := 243) rfl rfl rfl T27 ?_
  refine zK_op rfl rfl ?_
  refine zK_x (fun j52 h53 h54 h55 => ?_)
  refine zK_aI rfl rfl T27 h53 h54 h55 ?_
  refine zK_op rfl rfl ?_
  refine zK_icne rfl (fun _ => ?_) (fun _ => ?_)
  · refine zK_op rfl rfl ?_
    refine zK_op rfl rfl ?_
    refine zK_cI rfl (as := [.ref 203, .int 6]) (rest := []) rfl rfl (xe_rcvO (zT_sh T27 rfl)) (Nat.le_of_ble_eq_true rfl) (Nat.le_of_ble_eq_true rfl) (by decide) (fun _ => rfl) (by omega) (zD141_ok (by omega) 6 m26 T27) (fun x58 m56 T57 => ?_)
    refine zK_ifeq rfl (fun _ => ?_) (fun _ => ?_)
    · exact zD156_130_ok hd x1 x6 _ m56 T57
    refine zK_op rfl rfl ?_
    refine zK_op rfl rfl ?_
    refine zK_gI rfl rfl T57 ?_
    refine zK_op rfl rfl ?_
    refine zK_op rfl rfl ?_
    refine zK_pI rfl rfl T57 rfl (fun m87 T88 => ?_)
    refine zK_op rfl rfl ?_
    refine zK_op rfl rfl ?_
    refine zK_op rfl rfl ?_
    refine zK_cV rfl (as := [.ref 203, .int 10, .int 0]) (rest := []) rfl rfl (xe_rcvO (zT_sh T88 rfl)) (Nat.le_of_ble_eq_true rfl) (Nat.le_of_ble_eq_true rfl) (by decide) (fun _ => rfl) (by omega) (zD157_ok (by omega) 10 0 m87 T88) (fun m89 T90 => ?_)
    refine zK_op rfl rfl ?_
    refine zK_gRl (b := 240) rfl rfl rfl T90 ?_
    refine zK_op rfl rfl ?_
    refine zK_gRl (b := 244) rfl rfl rfl T90 ?_
    refine zK_op rfl rfl ?_
    refine zK_x (fun j91 h92 h93 h94 => ?_)
    refine zK_aI rfl rfl T90 h92 h93 h94 ?_
    refine zK_op rfl rfl ?_
    refine zK_gI rfl rfl T90 ?_
    refine zK_x (fun j95 h96 h97 h98 => ?_)
    refine zK_sI (a := 240) (g := (fun x => x)) rfl rfl T90 h96 h97 h98 rfl (fun m99 T100 => ?_)
    refine zK_op rfl rfl ?_
    refine zK_gRl (b := 244) rfl rfl rfl T100 ?_
    refine zK_op rfl rfl ?_
    refine zK_op rfl rfl ?_
    refine zK_gI rfl rfl T100 ?_
    refine zK_op rfl rfl ?_
    refine zK_op rfl rfl ?_
    refine zK_x (fun j101 h102 h103 h104 => ?_)
    refine zK_sI (a := 244) (g := (fun x => x)) rfl rfl T100 h102 h103 h104 rfl (fun m105 T106 => ?_)
    refine zK_op rfl rfl ?_
    refine zK_gRl (b := 246) rfl rfl rfl T106 ?_
    refine zK_op rfl rfl ?_
    refine zK_op rfl rfl ?_
    refine zK_x (fun j107 h108 h109 h110 => ?_)
    refine zK_sI (a := 246) (g := (fun x => x)) rfl rfl T106 h108 h109 h110 rfl (fun m111 T112 => ?_)
    refine zK_op rfl rfl ?_
    refine zK_op rfl rfl ?_
    refine zK_cI rfl (as := [.ref 203, .int 2]) (rest := []) rfl rfl (xe_rcvO (zT_sh T112 rfl)) (Nat.le_of_ble_eq_true rfl) (Nat.le_of_ble_eq_true rfl) (by decide) (fun _ => rfl) (by omega) (zD158_ok (by omega) 2 m111 T112) (fun x115 m113 T114 => ?_)
    exact zK_ret3z rfl T114
  exact zD156_130_ok hd x1 x6 _ m26 T27
/-! 162 LogicalTimesModel.past()Z -/
def zD162   (μ : xe_Mem) : zO := if (xe_I μ 203 59) = 60 then zq_cI (zD150 μ) fun x3 m1 => zq_z x3 <| some (.inl (some (.int x3)), m1) else zq_m (xe_setI μ 203 59 ((xe_I μ 203 59) + 1)) fun m4 => zq_m (xe_setI m4 203 10 ((xe_I m4 203 10) + 1)) fun m6 => some (.inl (some (.int 1)), m6)
theorem zD162_ok {μ0 : xe_Mem} {δ : xe_Dy} {d : Nat} (hd : 1 ≤ d) (μ : xe_Mem) (hT : zT zPr μ0 μ) : zK zPr μ0 δ d 162 0 (xe_init [.ref 203] (xM_L 162)) [] μ (zD162 μ) := by
  unfold zD162
  show zK zPr μ0 δ d 162 0 [some (.ref 203)] [] μ _
  refine zK_op rfl rfl ?_
  refine zK_gI rfl rfl hT ?_
  refine zK_op rfl rfl ?_
  refine zK_icne rfl (fun _ => ?_) (fun _ => ?_)
  · refine zK_op rfl rfl ?_
    refine zK_cI rfl (as := [.ref 203]) (rest := []) rfl rfl (xe_rcvO (zT_sh hT rfl)) (Nat.le_of_ble_eq_true rfl) (Nat.le_of_ble_eq_true rfl) (by decide) (fun _ => rfl) (by omega) (zD150_ok (by omega) μ hT) (fun x3 m1 T2 => ?_)
    exact zK_ret3z rfl T2
  refine zK_op rfl rfl ?_
  refine zK_op rfl rfl ?_
  refine zK_gI rfl rfl hT ?_
  refine zK_op rfl rfl ?_
  refine zK_op rfl rfl ?_
  refine zK_pI rfl rfl hT rfl (fun m4 T5 => ?_)
  refine zK_op rfl rfl ?_
  refine zK_op rfl rfl ?_
  refine zK_gI rfl rfl T5 ?_
  refine zK_op rfl rfl ?_
  refine zK_op rfl rfl ?_
  refine zK_pI rfl rfl T5 rfl (fun m6 T7 => ?_)
  refine zK_op rfl rfl ?_
  exact zK_ret3 rfl (Or.inr rfl) T7
