/-! methods as functions (by wip/whole/gen/dec.py) -/
/-! 161 LogicalTimesModel.operand(I)Z -/
def zD161_171 (s1 : Int32) (s2 : Int32) (μ : xe_Mem) : zO := zq_cV (zD157 s1 s2 μ) fun m35 => zq_cI (zD162 m35) fun x39 m37 => zq_z x39 <| some (.inl (some (.int x39)), m37)
def zD161_162 (v4 : Int32) (v5 : Int32) (v6 : Int32) (s1 : Int32) (μ : xe_Mem) : zO := if v4 < 0 then if v5 < 0 then zD161_171 s1 v6 μ else zD161_171 s1 v5 μ else zD161_171 s1 v4 μ
def zD161_152 (v4 : Int32) (v5 : Int32) (v6 : Int32) (μ : xe_Mem) : zO := if v4 < 0 then if v5 < 0 then zD161_162 v4 v5 v6 4 μ else zD161_162 v4 v5 v6 3 μ else zD161_162 v4 v5 v6 2 μ
def zD161_139 (v1 : Int32) (v4 : Int32) (v5 : Int32) (v6 : Int32) (μ : xe_Mem) : zO := if v4 < 0 then zD161_152 v4 v5 v6 μ else if v1 < 0 then zD161_152 v4 v5 v6 μ else zq_x ((12 * v1) + v4) 288 fun j40 => zq_m (xe_setI μ 226 j40 ((vp_nar .boolean) 1)) fun m44 => zD161_152 v4 v5 v6 m44
def zD161_130 (v1 : Int32) (v4 : Int32) (v5 : Int32) (v6 : Int32) (μ : xe_Mem) : zO := if 0 ≤ v4 then zD161_139 v1 v4 v5 v6 μ else if 0 ≤ v5 then zD161_139 v1 v4 v5 v6 μ else if 0 ≤ v6 then zD161_139 v1 v4 v5 v6 μ else zq_cI (zD150 μ) fun x48 m46 => zq_z x48 <| some (.inl (some (.int x48)), m46)
def zD161_127 (c107 : Int32 → Int64 → Int32 → Int32 → Int32 → Int32 → xe_Mem → zO) (v1 : Int32) (v2 : Int64) (v4 : Int32) (v5 : Int32) (v7 : Int32) (s0 : Int32) (μ : xe_Mem) : zO := c107 v1 v2 v4 v5 s0 (v7 + (1)) μ
def zD161_126 (c107 : Int32 → Int64 → Int32 → Int32 → Int32 → Int32 → xe_Mem → zO) (v1 : Int32) (v2 : Int64) (v4 : Int32) (v5 : Int32) (v6 : Int32) (v7 : Int32) (μ : xe_Mem) : zO := zD161_127 c107 v1 v2 v4 v5 v7 v6 μ
def zD161_107_b (c107 : Int32 → Int64 → Int32 → Int32 → Int32 → Int32 → xe_Mem → zO) (v1 : Int32) (v2 : Int64) (v4 : Int32) (v5 : Int32) (v6 : Int32) (v7 : Int32) (μ : xe_Mem) : zO := if 6 ≤ v7 then zD161_130 v1 v4 v5 v6 μ else if v1 < 0 then zD161_130 v1 v4 v5 v6 μ else zq_x v7 6 fun j49 => if (xe_I μ 242 j49) = 0 then zD161_126 c107 v1 v2 v4 v5 v6 v7 μ else zq_x v7 6 fun j53 => if (lg_cmp (xe_L μ 241 j53) v2) = 0 then zD161_127 c107 v1 v2 v4 v5 v7 v7 μ else zD161_126 c107 v1 v2 v4 v5 v6 v7 μ
def zD161_107   : Nat → Int32 → Int64 → Int32 → Int32 → Int32 → Int32 → xe_Mem → zO
  | 0 => fun _ _ _ _ _ _ _  => none
  | n + 1 => zD161_107_b   (zD161_107   n)
def zD161_55 (c0 : Int32 → xe_Mem → zO) (v1 : Int32) (μ : xe_Mem) : zO := zq_cI (zD162 μ) fun x81 m79 => if x81 = 0 then some (.inl (some (.int 0)), m79) else c0 v1 m79
def zD161_32 (c0 : Int32 → xe_Mem → zO) (v1 : Int32) (s1 : Int32) (s2 : Int32) (μ : xe_Mem) : zO := zq_x s1 70 fun j68 => zq_m (xe_setI μ 248 j68 s2) fun m72 => zq_m (xe_setI m72 203 61 ((xe_I m72 203 61) + 1)) fun m74 => zq_cI (zD147 40 m74) fun x78 m76 => if x78 = 0 then zD161_55 c0 v1 m76 else zq_m (xe_setI m76 203 64 ((xe_I m76 203 64) + 1)) fun m82 => zq_x (xe_I m82 203 64) 12 fun j84 => zq_m (xe_setI m82 249 j84 ((vp_nar .boolean) 0)) fun m88 => zD161_55 c0 v1 m88
def zD161_8 (c0 : Int32 → xe_Mem → zO) (v1 : Int32) (μ : xe_Mem) : zO := if (xe_I μ 203 60) = 8 then zq_cI (zD150 μ) fun x62 m60 => zq_z x62 <| some (.inl (some (.int x62)), m60) else zq_m (xe_setI μ 203 60 ((xe_I μ 203 60) + 1)) fun m63 => zq_cI (zD147 45 m63) fun x67 m65 => if x67 = 0 then zD161_32 c0 v1 (xe_I m63 203 61) 40 m65 else zD161_32 c0 v1 (xe_I m63 203 61) 95 m65
def zD161_0_b (c0 : Int32 → xe_Mem → zO) (v1 : Int32) (μ : xe_Mem) : zO := zq_cI (zD147 45 μ) fun x3 m1 => if x3 = 0 then zq_cI (zD147 40 m1) fun x6 m4 => if x6 = 0 then zq_x (xe_I m4 203 10) 3002 fun j7 => if (xe_I m4 207 j7) = 2 then zq_x (xe_I m4 203 10) 3002 fun j11 => zq_cV (zD157 1 ((xe_L m4 209 j11).toInt32) m4) fun m15 => zq_cI (zD162 m15) fun x19 m17 => zq_z x19 <| some (.inl (some (.int x19)), m17) else zq_x (xe_I m4 203 10) 3002 fun j20 => if (xe_I m4 207 j20) = 1 then zq_x (xe_I m4 203 10) 3002 fun j24 => zq_vL (xe_L m4 209 j24) fun x28 => zq_cI (zD144 x28 m4) fun x31 m29 => zq_cI (zD145 x28 m29) fun x34 m32 => zD161_107 zfu v1 x28 x31 x34 ((-1)) 0 m32 else zq_cI (zD150 m4) fun x59 m57 => zq_z x59 <| some (.inl (some (.int x59)), m57) else zD161_8 c0 v1 m4 else zD161_8 c0 v1 m1
def zD161_0   : Nat → Int32 → xe_Mem → zO
  | 0 => fun _ _  => none
  | n + 1 => zD161_0_b   (zD161_0   n)
def zD161  (a1 : Int32) (μ : xe_Mem) : zO := zD161_0 zfu a1 μ
theorem zD161_171_ok {μ0 : xe_Mem} {δ : xe_Dy} {d : Nat} (hd : 2 ≤ d)  : ∀ (s1 : Int32) (s2 : Int32) (l1 : Option Value) (l2 : Option Value) (l4 : Option Value) (l5 : Option Value) (l6 : Option Value) (l7 : Option Value) (μ : xe_Mem), zT zPr μ0 μ → zK zPr μ0 δ d 161 171 [some (.ref 203), l1, l2, none, l4, l5, l6, l7] [.int s2, .int s1, .ref 203] μ (zD161_171  s1 s2 μ) := by
  intro s1 s2 l1 l2 l4 l5 l6 l7 μ hT
  unfold zD161_171
  refine zK_cV rfl (as := [.ref 203, .int s1, .int s2]) (rest := []) rfl rfl (xe_rcvO (zT_sh hT rfl)) (Nat.le_of_ble_eq_true rfl) (Nat.le_of_ble_eq_true rfl) (by decide) (fun _ => rfl) (by omega) (zD157_ok (by omega) s1 s2 μ hT) (fun m35 T36 => ?_)
  refine zK_op rfl rfl ?_
  refine zK_cI rfl (as := [.ref 203]) (rest := []) rfl rfl (xe_rcvO (zT_sh T36 rfl)) (Nat.le_of_ble_eq_true rfl) (Nat.le_of_ble_eq_true rfl) (by decide) (fun _ => rfl) (by omega) (zD162_ok (by omega) m35 T36) (fun x39 m37 T38 => ?_)
  exact zK_ret3z rfl T38
theorem zD161_162_ok {μ0 : xe_Mem} {δ : xe_Dy} {d : Nat} (hd : 2 ≤ d)  : ∀ (v4 : Int32) (v5 : Int32) (v6 : Int32) (s1 : Int32) (l1 : Option Value) (l2 : Option Value) (l7 : Option Value) (μ : xe_Mem), zT zPr μ0 μ → zK zPr μ0 δ d 161 162 [some (.ref 203), l1, l2, none, some (.int v4), some (.int v5), some (.int v6), l7] [.int s1, .ref 203] μ (zD161_162  v4 v5 v6 s1 μ) := by
  intro v4 v5 v6 s1 l1 l2 l7 μ hT
  unfold zD161_162
  refine zK_op rfl rfl ?_
  refine zK_iflt rfl (fun _ => ?_) (fun _ => ?_)
  · refine zK_op rfl rfl ?_
    refine zK_iflt rfl (fun _ => ?_) (fun _ => ?_)
    · refine zK_op rfl rfl ?_
      exact zD161_171_ok hd s1 v6 _ _ _ _ _ _ μ hT
    refine zK_op rfl rfl ?_
    refine zK_op rfl rfl ?_
    exact zD161_171_ok hd s1 v5 _ _ _ _ _ _ μ hT
  refine zK_op rfl rfl ?_
  refine zK_op rfl rfl ?_
  exact zD161_171_ok hd s1 v4 _ _ _ _ _ _ μ hT
theorem zD161_152_ok {μ0 : xe_Mem} {δ : xe_Dy} {d : Nat} (hd : 2 ≤ d)  : ∀ (v4 : Int32) (v5 : Int32) (v6 : Int32) (l1 : Option Value) (l2 : Option Value) (l7 : Option Value) (μ : xe_Mem), zT zPr μ0 μ → zK zPr μ0 δ d 161 152 [some (.ref 203), l1, l2, none, some (.int v4), some (.int v5), some (.int v6), l7] [] μ (zD161_152  v4 v5 v6 μ) := by
  intro v4 v5 v6 l1 l2 l7 μ hT
  unfold zD161_152
  refine zK_op rfl rfl ?_
  refine zK_op rfl rfl ?_
  refine zK_iflt rfl (fun _ => ?_) (fun _ => ?_)
  · refine zK_op rfl rfl ?_
    refine zK_iflt rfl (fun _ => ?_) (fun _ => ?_)
    · refine zK_op rfl rfl ?_
      exact zD161_162_ok hd v4 v5 v6 4 _ _ _ μ hT
    refine zK_op rfl rfl ?_
    refine zK_op rfl rfl ?_
    exact zD161_162_ok hd v4 v5 v6 3 _ _ _ μ hT
  refine zK_op rfl rfl ?_
  refine zK_op rfl rfl ?_
  exact zD161_162_ok hd v4 v5 v6 2 _ _ _ μ hT
theorem zD161_139_ok {μ0 : xe_Mem} {δ : xe_Dy} {d : Nat} (hd : 2 ≤ d)  : ∀ (v1 : Int32) (v4 : Int32) (v5 : Int32) (v6 : Int32) (l2 : Option Value) (l7 : Option Value) (μ : xe_Mem), zT zPr μ0 μ → zK zPr μ0 δ d 161 139 [some (.ref 203), some (.int v1), l2, none, some (.int v4), some (.int v5), some (.int v6), l7] [] μ (zD161_139  v1 v4 v5 v6 μ) := by
  intro v1 v4 v5 v6 l2 l7 μ hT
  unfold zD161_139
  refine zK_op rfl rfl ?_
  refine zK_iflt rfl (fun _ => ?_) (fun _ => ?_)
  · exact zD161_152_ok hd v4 v5 v6 _ _ _ μ hT
  refine zK_op rfl rfl ?_
  refine zK_iflt rfl (fun _ => ?_) (fun _ => ?_)
  · exact zD161_152_ok hd v4 v5 v6 _ _ _ μ hT
  refine zK_op rfl rfl ?_
  refine zK_gRl (b := 226) rfl rfl rfl hT ?_
  refine zK_op rfl rfl ?_
  refine zK_op rfl rfl ?_
  refine zK_op rfl rfl ?_
  refine zK_op rfl rfl ?_
  refine zK_op rfl rfl ?_
  refine zK_op rfl rfl ?_
  refine zK_x (fun j40 h41 h42 h43 => ?_)
  refine zK_sI (a := 226) (g := (vp_nar .boolean)) rfl rfl hT h41 h42 h43 rfl (fun m44 T45 => ?_)
  exact zD161_152_ok hd v4 v5 v6 _ _ _ m44 T45
theorem zD161_130_ok {μ0 : xe_Mem} {δ : xe_Dy} {d : Nat} (hd : 2 ≤ d)  : ∀ (v1 : Int32) (v4 : Int32) (v5 : Int32) (v6 : Int32) (l2 : Option Value) (l7 : Option Value) (μ : xe_Mem), zT zPr μ0 μ → zK zPr μ0 δ d 161 130 [some (.ref 203), some (.int v1), l2, none, some (.int v4), some (.int v5), some (.int v6), l7] [] μ (zD161_130  v1 v4 v5 v6 μ) := by
  intro v1 v4 v5 v6 l2 l7 μ hT
  unfold zD161_130
  refine zK_op rfl rfl ?_
  refine zK_ifge rfl (fun _ => ?_) (fun _ => ?_)
  · exact zD161_139_ok hd v1 v4 v5 v6 _ _ μ hT
  refine zK_op rfl rfl ?_
  refine zK_ifge rfl (fun _ => ?_) (fun _ => ?_)
  · exact zD161_139_ok hd v1 v4 v5 v6 _ _ μ hT
  refine zK_op rfl rfl ?_
  refine zK_ifge rfl (fun _ => ?_) (fun _ => ?_)
  · exact zD161_139_ok hd v1 v4 v5 v6 _ _ μ hT
  refine zK_op rfl rfl ?_
  refine zK_cI rfl (as := [.ref 203]) (rest := []) rfl rfl (xe_rcvO (zT_sh hT rfl)) (Nat.le_of_ble_eq_true rfl) (Nat.le_of_ble_eq_true rfl) (by decide) (fun _ => rfl) (by omega) (zD150_ok (by omega) μ hT) (fun x48 m46 T47 => ?_)
  exact zK_ret3z rfl T47
theorem zD161_127_ok {μ0 : xe_Mem} {δ : xe_Dy} {d : Nat} (hd : 2 ≤ d) {c107 : Int32 → Int64 → Int32 → Int32 → Int32 → Int32 → xe_Mem → zO} (hc107 : ∀ (v1 : Int32) (v2 : Int64) (v4 : Int32) (v5 : Int32) (v6 : Int32) (v7 : Int32) (μ : xe_Mem), zT zPr μ0 μ → zK zPr μ0 δ d 161 107 [some (.ref 203), some (.int v1), some (.long v2), none, some (.int v4), some (.int v5), some (.int v6), some (.int v7)] [] μ (c107 v1 v2 v4 v5 v6 v7 μ)) : ∀ (v1 : Int32) (v2 : Int64) (v4 : Int32) (v5 : Int32) (v7 : Int32) (s0 : Int32) (l6 : Option Value) (μ : xe_Mem), zT zPr μ0 μ → zK zPr μ0 δ d 161 127 [some (.ref 203), some (.int v1), some (.long v2), none, some (.int v4), some (.int v5), l6, some (.int v7)] [.int s0] μ (zD161_127  c107 v1 v2 v4 v5 v7 s0 μ) := by
  intro v1 v2 v4 v5 v7 s0 l6 μ hT
  unfold zD161_127
  refine zK_op rfl rfl ?_
  refine zK_op rfl rfl ?_
  refine zK_op rfl rfl ?_
  exact hc107 v1 v2 v4 v5 s0 (v7 + (1)) μ hT
theorem zD161_126_ok {μ0 : xe_Mem} {δ : xe_Dy} {d : Nat} (hd : 2 ≤ d) {c107 : Int32 → Int64 → Int32 → Int32 → Int32 → Int32 → xe_Mem → zO} (hc107 : ∀ (v1 : Int32) (v2 : Int64) (v4 : Int32) (v5 : Int32) (v6 : Int32) (v7 : Int32) (μ : xe_Mem), zT zPr μ0 μ → zK zPr μ0 δ d 161 107 [some (.ref 203), some (.int v1), some (.long v2), none, some (.int v4), some (.int v5), some (.int v6), some (.int v7)] [] μ (c107 v1 v2 v4 v5 v6 v7 μ)) : ∀ (v1 : Int32) (v2 : Int64) (v4 : Int32) (v5 : Int32) (v6 : Int32) (v7 : Int32) (μ : xe_Mem), zT zPr μ0 μ → zK zPr μ0 δ d 161 126 [some (.ref 203), some (.int v1), some (.long v2), none, some (.int v4), some (.int v5), some (.int v6), some (.int v7)] [] μ (zD161_126  c107 v1 v2 v4 v5 v6 v7 μ) := by
  intro v1 v2 v4 v5 v6 v7 μ hT
  unfold zD161_126
  refine zK_op rfl rfl ?_
  exact zD161_127_ok hd hc107 v1 v2 v4 v5 v7 v6 _ μ hT
theorem zD161_107_bok {μ0 : xe_Mem} {δ : xe_Dy} {d : Nat} (hd : 2 ≤ d)  {c107 : Int32 → Int64 → Int32 → Int32 → Int32 → Int32 → xe_Mem → zO} (hc107 : ∀ (v1 : Int32) (v2 : Int64) (v4 : Int32) (v5 : Int32) (v6 : Int32) (v7 : Int32) (μ : xe_Mem), zT zPr μ0 μ → zK zPr μ0 δ d 161 107 [some (.ref 203), some (.int v1), some (.long v2), none, some (.int v4), some (.int v5), some (.int v6), some (.int v7)] [] μ (c107 v1 v2 v4 v5 v6 v7 μ)) : ∀ (v1 : Int32) (v2 : Int64) (v4 : Int32) (v5 : Int32) (v6 : Int32) (v7 : Int32) (μ : xe_Mem), zT zPr μ0 μ → zK zPr μ0 δ d 161 107 [some (.ref 203), some (.int v1), some (.long v2), none, some (.int v4), some (.int v5), some (.int v6), some (.int v7)] [] μ (zD161_107_b  c107 v1 v2 v4 v5 v6 v7 μ) := by
  intro v1 v2 v4 v5 v6 v7 μ hT
  unfold zD161_107_b
  refine zK_op rfl rfl ?_
  refine zK_op rfl rfl ?_
  refine zK_icge rfl (fun _ => ?_) (fun _ => ?_)
  · exact zD161_130_ok hd v1 v4 v5 v6 _ _ μ hT
  refine zK_op rfl rfl ?_
  refine zK_iflt rfl (fun _ => ?_) (fun _ => ?_)
  · exact zD161_130_ok hd v1 v4 v5 v6 _ _ μ hT
  refine zK_op rfl rfl ?_
  refine zK_gRl (b := 242) rfl rfl rfl hT ?_
  refine zK_op rfl rfl ?_
  refine zK_x (fun j49 h50 h51 h52 => ?_)
  refine zK_aI rfl rfl hT h50 h51 h52 ?_
  refine zK_ifeq rfl (fun _ => ?_) (fun _ => ?_)
  · exact zD161_126_ok hd hc107 v1 v2 v4 v5 v6 v7 μ hT
  refine zK_op rfl rfl ?_
  refine zK_gRl (b := 241) rfl rfl rfl hT ?_
  refine zK_op rfl rfl ?_
  refine zK_x (fun j53 h54 h55 h56 => ?_)
  refine zK_aL rfl rfl hT h54 h55 h56 ?_
  refine zK_op rfl rfl ?_
  refine zK_op rfl rfl ?_
  refine zK_ifne rfl (fun _ => ?_) (fun _ => ?_)
  · refine zK_op rfl rfl ?_
    refine zK_op rfl rfl ?_
    exact zD161_127_ok hd hc107 v1 v2 v4 v5 v7 v7 _ μ hT
  exact zD161_126_ok hd hc107 v1 v2 v4 v5 v6 v7 μ hT
theorem zD161_107_ok {μ0 : xe_Mem} {δ : xe_Dy} {d : Nat} (hd : 2 ≤ d)  : ∀ n : Nat, ∀ (v1 : Int32) (v2 : Int64) (v4 : Int32) (v5 : Int32) (v6 : Int32) (v7 : Int32) (μ : xe_Mem), zT zPr μ0 μ → zK zPr μ0 δ d 161 107 [some (.ref 203), some (.int v1), some (.long v2), none, some (.int v4), some (.int v5), some (.int v6), some (.int v7)] [] μ (zD161_107  n v1 v2 v4 v5 v6 v7 μ) := by
  intro n
  induction n with
  | zero => exact fun _ _ _ _ _ _ _ _  => fun o μ' h => by cases h
  | succ n ih => exact zD161_107_bok hd   ih
theorem zD161_55_ok {μ0 : xe_Mem} {δ : xe_Dy} {d : Nat} (hd : 2 ≤ d) {c0 : Int32 → xe_Mem → zO} (hc0 : ∀ (v1 : Int32) (μ : xe_Mem), zT zPr μ0 μ → zK zPr μ0 δ d 161 0 [some (.ref 203), some (.int v1), none, none, none, none, none, none] [] μ (c0 v1 μ)) : ∀ (v1 : Int32) (μ : xe_Mem), zT zPr μ0 μ → zK zPr μ0 δ d 161 55 [some (.ref 203), some (.int v1), none, none, none, none, none, none] [] μ (zD161_55  c0 v1 μ) := by
  intro v1 μ hT
  unfold zD161_55
  refine zK_op rfl rfl ?_
  refine zK_cI rfl (as := [.ref 203]) (rest := []) rfl rfl (xe_rcvO (zT_sh hT rfl)) (Nat.le_of_ble_eq_true rfl) (Nat.le_of_ble_eq_true rfl) (by decide) (fun _ => rfl) (by omega) (zD162_ok (by omega) μ hT) (fun x81 m79 T80 => ?_)
  refine zK_ifne rfl (fun _ => ?_) (fun _ => ?_)
  · refine zK_op rfl rfl ?_
    exact zK_ret3 rfl (Or.inl rfl) T80
  exact hc0 v1 m79 T80
theorem zD161_32_ok {μ0 : xe_Mem} {δ : xe_Dy} {d : Nat} (hd : 2 ≤ d) {c0 : Int32 → xe_Mem → zO} (hc0 : ∀ (v1 : Int32) (μ : xe_Mem), zT zPr μ0 μ → zK zPr μ0 δ d 161 0 [some (.ref 203), some (.int v1), none, none, none, none, none, none] [] μ (c0 v1 μ)) : ∀ (v1 : Int32) (s1 : Int32) (s2 : Int32) (μ : xe_Mem), zT zPr μ0 μ → zK zPr μ0 δ d 161 32 [some (.ref 203), some (.int v1), none, none, none, none, none, none] [.int s2, .int s1, .ref 248] μ (zD161_32  c0 v1 s1 s2 μ) := by
  intro v1 s1 s2 μ hT
  unfold zD161_32
  refine zK_x (fun j68 h69 h70 h71 => ?_)
  refine zK_sI (a := 248) (g := (fun x => x)) rfl rfl hT h69 h70 h71 rfl (fun m72 T73 => ?_)
  refine zK_op rfl rfl ?_
  refine zK_op rfl rfl ?_
  refine zK_gI rfl rfl T73 ?_
  refine zK_op rfl rfl ?_
  refine zK_op rfl rfl ?_
  refine zK_pI rfl rfl T73 rfl (fun m74 T75 => ?_)
  refine zK_op rfl rfl ?_
  refine zK_op rfl rfl ?_
  refine zK_cI rfl (as := [.ref 203, .int 40]) (rest := []) rfl rfl (xe_rcvO (zT_sh T75 rfl)) (Nat.le_of_ble_eq_true rfl) (Nat.le_of_ble_eq_true rfl) (by decide) (fun _ => rfl) (by omega) (zD147_ok (by omega) 40 m74 T75) (fun x78 m76 T77 => ?_)
  refine zK_ifeq rfl (fun _ => ?_) (fun _ => ?_)
  · exact zD161_55_ok hd hc0 v1 m76 T77
  refine zK_op rfl rfl ?_
  refine zK_op rfl rfl ?_
  refine zK_gI rfl rfl T77 ?_
  refine zK_op rfl rfl ?_
  refine zK_op rfl rfl ?_
  refine zK_pI rfl rfl T77 rfl (fun m82 T83 => ?_)
  refine zK_op rfl rfl ?_
  refine zK_gRl (b := 249) rfl rfl rfl T83 ?_
  refine zK_op rfl rfl ?_
  refine zK_gI rfl rfl T83 ?_
  refine zK_op rfl rfl ?_
  refine zK_x (fun j84 h85 h86 h87 => ?_)
  refine zK_sI (a := 249) (g := (vp_nar .boolean)) rfl rfl T83 h85 h86 h87 rfl (fun m88 T89 => ?_)
  exact zD161_55_ok hd hc0 v1 m88 T89
theorem zD161_8_ok {μ0 : xe_Mem} {δ : xe_Dy} {d : Nat} (hd : 2 ≤ d) {c0 : Int32 → xe_Mem → zO} (hc0 : ∀ (v1 : Int32) (μ : xe_Mem), zT zPr μ0 μ → zK zPr μ0 δ d 161 0 [some (.ref 203), some (.int v1), none, none, none, none, none, none] [] μ (c0 v1 μ)) : ∀ (v1 : Int32) (μ : xe_Mem), zT zPr μ0 μ → zK zPr μ0 δ d 161 8 [some (.ref 203), some (.int v1), none, none, none, none, none, none] [] μ (zD161_8  c0 v1 μ) := by
  intro v1 μ hT
  unfold zD161_8
  refine zK_op rfl rfl ?_
  refine zK_gI rfl rfl hT ?_
  refine zK_op rfl rfl ?_
  refine zK_icne rfl (fun _ => ?_) (fun _ => ?_)
  · refine zK_op rfl rfl ?_
    refine zK_cI rfl (as := [.ref 203]) (rest := []) rfl rfl (xe_rcvO (zT_sh hT rfl)) (Nat.le_of_ble_eq_true rfl) (Nat.le_of_ble_eq_true rfl) (by decide) (fun _ => rfl) (by omega) (zD150_ok (by omega) μ hT) (fun x62 m60 T61 => ?_)
    exact zK_ret3z rfl T61
  refine zK_op rfl rfl ?_
  refine zK_op rfl rfl ?_
  refine zK_gI rfl rfl hT ?_
  refine zK_op rfl rfl ?_
  refine zK_op rfl rfl ?_
  refine zK_pI rfl rfl hT rfl (fun m63 T64 => ?_)
  refine zK_op rfl rfl ?_
  refine zK_gRl (b := 248) rfl rfl rfl T64 ?_
  refine zK_op rfl rfl ?_
  refine zK_gI rfl rfl T64 ?_
  refine zK_op rfl rfl ?_
  refine zK_op rfl rfl ?_
  refine zK_cI rfl (as := [.ref 203, .int 45]) (rest := [.int (xe_I m63 203 61), .ref 248]) rfl rfl (xe_rcvO (zT_sh T64 rfl)) (Nat.le_of_ble_eq_true rfl) (Nat.le_of_ble_eq_true rfl) (by decide) (fun _ => rfl) (by omega) (zD147_ok (by omega) 45 m63 T64) (fun x67 m65 T66 => ?_)
  refine zK_ifeq rfl (fun _ => ?_) (fun _ => ?_)
  · refine zK_op rfl rfl ?_
    exact zD161_32_ok hd hc0 v1 (xe_I m63 203 61) 40 m65 T66
  refine zK_op rfl rfl ?_
  refine zK_op rfl rfl ?_
  exact zD161_32_ok hd hc0 v1 (xe_I m63 203 61) 95 m65 T66
theorem zD161_0_bok {μ0 : xe_Mem} {δ : xe_Dy} {d : Nat} (hd : 2 ≤ d)  {c0 : Int32 → xe_Mem → zO} (hc0 : ∀ (v1 : Int32) (μ : xe_Mem), zT zPr μ0 μ → zK zPr μ0 δ d 161 0 [some (.ref 203), some (.int v1), none, none, none, none, none, none] [] μ (c0 v1 μ)) : ∀ (v1 : Int32) (μ : xe_Mem), zT zPr μ0 μ → zK zPr μ0 δ d 161 0 [some (.ref 203), some (.int v1), none, none, none, none, none, none] [] μ (zD161_0_b  c0 v1 μ) := by
  intro v1 μ hT
  unfold zD161_0_b
  refine zK_op rfl rfl ?_
  refine zK_op rfl rfl ?_
  refine zK_cI rfl (as := [.ref 203, .int 45]) (rest := []) rfl rfl (xe_rcvO (zT_sh hT rfl)) (Nat.le_of_ble_eq_true rfl) (Nat.le_of_ble_eq_true rfl) (by decide) (fun _ => rfl) (by omega) (zD147_ok (by omega) 45 μ hT) (fun x3 m1 T2 => ?_)
  refine zK_ifne rfl (fun _ => ?_) (fun _ => ?_)
  · refine zK_op rfl rfl ?_
    refine zK_op rfl rfl ?_
    refine zK_cI rfl (as := [.ref 203, .int 40]) (rest := []) rfl rfl (xe_rcvO (zT_sh T2 rfl)) (Nat.le_of_ble_eq_true rfl) (Nat.le_of_ble_eq_true rfl) (by decide) (fun _ => rfl) (by omega) (zD147_ok (by omega) 40 m1 T2) (fun x6 m4 T5 => ?_)
    refine zK_ifeq rfl (fun _ => ?_) (fun _ => ?_)
    · refine zK_op rfl rfl ?_
      refine zK_gRl (b := 207) rfl rfl rfl T5 ?_
      refine zK_op rfl rfl ?_
      refine zK_gI rfl rfl T5 ?_
      refine zK_x (fun j7 h8 h9 h10 => ?_)
      refine zK_aI rfl rfl T5 h8 h9 h10 ?_
      refine zK_op rfl rfl ?_
      refine zK_icne rfl (fun _ => ?_) (fun _ => ?_)
      · refine zK_op rfl rfl ?_
        refine zK_op rfl rfl ?_
        refine zK_op rfl rfl ?_
        refine zK_gRl (b := 209) rfl rfl rfl T5 ?_
        refine zK_op rfl rfl ?_
        refine zK_gI rfl rfl T5 ?_
        refine zK_x (fun j11 h12 h13 h14 => ?_)
        refine zK_aL rfl rfl T5 h12 h13 h14 ?_
        refine zK_op rfl rfl ?_
        refine zK_cV rfl (as := [.ref 203, .int 1, .int ((xe_L m4 209 j11).toInt32)]) (rest := []) rfl rfl (xe_rcvO (zT_sh T5 rfl)) (Nat.le_of_ble_eq_true rfl) (Nat.le_of_ble_eq_true rfl) (by decide) (fun _ => rfl) (by omega) (zD157_ok (by omega) 1 ((xe_L m4 209 j11).toInt32) m4 T5) (fun m15 T16 => ?_)
        refine zK_op rfl rfl ?_
        refine zK_cI rfl (as := [.ref 203]) (rest := []) rfl rfl (xe_rcvO (zT_sh T16 rfl)) (Nat.le_of_ble_eq_true rfl) (Nat.le_of_ble_eq_true rfl) (by decide) (fun _ => rfl) (by omega) (zD162_ok (by omega) m15 T16) (fun x19 m17 T18 => ?_)
        exact zK_ret3z rfl T18
      refine zK_op rfl rfl ?_
      refine zK_gRl (b := 207) rfl rfl rfl T5 ?_
      refine zK_op rfl rfl ?_
      refine zK_gI rfl rfl T5 ?_
      refine zK_x (fun j20 h21 h22 h23 => ?_)
      refine zK_aI rfl rfl T5 h21 h22 h23 ?_
      refine zK_op rfl rfl ?_
      refine zK_iceq rfl (fun _ => ?_) (fun _ => ?_)
      · refine zK_op rfl rfl ?_
        refine zK_gRl (b := 209) rfl rfl rfl T5 ?_
        refine zK_op rfl rfl ?_
        refine zK_gI rfl rfl T5 ?_
        refine zK_x (fun j24 h25 h26 h27 => ?_)
        refine zK_aL rfl rfl T5 h25 h26 h27 ?_
        refine zK_vL (fun x28 => ?_)
        refine zK_op rfl rfl ?_
        refine zK_op rfl rfl ?_
        refine zK_op rfl rfl ?_
        refine zK_cI rfl (as := [.ref 203, .long x28]) (rest := []) rfl rfl (xe_rcvO (zT_sh T5 rfl)) (Nat.le_of_ble_eq_true rfl) (Nat.le_of_ble_eq_true rfl) (by decide) (fun _ => rfl) (by omega) (zD144_ok (by omega) x28 m4 T5) (fun x31 m29 T30 => ?_)
        refine zK_op rfl rfl ?_
        refine zK_op rfl rfl ?_
        refine zK_op rfl rfl ?_
        refine zK_cI rfl (as := [.ref 203, .long x28]) (rest := []) rfl rfl (xe_rcvO (zT_sh T30 rfl)) (Nat.le_of_ble_eq_true rfl) (Nat.le_of_ble_eq_true rfl) (by decide) (fun _ => rfl) (by omega) (zD145_ok (by omega) x28 m29 T30) (fun x34 m32 T33 => ?_)
        refine zK_op rfl rfl ?_
        refine zK_op rfl rfl ?_
        refine zK_op rfl rfl ?_
        refine zK_op rfl rfl ?_
        refine zK_op rfl rfl ?_
        exact zD161_107_ok hd zfu v1 x28 x31 x34 ((-1)) 0 m32 T33
      refine zK_op rfl rfl ?_
      refine zK_cI rfl (as := [.ref 203]) (rest := []) rfl rfl (xe_rcvO (zT_sh T5 rfl)) (Nat.le_of_ble_eq_true rfl) (Nat.le_of_ble_eq_true rfl) (by decide) (fun _ => rfl) (by omega) (zD150_ok (by omega) m4 T5) (fun x59 m57 T58 => ?_)
      exact zK_ret3z rfl T58
    exact zD161_8_ok hd hc0 v1 m4 T5
  exact zD161_8_ok hd hc0 v1 m1 T2
theorem zD161_0_ok {μ0 : xe_Mem} {δ : xe_Dy} {d : Nat} (hd : 2 ≤ d)  : ∀ n : Nat, ∀ (v1 : Int32) (μ : xe_Mem), zT zPr μ0 μ → zK zPr μ0 δ d 161 0 [some (.ref 203), some (.int v1), none, none, none, none, none, none] [] μ (zD161_0  n v1 μ) := by
  intro n
  induction n with
  | zero => exact fun _ _ _  => fun o μ' h => by cases h
  | succ n ih => exact zD161_0_bok hd   ih
theorem zD161_ok {μ0 : xe_Mem} {δ : xe_Dy} {d : Nat} (hd : 2 ≤ d) (a1 : Int32) (μ : xe_Mem) (hT : zT zPr μ0 μ) : zK zPr μ0 δ d 161 0 (xe_init [.ref 203, .int a1] (xM_L 161)) [] μ (zD161 a1 μ) := by
  unfold zD161
  show zK zPr μ0 δ d 161 0 [some (.ref 203), some (.int a1), none, none, none, none, none, none] [] μ _
  exact zD161_0_ok hd zfu a1 μ hT
/-! 163 LogicalTimesModel.turn()V -/
def zD163_29 (μ : xe_Mem) : zO := some (.inl none, μ)
def zD163_0_b (c0 : xe_Mem → zO) (μ : xe_Mem) : zO := if (xe_I μ 203 61) ≤ 0 then zD163_29 μ else zq_x ((xe_I μ 203 61) - 1) 70 fun j1 => if (xe_I μ 248 j1) = 95 then zq_m (xe_setI μ 203 61 ((xe_I μ 203 61) - 1)) fun m5 => zq_m (xe_setI m5 203 60 ((xe_I m5 203 60) - 1)) fun m7 => zq_cV (zD157 5 0 m7) fun m9 => c0 m9 else zD163_29 μ
def zD163_0   : Nat → xe_Mem → zO
  | 0 => fun _  => none
  | n + 1 => zD163_0_b   (zD163_0   n)
def zD163   (μ : xe_Mem) : zO := zD163_0 zfu μ
theorem zD163_29_ok {μ0 : xe_Mem} {δ : xe_Dy} {d : Nat} (hd : 1 ≤ d)  : ∀ (l0 : Option Value) (μ : xe_Mem), zT zPr μ0 μ → zK zPr μ0 δ d 163 29 [l0] [] μ (zD163_29  μ) := by
  intro l0 μ hT
  unfold zD163_29
  exact zK_ret0 rfl hT
theorem zD163_0_bok {μ0 : xe_Mem} {δ : xe_Dy} {d : Nat} (hd : 1 ≤ d)  {c0 : xe_Mem → zO} (hc0 : ∀ (μ : xe_Mem), zT zPr μ0 μ → zK zPr μ0 δ d 163 0 [some (.ref 203)] [] μ (c0 μ)) : ∀ (μ : xe_Mem), zT zPr μ0 μ → zK zPr μ0 δ d 163 0 [some (.ref 203)] [] μ (zD163_0_b  c0 μ) := by
  intro μ hT
  unfold zD163_0_b
  refine zK_op rfl rfl ?_
  refine zK_gI rfl rfl hT ?_
  refine zK_ifle rfl (fun _ => ?_) (fun _ => ?_)
  · exact zD163_29_ok hd _ μ hT
  refine zK_op rfl rfl ?_
  refine zK_gRl (b := 248) rfl rfl rfl hT ?_
  refine zK_op rfl rfl ?_
  refine zK_gI rfl rfl hT ?_
  refine zK_op rfl rfl ?_
  refine zK_op rfl rfl ?_
  refine zK_x (fun j1 h2 h3 h4 => ?_)
  refine zK_aI rfl rfl hT h2 h3 h4 ?_
  refine zK_op rfl rfl ?_
  refine zK_icne rfl (fun _ => ?_) (fun _ => ?_)
  · refine zK_op rfl rfl ?_
    refine zK_op rfl rfl ?_
    refine zK_gI rfl rfl hT ?_
    refine zK_op rfl rfl ?_
    refine zK_op rfl rfl ?_
    refine zK_pI rfl rfl hT rfl (fun m5 T6 => ?_)
    refine zK_op rfl rfl ?_
    refine zK_op rfl rfl ?_
    refine zK_gI rfl rfl T6 ?_
    refine zK_op rfl rfl ?_
    refine zK_op rfl rfl ?_
    refine zK_pI rfl rfl T6 rfl (fun m7 T8 => ?_)
    refine zK_op rfl rfl ?_
    refine zK_op rfl rfl ?_
    refine zK_op rfl rfl ?_
    refine zK_cV rfl (as := [.ref 203, .int 5, .int 0]) (rest := []) rfl rfl (xe_rcvO (zT_sh T8 rfl)) (Nat.le_of_ble_eq_true rfl) (Nat.le_of_ble_eq_true rfl) (by decide) (fun _ => rfl) (by omega) (zD157_ok (by omega) 5 0 m7 T8) (fun m9 T10 => ?_)
    refine zK_op rfl rfl ?_
    exact hc0 m9 T10
  exact zD163_29_ok hd _ μ hT
theorem zD163_0_ok {μ0 : xe_Mem} {δ : xe_Dy} {d : Nat} (hd : 1 ≤ d)  : ∀ n : Nat, ∀ (μ : xe_Mem), zT zPr μ0 μ → zK zPr μ0 δ d 163 0 [some (.ref 203)] [] μ (zD163_0  n μ) := by
  intro n
  induction n with
  | zero => exact fun _ _  => fun o μ' h => by cases h
  | succ n ih => exact zD163_0_bok hd   ih
theorem zD163_ok {μ0 : xe_Mem} {δ : xe_Dy} {d : Nat} (hd : 1 ≤ d) (μ : xe_Mem) (hT : zT zPr μ0 μ) : zK zPr μ0 δ d 163 0 (xe_init [.ref 203] (xM_L 163)) [] μ (zD163 μ) := by
  unfold zD163
  show zK zPr μ0 δ d 163 0 [some (.ref 203)] [] μ _
  exact zD163_0_ok hd zfu μ hT
/-! 165 LogicalTimesModel.tight(I)I -/
def zD165_28 (s0 : Int32) (μ : xe_Mem) : zO := some (.inl (some (.int s0)), μ)
def zD165_9 (μ : xe_Mem) : zO := zD165_28 3 μ
def zD165_17 (μ : xe_Mem) : zO := zD165_28 2 μ
def zD165_25 (μ : xe_Mem) : zO := zD165_28 1 μ
def zD165  (a0 : Int32) (μ : xe_Mem) : zO := if a0 = 42 then zD165_9 μ else if a0 = 47 then zD165_9 μ else if a0 = 37 then zD165_9 μ else if a0 = 43 then zD165_17 μ else if a0 = 45 then zD165_17 μ else if a0 = 60 then zD165_25 μ else if a0 = 62 then zD165_25 μ else zD165_28 0 μ
theorem zD165_28_ok {μ0 : xe_Mem} {δ : xe_Dy} {d : Nat} (hd : 0 ≤ d)  : ∀ (s0 : Int32) (l0 : Option Value) (μ : xe_Mem), zT zPr μ0 μ → zK zPr μ0 δ d 165 28 [l0] [.int s0] μ (zD165_28  s0 μ) := by
  intro s0 l0 μ hT
  unfold zD165_28
  exact zK_ret1 rfl hT
theorem zD165_9_ok {μ0 : xe_Mem} {δ : xe_Dy} {d : Nat} (hd : 0 ≤ d)  : ∀ (l0 : Option Value) (μ : xe_Mem), zT zPr μ0 μ → zK zPr μ0 δ d 165 9 [l0] [] μ (zD165_9  μ) := by
  intro l0 μ hT
  unfold zD165_9
  refine zK_op rfl rfl ?_
  refine zK_op rfl rfl ?_
  exact zD165_28_ok hd 3 _ μ hT
theorem zD165_17_ok {μ0 : xe_Mem} {δ : xe_Dy} {d : Nat} (hd : 0 ≤ d)  : ∀ (l0 : Option Value) (μ : xe_Mem), zT zPr μ0 μ → zK zPr μ0 δ d 165 17 [l0] [] μ (zD165_17  μ) := by
  intro l0 μ hT
  unfold zD165_17
  refine zK_op rfl rfl ?_
  refine zK_op rfl rfl ?_
  exact zD165_28_ok hd 2 _ μ hT
theorem zD165_25_ok {μ0 : xe_Mem} {δ : xe_Dy} {d : Nat} (hd : 0 ≤ d)  : ∀ (l0 : Option Value) (μ : xe_Mem), zT zPr μ0 μ → zK zPr μ0 δ d 165 25 [l0] [] μ (zD165_25  μ) := by
  intro l0 μ hT
  unfold zD165_25
  refine zK_op rfl rfl ?_
  refine zK_op rfl rfl ?_
  exact zD165_28_ok hd 1 _ μ hT
theorem zD165_ok {μ0 : xe_Mem} {δ : xe_Dy} {d : Nat} (hd : 0 ≤ d) (a0 : Int32) (μ : xe_Mem) (hT : zT zPr μ0 μ) : zK zPr μ0 δ d 165 0 (xe_init [.int a0] (xM_L 165)) [] μ (zD165 a0 μ) := by
  unfold zD165
  show zK zPr μ0 δ d 165 0 [some (.int a0)] [] μ _
  refine zK_op rfl rfl ?_
  refine zK_op rfl rfl ?_
  refine zK_iceq rfl (fun _ => ?_) (fun _ => ?_)
  · exact zD165_9_ok hd _ μ hT
  refine zK_op rfl rfl ?_
  refine zK_op rfl rfl ?_
  refine zK_iceq rfl (fun _ => ?_) (fun _ => ?_)
  · exact zD165_9_ok hd _ μ hT
  refine zK_op rfl rfl ?_
  refine zK_op rfl rfl ?_
  refine zK_icne rfl (fun _ => ?_) (fun _ => ?_)
  · exact zD165_9_ok hd _ μ hT
  refine zK_op rfl rfl ?_
  refine zK_op rfl rfl ?_
  refine zK_iceq rfl (fun _ => ?_) (fun _ => ?_)
  · exact zD165_17_ok hd _ μ hT
  refine zK_op rfl rfl ?_
  refine zK_op rfl rfl ?_
  refine zK_icne rfl (fun _ => ?_) (fun _ => ?_)
  · exact zD165_17_ok hd _ μ hT
  refine zK_op rfl rfl ?_
  refine zK_op rfl rfl ?_
  refine zK_iceq rfl (fun _ => ?_) (fun _ => ?_)
  · exact zD165_25_ok hd _ μ hT
  refine zK_op rfl rfl ?_
  refine zK_op rfl rfl ?_
  refine zK_icne rfl (fun _ => ?_) (fun _ => ?_)
  · exact zD165_25_ok hd _ μ hT
  refine zK_op rfl rfl ?_
  exact zD165_28_ok hd 0 _ μ hT
/-! 164 LogicalTimesModel.settle(I)V -/
def zD164_28 (μ : xe_Mem) : zO := some (.inl none, μ)
def zD164_0_b (c0 : Int32 → xe_Mem → zO) (v1 : Int32) (μ : xe_Mem) : zO := if (xe_I μ 203 61) ≤ 0 then zD164_28 μ else zq_x ((xe_I μ 203 61) - 1) 70 fun j1 => zq_cI (zD165 (xe_I μ 248 j1) μ) fun x7 m5 => if x7 < v1 then zD164_28 m5 else zq_m (xe_setI m5 203 61 ((xe_I m5 203 61) - 1)) fun m8 => zq_x (xe_I m8 203 61) 70 fun j10 => zq_cV (zD157 6 (xe_I m8 248 j10) m8) fun m14 => c0 v1 m14
def zD164_0   : Nat → Int32 → xe_Mem → zO
  | 0 => fun _ _  => none
  | n + 1 => zD164_0_b   (zD164_0   n)
def zD164  (a1 : Int32) (μ : xe_Mem) : zO := zD164_0 zfu a1 μ
theorem zD164_28_ok {μ0 : xe_Mem} {δ : xe_Dy} {d : Nat} (hd : 1 ≤ d)  : ∀ (l0 : Option Value) (l1 : Option Value) (μ : xe_Mem), zT zPr μ0 μ → zK zPr μ0 δ d 164 28 [l0, l1] [] μ (zD164_28  μ) := by
  intro l0 l1 μ hT
  unfold zD164_28
  exact zK_ret0 rfl hT
theorem zD164_0_bok {μ0 : xe_Mem} {δ : xe_Dy} {d : Nat} (hd : 1 ≤ d)  {c0 : Int32 → xe_Mem → zO} (hc0 : ∀ (v1 : Int32) (μ : xe_Mem), zT zPr μ0 μ → zK zPr μ0 δ d 164 0 [some (.ref 203), some (.int v1)] [] μ (c0 v1 μ)) : ∀ (v1 : Int32) (μ : xe_Mem), zT zPr μ0 μ → zK zPr μ0 δ d 164 0 [some (.ref 203), some (.int v1)] [] μ (zD164_0_b  c0 v1 μ) := by
  intro v1 μ hT
  unfold zD164_0_b
  refine zK_op rfl rfl ?_
  refine zK_gI rfl rfl hT ?_
  refine zK_ifle rfl (fun _ => ?_) (fun _ => ?_)
  · exact zD164_28_ok hd _ _ μ hT
  refine zK_op rfl rfl ?_
  refine zK_gRl (b := 248) rfl rfl rfl hT ?_
  refine zK_op rfl rfl ?_
  refine zK_gI rfl rfl hT ?_
  refine zK_op rfl rfl ?_
  refine zK_op rfl rfl ?_
  refine zK_x (fun j1 h2 h3 h4 => ?_)
  refine zK_aI rfl rfl hT h2 h3 h4 ?_
  refine zK_cI rfl (as := [.int (xe_I μ 248 j1)]) (rest := []) rfl rfl rfl (Nat.le_of_ble_eq_true rfl) (Nat.le_of_ble_eq_true rfl) (by decide) (fun _ => rfl) (by omega) (zD165_ok (by omega) (xe_I μ 248 j1) μ hT) (fun x7 m5 T6 => ?_)
  refine zK_op rfl rfl ?_
  refine zK_iclt rfl (fun _ => ?_) (fun _ => ?_)
  · exact zD164_28_ok hd _ _ m5 T6
  refine zK_op rfl rfl ?_
  refine zK_op rfl rfl ?_
  refine zK_gI rfl rfl T6 ?_
  refine zK_op rfl rfl ?_
  refine zK_op rfl rfl ?_
  refine zK_pI rfl rfl T6 rfl (fun m8 T9 => ?_)
  refine zK_op rfl rfl ?_
  refine zK_op rfl rfl ?_
  refine zK_op rfl rfl ?_
  refine zK_gRl (b := 248) rfl rfl rfl T9 ?_
  refine zK_op rfl rfl ?_
  refine zK_gI rfl rfl T9 ?_
  refine zK_x (fun j10 h11 h12 h13 => ?_)
  refine zK_aI rfl rfl T9 h11 h12 h13 ?_
  refine zK_cV rfl (as := [.ref 203, .int 6, .int (xe_I m8 248 j10)]) (rest := []) rfl rfl (xe_rcvO (zT_sh T9 rfl)) (Nat.le_of_ble_eq_true rfl) (Nat.le_of_ble_eq_true rfl) (by decide) (fun _ => rfl) (by omega) (zD157_ok (by omega) 6 (xe_I m8 248 j10) m8 T9) (fun m14 T15 => ?_)
  refine zK_op rfl rfl ?_
  exact hc0 v1 m14 T15
theorem zD164_0_ok {μ0 : xe_Mem} {δ : xe_Dy} {d : Nat} (hd : 1 ≤ d)  : ∀ n : Nat, ∀ (v1 : Int32) (μ : xe_Mem), zT zPr μ0 μ → zK zPr μ0 δ d 164 0 [some (.ref 203), some (.int v1)] [] μ (zD164_0  n v1 μ) := by
  intro n
  induction n with
  | zero => exact fun _ _ _  => fun o μ' h => by cases h
  | succ n ih => exact zD164_0_bok hd   ih
theorem zD164_ok {μ0 : xe_Mem} {δ : xe_Dy} {d : Nat} (hd : 1 ≤ d) (a1 : Int32) (μ : xe_Mem) (hT : zT zPr μ0 μ) : zK zPr μ0 δ d 164 0 (xe_init [.ref 203, .int a1] (xM_L 164)) [] μ (zD164 a1 μ) := by
  unfold zD164
  show zK zPr μ0 δ d 164 0 [some (.ref 203), some (.int a1)] [] μ _
  exact zD164_0_ok hd zfu a1 μ hT
/-! 160 LogicalTimesModel.expression(I)Z -/
def zD160_116 (c19 : Int32 → Int32 → xe_Mem → zO) (v1 : Int32) (v2 : Int32) (v3 : Int32) (μ : xe_Mem) : zO := zq_x (xe_I μ 203 61) 70 fun j46 => zq_m (xe_setI μ 248 j46 v3) fun m50 => zq_m (xe_setI m50 203 61 ((xe_I m50 203 61) + 1)) fun m52 => zq_cI (zD162 m52) fun x56 m54 => if x56 = 0 then some (.inl (some (.int 0)), m54) else c19 v1 v2 m54
def zD160_98 (c19 : Int32 → Int32 → xe_Mem → zO) (v1 : Int32) (v3 : Int32) (s0 : Int32) (μ : xe_Mem) : zO := if s0 = 0 then c19 v1 s0 μ else zq_cI (zD165 v3 μ) fun x34 m32 => zq_cV (zD164 x34 m32) fun m35 => zq_cI (zD165 v3 m35) fun x39 m37 => if x39 = 1 then zq_x (xe_I m37 203 64) 12 fun j40 => zq_m (xe_setI m37 249 j40 ((vp_nar .boolean) 1)) fun m44 => zD160_116 c19 v1 s0 v3 m44 else zD160_116 c19 v1 s0 v3 m37
def zD160_95 (c19 : Int32 → Int32 → xe_Mem → zO) (v1 : Int32) (v3 : Int32) (μ : xe_Mem) : zO := zD160_98 c19 v1 v3 1 μ
def zD160_97 (c19 : Int32 → Int32 → xe_Mem → zO) (v1 : Int32) (v3 : Int32) (μ : xe_Mem) : zO := zD160_98 c19 v1 v3 0 μ
def zD160_80 (c19 : Int32 → Int32 → xe_Mem → zO) (v1 : Int32) (v2 : Int32) (s0 : Int32) (μ : xe_Mem) : zO := zq_cI (zD165 s0 μ) fun x31 m29 => if 1 < x31 then zD160_95 c19 v1 s0 m29 else zq_cI (zD165 s0 m29) fun x59 m57 => if x59 = 1 then zq_x (xe_I m57 203 64) 12 fun j60 => if (xe_I m57 249 j60) = 0 then zD160_95 c19 v1 s0 m57 else zD160_97 c19 v1 s0 m57 else zD160_97 c19 v1 s0 m57
def zD160_65 (c19 : Int32 → Int32 → xe_Mem → zO) (v1 : Int32) (v2 : Int32) (μ : xe_Mem) : zO := zq_x (xe_I μ 203 10) 3002 fun j21 => if (xe_I μ 207 j21) = 3 then zq_x (xe_I μ 203 10) 3002 fun j25 => zD160_80 c19 v1 v2 ((xe_L μ 209 j25).toInt32) μ else zD160_80 c19 v1 v2 0 μ
def zD160_29_b (c19 : Int32 → Int32 → xe_Mem → zO) (c29 : Int32 → Int32 → xe_Mem → zO) (v1 : Int32) (v2 : Int32) (μ : xe_Mem) : zO := if (xe_I μ 203 64) ≤ 0 then zD160_65 c19 v1 v2 μ else zq_cI (zD147 41 μ) fun x66 m64 => if x66 = 0 then zD160_65 c19 v1 v2 m64 else zq_cV (zD164 1 m64) fun m67 => zq_m (xe_setI m67 203 61 ((xe_I m67 203 61) - 1)) fun m69 => zq_m (xe_setI m69 203 64 ((xe_I m69 203 64) - 1)) fun m71 => zq_m (xe_setI m71 203 60 ((xe_I m71 203 60) - 1)) fun m73 => zq_cI (zD162 m73) fun x77 m75 => if x77 = 0 then some (.inl (some (.int 0)), m75) else zq_cV (zD163 m75) fun m78 => c29 v1 v2 m78
def zD160_29  (c19 : Int32 → Int32 → xe_Mem → zO) : Nat → Int32 → Int32 → xe_Mem → zO
  | 0 => fun _ _ _  => none
  | n + 1 => zD160_29_b  c19 (zD160_29  c19 n)
def zD160_19_b (c19 : Int32 → Int32 → xe_Mem → zO) (v1 : Int32) (v2 : Int32) (μ : xe_Mem) : zO := if v2 = 0 then if (xe_I μ 203 64) ≤ 0 then zq_cV (zD164 1 μ) fun m11 => some (.inl (some (.int 1)), m11) else zq_cI (zD150 μ) fun x15 m13 => zq_z x15 <| some (.inl (some (.int x15)), m13) else zq_cI (zD161 v1 μ) fun x18 m16 => if x18 = 0 then some (.inl (some (.int 0)), m16) else zq_cV (zD163 m16) fun m19 => zD160_29 c19 zfu v1 v2 m19
def zD160_19   : Nat → Int32 → Int32 → xe_Mem → zO
  | 0 => fun _ _ _  => none
  | n + 1 => zD160_19_b   (zD160_19   n)
def zD160  (a1 : Int32) (μ : xe_Mem) : zO := zq_m (xe_setI μ 203 59 0) fun m1 => zq_m (xe_setI m1 203 60 0) fun m3 => zq_m (xe_setI m3 203 61 0) fun m5 => zq_m (xe_setI m5 203 64 0) fun m7 => zq_m (xe_setI m7 249 0 ((vp_nar .boolean) 0)) fun m9 => zD160_19 zfu a1 1 m9
theorem zD160_116_ok {μ0 : xe_Mem} {δ : xe_Dy} {d : Nat} (hd : 3 ≤ d) {c19 : Int32 → Int32 → xe_Mem → zO} (hc19 : ∀ (v1 : Int32) (v2 : Int32) (l3 : Option Value) (μ : xe_Mem), zT zPr μ0 μ → zK zPr μ0 δ d 160 19 [some (.ref 203), some (.int v1), some (.int v2), l3] [] μ (c19 v1 v2 μ)) : ∀ (v1 : Int32) (v2 : Int32) (v3 : Int32) (μ : xe_Mem), zT zPr μ0 μ → zK zPr μ0 δ d 160 116 [some (.ref 203), some (.int v1), some (.int v2), some (.int v3)] [] μ (zD160_116  c19 v1 v2 v3 μ) := by
  intro v1 v2 v3 μ hT
  unfold zD160_116
  refine zK_op rfl rfl ?_
  refine zK_gRl (b := 248) rfl rfl rfl hT ?_
  refine zK_op rfl rfl ?_
  refine zK_gI rfl rfl hT ?_
  refine zK_op rfl rfl ?_
  refine zK_x (fun j46 h47 h48 h49 => ?_)
  refine zK_sI (a := 248) (g := (fun x => x)) rfl rfl hT h47 h48 h49 rfl (fun m50 T51 => ?_)
  refine zK_op rfl rfl ?_
  refine zK_op rfl rfl ?_
  refine zK_gI rfl rfl T51 ?_
  refine zK_op rfl rfl ?_
  refine zK_op rfl rfl ?_
  refine zK_pI rfl rfl T51 rfl (fun m52 T53 => ?_)
  refine zK_op rfl rfl ?_
  refine zK_cI rfl (as := [.ref 203]) (rest := []) rfl rfl (xe_rcvO (zT_sh T53 rfl)) (Nat.le_of_ble_eq_true rfl) (Nat.le_of_ble_eq_true rfl) (by decide) (fun _ => rfl) (by omega) (zD162_ok (by omega) m52 T53) (fun x56 m54 T55 => ?_)
  refine zK_ifne rfl (fun _ => ?_) (fun _ => ?_)
  · refine zK_op rfl rfl ?_
    exact zK_ret3 rfl (Or.inl rfl) T55
  refine zK_op rfl rfl ?_
  exact hc19 v1 v2 _ m54 T55
theorem zD160_98_ok {μ0 : xe_Mem} {δ : xe_Dy} {d : Nat} (hd : 3 ≤ d) {c19 : Int32 → Int32 → xe_Mem → zO} (hc19 : ∀ (v1 : Int32) (v2 : Int32) (l3 : Option Value) (μ : xe_Mem), zT zPr μ0 μ → zK zPr μ0 δ d 160 19 [some (.ref 203), some (.int v1), some (.int v2), l3] [] μ (c19 v1 v2 μ)) : ∀ (v1 : Int32) (v3 : Int32) (s0 : Int32) (l2 : Option Value) (μ : xe_Mem), zT zPr μ0 μ → zK zPr μ0 δ d 160 98 [some (.ref 203), some (.int v1), l2, some (.int v3)] [.int s0] μ (zD160_98  c19 v1 v3 s0 μ) := by
  intro v1 v3 s0 l2 μ hT
  unfold zD160_98
  refine zK_op rfl rfl ?_
  refine zK_op rfl rfl ?_
  refine zK_ifne rfl (fun _ => ?_) (fun _ => ?_)
  · refine zK_op rfl rfl ?_
    exact hc19 v1 s0 _ μ hT
  refine zK_op rfl rfl ?_
  refine zK_op rfl rfl ?_
  refine zK_cI rfl (as := [.int v3]) (rest := [.ref 203]) rfl rfl rfl (Nat.le_of_ble_eq_true rfl) (Nat.le_of_ble_eq_true rfl) (by decide) (fun _ => rfl) (by omega) (zD165_ok (by omega) v3 μ hT) (fun x34 m32 T33 => ?_)
  refine zK_cV rfl (as := [.ref 203, .int x34]) (rest := []) rfl rfl (xe_rcvO (zT_sh T33 rfl)) (Nat.le_of_ble_eq_true rfl) (Nat.le_of_ble_eq_true rfl) (by decide) (fun _ => rfl) (by omega) (zD164_ok (by omega) x34 m32 T33) (fun m35 T36 => ?_)
  refine zK_op rfl rfl ?_
  refine zK_cI rfl (as := [.int v3]) (rest := []) rfl rfl rfl (Nat.le_of_ble_eq_true rfl) (Nat.le_of_ble_eq_true rfl) (by decide) (fun _ => rfl) (by omega) (zD165_ok (by omega) v3 m35 T36) (fun x39 m37 T38 => ?_)
  refine zK_op rfl rfl ?_
  refine zK_icne rfl (fun _ => ?_) (fun _ => ?_)
  · refine zK_op rfl rfl ?_
    refine zK_gRl (b := 249) rfl rfl rfl T38 ?_
    refine zK_op rfl rfl ?_
    refine zK_gI rfl rfl T38 ?_
    refine zK_op rfl rfl ?_
    refine zK_x (fun j40 h41 h42 h43 => ?_)
    refine zK_sI (a := 249) (g := (vp_nar .boolean)) rfl rfl T38 h41 h42 h43 rfl (fun m44 T45 => ?_)
    exact zD160_116_ok hd hc19 v1 s0 v3 m44 T45
  exact zD160_116_ok hd hc19 v1 s0 v3 m37 T38
theorem zD160_95_ok {μ0 : xe_Mem} {δ : xe_Dy} {d : Nat} (hd : 3 ≤ d) {c19 : Int32 → Int32 → xe_Mem → zO} (hc19 : ∀ (v1 : Int32) (v2 : Int32) (l3 : Option Value) (μ : xe_Mem), zT zPr μ0 μ → zK zPr μ0 δ d 160 19 [some (.ref 203), some (.int v1), some (.int v2), l3] [] μ (c19 v1 v2 μ)) : ∀ (v1 : Int32) (v3 : Int32) (l2 : Option Value) (μ : xe_Mem), zT zPr μ0 μ → zK zPr μ0 δ d 160 95 [some (.ref 203), some (.int v1), l2, some (.int v3)] [] μ (zD160_95  c19 v1 v3 μ) := by
  intro v1 v3 l2 μ hT
  unfold zD160_95
  refine zK_op rfl rfl ?_
  refine zK_op rfl rfl ?_
  exact zD160_98_ok hd hc19 v1 v3 1 _ μ hT
theorem zD160_97_ok {μ0 : xe_Mem} {δ : xe_Dy} {d : Nat} (hd : 3 ≤ d) {c19 : Int32 → Int32 → xe_Mem → zO} (hc19 : ∀ (v1 : Int32) (v2 : Int32) (l3 : Option Value) (μ : xe_Mem), zT zPr μ0 μ → zK zPr μ0 δ d 160 19 [some (.ref 203), some (.int v1), some (.int v2), l3] [] μ (c19 v1 v2 μ)) : ∀ (v1 : Int32) (v3 : Int32) (l2 : Option Value) (μ : xe_Mem), zT zPr μ0 μ → zK zPr μ0 δ d 160 97 [some (.ref 203), some (.int v1), l2, some (.int v3)] [] μ (zD160_97  c19 v1 v3 μ) := by
  intro v1 v3 l2 μ hT
  unfold zD160_97
  refine zK_op rfl rfl ?_
  exact zD160_98_ok hd hc19 v1 v3 0 _ μ hT
theorem zD160_80_ok {μ0 : xe_Mem} {δ : xe_Dy} {d : Nat} (hd : 3 ≤ d) {c19 : Int32 → Int32 → xe_Mem → zO} (hc19 : ∀ (v1 : Int32) (v2 : Int32) (l3 : Option Value) (μ : xe_Mem), zT zPr μ0 μ → zK zPr μ0 δ d 160 19 [some (.ref 203), some (.int v1), some (.int v2), l3] [] μ (c19 v1 v2 μ)) : ∀ (v1 : Int32) (v2 : Int32) (s0 : Int32) (l3 : Option Value) (μ : xe_Mem), zT zPr μ0 μ → zK zPr μ0 δ d 160 80 [some (.ref 203), some (.int v1), some (.int v2), l3] [.int s0] μ (zD160_80  c19 v1 v2 s0 μ) := by
  intro v1 v2 s0 l3 μ hT
  unfold zD160_80
  refine zK_op rfl rfl ?_
  refine zK_op rfl rfl ?_
  refine zK_cI rfl (as := [.int s0]) (rest := []) rfl rfl rfl (Nat.le_of_ble_eq_true rfl) (Nat.le_of_ble_eq_true rfl) (by decide) (fun _ => rfl) (by omega) (zD165_ok (by omega) s0 μ hT) (fun x31 m29 T30 => ?_)
  refine zK_op rfl rfl ?_
  refine zK_icgt rfl (fun _ => ?_) (fun _ => ?_)
  · exact zD160_95_ok hd hc19 v1 s0 _ m29 T30
  refine zK_op rfl rfl ?_
  refine zK_cI rfl (as := [.int s0]) (rest := []) rfl rfl rfl (Nat.le_of_ble_eq_true rfl) (Nat.le_of_ble_eq_true rfl) (by decide) (fun _ => rfl) (by omega) (zD165_ok (by omega) s0 m29 T30) (fun x59 m57 T58 => ?_)
  refine zK_op rfl rfl ?_
  refine zK_icne rfl (fun _ => ?_) (fun _ => ?_)
  · refine zK_op rfl rfl ?_
    refine zK_gRl (b := 249) rfl rfl rfl T58 ?_
    refine zK_op rfl rfl ?_
    refine zK_gI rfl rfl T58 ?_
    refine zK_x (fun j60 h61 h62 h63 => ?_)
    refine zK_aI rfl rfl T58 h61 h62 h63 ?_
    refine zK_ifne rfl (fun _ => ?_) (fun _ => ?_)
    · exact zD160_95_ok hd hc19 v1 s0 _ m57 T58
    exact zD160_97_ok hd hc19 v1 s0 _ m57 T58
  exact zD160_97_ok hd hc19 v1 s0 _ m57 T58
theorem zD160_65_ok {μ0 : xe_Mem} {δ : xe_Dy} {d : Nat} (hd : 3 ≤ d) {c19 : Int32 → Int32 → xe_Mem → zO} (hc19 : ∀ (v1 : Int32) (v2 : Int32) (l3 : Option Value) (μ : xe_Mem), zT zPr μ0 μ → zK zPr μ0 δ d 160 19 [some (.ref 203), some (.int v1), some (.int v2), l3] [] μ (c19 v1 v2 μ)) : ∀ (v1 : Int32) (v2 : Int32) (l3 : Option Value) (μ : xe_Mem), zT zPr μ0 μ → zK zPr μ0 δ d 160 65 [some (.ref 203), some (.int v1), some (.int v2), l3] [] μ (zD160_65  c19 v1 v2 μ) := by
  intro v1 v2 l3 μ hT
  unfold zD160_65
  refine zK_op rfl rfl ?_
  refine zK_gRl (b := 207) rfl rfl rfl hT ?_
  refine zK_op rfl rfl ?_
  refine zK_gI rfl rfl hT ?_
  refine zK_x (fun j21 h22 h23 h24 => ?_)
  refine zK_aI rfl rfl hT h22 h23 h24 ?_
  refine zK_op rfl rfl ?_
  refine zK_icne rfl (fun _ => ?_) (fun _ => ?_)
  · refine zK_op rfl rfl ?_
    refine zK_gRl (b := 209) rfl rfl rfl hT ?_
    refine zK_op rfl rfl ?_
    refine zK_gI rfl rfl hT ?_
    refine zK_x (fun j25 h26 h27 h28 => ?_)
    refine zK_aL rfl rfl hT h26 h27 h28 ?_
    refine zK_op rfl rfl ?_
    refine zK_op rfl rfl ?_
    exact zD160_80_ok hd hc19 v1 v2 ((xe_L μ 209 j25).toInt32) _ μ hT
  refine zK_op rfl rfl ?_
  exact zD160_80_ok hd hc19 v1 v2 0 _ μ hT
theorem zD160_29_bok {μ0 : xe_Mem} {δ : xe_Dy} {d : Nat} (hd : 3 ≤ d) {c19 : Int32 → Int32 → xe_Mem → zO} (hc19 : ∀ (v1 : Int32) (v2 : Int32) (l3 : Option Value) (μ : xe_Mem), zT zPr μ0 μ → zK zPr μ0 δ d 160 19 [some (.ref 203), some (.int v1), some (.int v2), l3] [] μ (c19 v1 v2 μ)) {c29 : Int32 → Int32 → xe_Mem → zO} (hc29 : ∀ (v1 : Int32) (v2 : Int32) (l3 : Option Value) (μ : xe_Mem), zT zPr μ0 μ → zK zPr μ0 δ d 160 29 [some (.ref 203), some (.int v1), some (.int v2), l3] [] μ (c29 v1 v2 μ)) : ∀ (v1 : Int32) (v2 : Int32) (l3 : Option Value) (μ : xe_Mem), zT zPr μ0 μ → zK zPr μ0 δ d 160 29 [some (.ref 203), some (.int v1), some (.int v2), l3] [] μ (zD160_29_b  c19 c29 v1 v2 μ) := by
  intro v1 v2 l3 μ hT
  unfold zD160_29_b
  refine zK_op rfl rfl ?_
  refine zK_gI rfl rfl hT ?_
  refine zK_ifle rfl (fun _ => ?_) (fun _ => ?_)
  · exact zD160_65_ok hd hc19 v1 v2 _ μ hT
  refine zK_op rfl rfl ?_
  refine zK_op rfl rfl ?_
  refine zK_cI rfl (as := [.ref 203, .int 41]) (rest := []) rfl rfl (xe_rcvO (zT_sh hT rfl)) (Nat.le_of_ble_eq_true rfl) (Nat.le_of_ble_eq_true rfl) (by decide) (fun _ => rfl) (by omega) (zD147_ok (by omega) 41 μ hT) (fun x66 m64 T65 => ?_)
  refine zK_ifeq rfl (fun _ => ?_) (fun _ => ?_)
  · exact zD160_65_ok hd hc19 v1 v2 _ m64 T65
  refine zK_op rfl rfl ?_
  refine zK_op rfl rfl ?_
  refine zK_cV rfl (as := [.ref 203, .int 1]) (rest := []) rfl rfl (xe_rcvO (zT_sh T65 rfl)) (Nat.le_of_ble_eq_true rfl) (Nat.le_of_ble_eq_true rfl) (by decide) (fun _ => rfl) (by omega) (zD164_ok (by omega) 1 m64 T65) (fun m67 T68 => ?_)
  refine zK_op rfl rfl ?_
  refine zK_op rfl rfl ?_
  refine zK_gI rfl rfl T68 ?_
  refine zK_op rfl rfl ?_
  refine zK_op rfl rfl ?_
  refine zK_pI rfl rfl T68 rfl (fun m69 T70 => ?_)
  refine zK_op rfl rfl ?_
  refine zK_op rfl rfl ?_
  refine zK_gI rfl rfl T70 ?_
  refine zK_op rfl rfl ?_
  refine zK_op rfl rfl ?_
  refine zK_pI rfl rfl T70 rfl (fun m71 T72 => ?_)
  refine zK_op rfl rfl ?_
  refine zK_op rfl rfl ?_
  refine zK_gI rfl rfl T72 ?_
  refine zK_op rfl rfl ?_
  refine zK_op rfl rfl ?_
  refine zK_pI rfl rfl T72 rfl (fun m73 T74 => ?_)
  refine zK_op rfl rfl ?_
  refine zK_cI rfl (as := [.ref 203]) (rest := []) rfl rfl (xe_rcvO (zT_sh T74 rfl)) (Nat.le_of_ble_eq_true rfl) (Nat.le_of_ble_eq_true rfl) (by decide) (fun _ => rfl) (by omega) (zD162_ok (by omega) m73 T74) (fun x77 m75 T76 => ?_)
  refine zK_ifne rfl (fun _ => ?_) (fun _ => ?_)
  · refine zK_op rfl rfl ?_
    exact zK_ret3 rfl (Or.inl rfl) T76
  refine zK_op rfl rfl ?_
  refine zK_cV rfl (as := [.ref 203]) (rest := []) rfl rfl (xe_rcvO (zT_sh T76 rfl)) (Nat.le_of_ble_eq_true rfl) (Nat.le_of_ble_eq_true rfl) (by decide) (fun _ => rfl) (by omega) (zD163_ok (by omega) m75 T76) (fun m78 T79 => ?_)
  refine zK_op rfl rfl ?_
  exact hc29 v1 v2 _ m78 T79
theorem zD160_29_ok {μ0 : xe_Mem} {δ : xe_Dy} {d : Nat} (hd : 3 ≤ d) {c19 : Int32 → Int32 → xe_Mem → zO} (hc19 : ∀ (v1 : Int32) (v2 : Int32) (l3 : Option Value) (μ : xe_Mem), zT zPr μ0 μ → zK zPr μ0 δ d 160 19 [some (.ref 203), some (.int v1), some (.int v2), l3] [] μ (c19 v1 v2 μ)) : ∀ n : Nat, ∀ (v1 : Int32) (v2 : Int32) (l3 : Option Value) (μ : xe_Mem), zT zPr μ0 μ → zK zPr μ0 δ d 160 29 [some (.ref 203), some (.int v1), some (.int v2), l3] [] μ (zD160_29  c19 n v1 v2 μ) := by
  intro n
  induction n with
  | zero => exact fun _ _ _ _ _  => fun o μ' h => by cases h
  | succ n ih => exact zD160_29_bok hd  hc19 ih
theorem zD160_19_bok {μ0 : xe_Mem} {δ : xe_Dy} {d : Nat} (hd : 3 ≤ d)  {c19 : Int32 → Int32 → xe_Mem → zO} (hc19 : ∀ (v1 : Int32) (v2 : Int32) (l3 : Option Value) (μ : xe_Mem), zT zPr μ0 μ → zK zPr μ0 δ d 160 19 [some (.ref 203), some (.int v1), some (.int v2), l3] [] μ (c19 v1 v2 μ)) : ∀ (v1 : Int32) (v2 : Int32) (l3 : Option Value) (μ : xe_Mem), zT zPr μ0 μ → zK zPr μ0 δ d 160 19 [some (.ref 203), some (.int v1), some (.int v2), l3] [] μ (zD160_19_b  c19 v1 v2 μ) := by
  intro v1 v2 l3 μ hT
  unfold zD160_19_b
  refine zK_op rfl rfl ?_
  refine zK_ifeq rfl (fun _ => ?_) (fun _ => ?_)
  · refine zK_op rfl rfl ?_
    refine zK_gI rfl rfl hT ?_
    refine zK_ifle rfl (fun _ => ?_) (fun _ => ?_)
    · refine zK_op rfl rfl ?_
      refine zK_op rfl rfl ?_
      refine zK_cV rfl (as := [.ref 203, .int 1]) (rest := []) rfl rfl (xe_rcvO (zT_sh hT rfl)) (Nat.le_of_ble_eq_true rfl) (Nat.le_of_ble_eq_true rfl) (by decide) (fun _ => rfl) (by omega) (zD164_ok (by omega) 1 μ hT) (fun m11 T12 => ?_)
      refine zK_op rfl rfl ?_
      exact zK_ret3 rfl (Or.inr rfl) T12
    refine zK_op rfl rfl ?_
    refine zK_cI rfl (as := [.ref 203]) (rest := []) rfl rfl (xe_rcvO (zT_sh hT rfl)) (Nat.le_of_ble_eq_true rfl) (Nat.le_of_ble_eq_true rfl) (by decide) (fun _ => rfl) (by omega) (zD150_ok (by omega) μ hT) (fun x15 m13 T14 => ?_)
    exact zK_ret3z rfl T14
  refine zK_op rfl rfl ?_
  refine zK_op rfl rfl ?_
  refine zK_cI rfl (as := [.ref 203, .int v1]) (rest := []) rfl rfl (xe_rcvO (zT_sh hT rfl)) (Nat.le_of_ble_eq_true rfl) (Nat.le_of_ble_eq_true rfl) (by decide) (fun _ => rfl) (by omega) (zD161_ok (by omega) v1 μ hT) (fun x18 m16 T17 => ?_)
  refine zK_ifne rfl (fun _ => ?_) (fun _ => ?_)
  · refine zK_op rfl rfl ?_
    exact zK_ret3 rfl (Or.inl rfl) T17
  refine zK_op rfl rfl ?_
  refine zK_cV rfl (as := [.ref 203]) (rest := []) rfl rfl (xe_rcvO (zT_sh T17 rfl)) (Nat.le_of_ble_eq_true rfl) (Nat.le_of_ble_eq_true rfl) (by decide) (fun _ => rfl) (by omega) (zD163_ok (by omega) m16 T17) (fun m19 T20 => ?_)
  exact zD160_29_ok hd hc19 zfu v1 v2 _ m19 T20
theorem zD160_19_ok {μ0 : xe_Mem} {δ : xe_Dy} {d : Nat} (hd : 3 ≤ d)  : ∀ n : Nat, ∀ (v1 : Int32) (v2 : Int32) (l3 : Option Value) (μ : xe_Mem), zT zPr μ0 μ → zK zPr μ0 δ d 160 19 [some (.ref 203), some (.int v1), some (.int v2), l3] [] μ (zD160_19  n v1 v2 μ) := by
  intro n
  induction n with
  | zero => exact fun _ _ _ _ _  => fun o μ' h => by cases h
  | succ n ih => exact zD160_19_bok hd   ih
theorem zD160_ok {μ0 : xe_Mem} {δ : xe_Dy} {d : Nat} (hd : 3 ≤ d) (a1 : Int32) (μ : xe_Mem) (hT : zT zPr μ0 μ) : zK zPr μ0 δ d 160 0 (xe_init [.ref 203, .int a1] (xM_L 160)) [] μ (zD160 a1 μ) := by
  unfold zD160
  show zK zPr μ0 δ d 160 0 [some (.ref 203), some (.int a1), none, none] [] μ _
  refine zK_op rfl rfl ?_
  refine zK_op rfl rfl ?_
  refine zK_pI rfl rfl hT rfl (fun m1 T2 => ?_)
  refine zK_op rfl rfl ?_
  refine zK_op rfl rfl ?_
  refine zK_pI rfl rfl T2 rfl (fun m3 T4 => ?_)
  refine zK_op rfl rfl ?_
  refine zK_op rfl rfl ?_
  refine zK_pI rfl rfl T4 rfl (fun m5 T6 => ?_)
  refine zK_op rfl rfl ?_
  refine zK_op rfl rfl ?_
  refine zK_pI rfl rfl T6 rfl (fun m7 T8 => ?_)
  refine zK_op rfl rfl ?_
  refine zK_gRl (b := 249) rfl rfl rfl T8 ?_
  refine zK_op rfl rfl ?_
  refine zK_op rfl rfl ?_
  refine zK_sI (a := 249) (g := (vp_nar .boolean)) rfl rfl T8 rfl (by decide) (by decide) rfl (fun m9 T10 => ?_)
  refine zK_op rfl rfl ?_
  refine zK_op rfl rfl ?_
  exact zD160_19_ok hd zfu a1 1 _ m9 T10
/-! 166 LogicalTimesModel.assignment(II)Z -/
def zD166_127 (μ : xe_Mem) : zO := some (.inl (some (.int 0)), μ)
def zD166_174 (μ : xe_Mem) : zO := some (.inl (some (.int 1)), μ)
def zD166_115 (v1 : Int32) (v5 : Int32) (v7 : Int32) (μ : xe_Mem) : zO := zq_cI (zD146 61 μ) fun x17 m15 => if x17 = 0 then zD166_127 m15 else zq_cI (zD160 v1 m15) fun x20 m18 => if x20 = 0 then zD166_127 m18 else zq_cI (zD146 59 m18) fun x23 m21 => if x23 = 0 then zD166_127 m21 else zq_x ((xe_I m21 203 53) - 1) 8 fun j24 => zq_x ((xe_I m21 203 53) - 1) 8 fun j28 => zq_m (xe_setI m21 245 j28 ((xe_I m21 245 j24) + 1)) fun m32 => if v5 < 0 then zq_x v7 6 fun j34 => zq_m (xe_setI m32 242 j34 ((vp_nar .boolean) 1)) fun m38 => zq_cV (zD157 8 v7 m38) fun m40 => zD166_174 m40 else zq_x ((12 * v1) + v5) 288 fun j42 => zq_m (xe_setI m32 226 j42 ((vp_nar .boolean) 1)) fun m46 => zq_x ((12 * v1) + v5) 288 fun j48 => zq_m (xe_setI m46 227 j48 ((vp_nar .boolean) 1)) fun m52 => zq_cV (zD157 7 v5 m52) fun m54 => zD166_174 m54
def zD166_87 (v1 : Int32) (v3 : Int64) (v5 : Int32) (v6 : Int32) (v7 : Int32) (μ : xe_Mem) : zO := zq_cI (zD143 v6 μ) fun x14 m12 => if x14 = 0 then some (.inl (some (.int 0)), m12) else if 0 ≤ v5 then zD166_115 v1 v5 v7 m12 else if 0 ≤ v7 then zD166_115 v1 v5 v7 m12 else zq_x v1 24 fun j56 => zq_vI (xe_I m12 223 j56) fun x60 => zq_x x60 6 fun j61 => zq_m (xe_setL m12 241 j61 v3) fun m65 => zq_x v1 24 fun j67 => zq_x v1 24 fun j71 => zq_m (xe_setI m65 223 j71 ((xe_I m65 223 j67) + 1)) fun m75 => zD166_115 v1 v5 x60 m75
def zD166_73 (c57 : Int32 → Int64 → Int32 → Int32 → Int32 → Int32 → xe_Mem → zO) (v1 : Int32) (v3 : Int64) (v5 : Int32) (v6 : Int32) (v8 : Int32) (s0 : Int32) (μ : xe_Mem) : zO := c57 v1 v3 v5 v6 s0 (v8 + (1)) μ
def zD166_57_b (c57 : Int32 → Int64 → Int32 → Int32 → Int32 → Int32 → xe_Mem → zO) (v1 : Int32) (v3 : Int64) (v5 : Int32) (v6 : Int32) (v7 : Int32) (v8 : Int32) (μ : xe_Mem) : zO := zq_x v1 24 fun j77 => if (xe_I μ 223 j77) ≤ v8 then if 0 ≤ v7 then zD166_87 v1 v3 v5 v6 v7 μ else zq_x v1 24 fun j81 => if (xe_I μ 223 j81) = 6 then zq_cI (zD150 μ) fun x87 m85 => zq_z x87 <| some (.inl (some (.int x87)), m85) else zD166_87 v1 v3 v5 v6 v7 μ else zq_x v8 6 fun j88 => if (lg_cmp (xe_L μ 241 j88) v3) = 0 then zD166_73 c57 v1 v3 v5 v6 v8 v8 μ else zD166_73 c57 v1 v3 v5 v6 v8 v7 μ
def zD166_57   : Nat → Int32 → Int64 → Int32 → Int32 → Int32 → Int32 → xe_Mem → zO
  | 0 => fun _ _ _ _ _ _ _  => none
  | n + 1 => zD166_57_b   (zD166_57   n)
def zD166_46 (c20 : Int32 → Int32 → Int64 → Int32 → Int32 → Int32 → xe_Mem → zO) (v1 : Int32) (v2 : Int32) (v3 : Int64) (v5 : Int32) (v7 : Int32) (s0 : Int32) (μ : xe_Mem) : zO := c20 v1 v2 v3 v5 s0 (v7 + (1)) μ
def zD166_45 (c20 : Int32 → Int32 → Int64 → Int32 → Int32 → Int32 → xe_Mem → zO) (v1 : Int32) (v2 : Int32) (v3 : Int64) (v5 : Int32) (v7 : Int32) (μ : xe_Mem) : zO := zD166_46 c20 v1 v2 v3 v5 v7 0 μ
def zD166_43 (c20 : Int32 → Int32 → Int64 → Int32 → Int32 → Int32 → xe_Mem → zO) (v1 : Int32) (v2 : Int32) (v3 : Int64) (v5 : Int32) (v7 : Int32) (μ : xe_Mem) : zO := zD166_46 c20 v1 v2 v3 v5 v7 1 μ
def zD166_20_b (c20 : Int32 → Int32 → Int64 → Int32 → Int32 → Int32 → xe_Mem → zO) (v1 : Int32) (v2 : Int32) (v3 : Int64) (v5 : Int32) (v6 : Int32) (v7 : Int32) (μ : xe_Mem) : zO := if (xe_I μ 203 22) ≤ v7 then if 0 ≤ v5 then zD166_87 v1 v3 v5 v6 ((-1)) μ else if v6 = 0 then zD166_87 v1 v3 v5 v6 ((-1)) μ else zD166_57 zfu v1 v3 v5 v6 ((-1)) 0 μ else if v6 = 0 then zD166_45 c20 v1 v2 v3 v5 v7 μ else if v5 < 0 then zD166_43 c20 v1 v2 v3 v5 v7 μ else zq_x v7 24 fun j92 => if (xe_I μ 218 j92) = v2 then zq_x ((12 * v7) + v5) 288 fun j96 => if (xe_I μ 227 j96) = 0 then zD166_43 c20 v1 v2 v3 v5 v7 μ else zD166_45 c20 v1 v2 v3 v5 v7 μ else zD166_43 c20 v1 v2 v3 v5 v7 μ
def zD166_20   : Nat → Int32 → Int32 → Int64 → Int32 → Int32 → Int32 → xe_Mem → zO
  | 0 => fun _ _ _ _ _ _ _  => none
  | n + 1 => zD166_20_b   (zD166_20   n)
def zD166_17 (v1 : Int32) (v2 : Int32) (v3 : Int64) (v5 : Int32) (s0 : Int32) (μ : xe_Mem) : zO := zD166_20 zfu v1 v2 v3 v5 s0 0 μ
def zD166  (a1 : Int32) (a2 : Int32) (μ : xe_Mem) : zO := zq_x (xe_I μ 203 10) 3002 fun j1 => zq_vL (xe_L μ 209 j1) fun x5 => zq_cI (zD144 x5 μ) fun x8 m6 => zq_cI (zD145 x5 m6) fun x11 m9 => if 0 ≤ x11 then zD166_17 a1 a2 x5 x8 0 m9 else zD166_17 a1 a2 x5 x8 1 m9
theorem zD166_127_ok {μ0 : xe_Mem} {δ : xe_Dy} {d : Nat} (hd : 4 ≤ d)  : ∀ (l0 : Option Value) (l1 : Option Value) (l2 : Option Value) (l3 : Option Value) (l5 : Option Value) (l6 : Option Value) (l7 : Option Value) (l8 : Option Value) (μ : xe_Mem), zT zPr μ0 μ → zK zPr μ0 δ d 166 127 [l0, l1, l2, l3, none, l5, l6, l7, l8] [] μ (zD166_127  μ) := by
  intro l0 l1 l2 l3 l5 l6 l7 l8 μ hT
  unfold zD166_127
  refine zK_op rfl rfl ?_
  exact zK_ret3 rfl (Or.inl rfl) hT
theorem zD166_174_ok {μ0 : xe_Mem} {δ : xe_Dy} {d : Nat} (hd : 4 ≤ d)  : ∀ (l0 : Option Value) (l1 : Option Value) (l2 : Option Value) (l3 : Option Value) (l5 : Option Value) (l6 : Option Value) (l7 : Option Value) (l8 : Option Value) (μ : xe_Mem), zT zPr μ0 μ → zK zPr μ0 δ d 166 174 [l0, l1, l2, l3, none, l5, l6, l7, l8] [] μ (zD166_174  μ) := by
  intro l0 l1 l2 l3 l5 l6 l7 l8 μ hT
  unfold zD166_174
  refine zK_op rfl rfl ?_
  exact zK_ret3 rfl (Or.inr rfl) hT
theorem zD166_115_ok {μ0 : xe_Mem} {δ : xe_Dy} {d : Nat} (hd : 4 ≤ d)  : ∀ (v1 : Int32) (v5 : Int32) (v7 : Int32) (l2 : Option Value) (l3 : Option Value) (l6 : Option Value) (l8 : Option Value) (μ : xe_Mem), zT zPr μ0 μ → zK zPr μ0 δ d 166 115 [some (.ref 203), some (.int v1), l2, l3, none, some (.int v5), l6, some (.int v7), l8] [] μ (zD166_115  v1 v5 v7 μ) := by
  intro v1 v5 v7 l2 l3 l6 l8 μ hT
  unfold zD166_115
  refine zK_op rfl rfl ?_
  refine zK_op rfl rfl ?_
  refine zK_cI rfl (as := [.ref 203, .int 61]) (rest := []) rfl rfl (xe_rcvO (zT_sh hT rfl)) (Nat.le_of_ble_eq_true rfl) (Nat.le_of_ble_eq_true rfl) (by decide) (fun _ => rfl) (by omega) (zD146_ok (by omega) 61 μ hT) (fun x17 m15 T16 => ?_)
  refine zK_ifeq rfl (fun _ => ?_) (fun _ => ?_)
  · exact zD166_127_ok hd _ _ _ _ _ _ _ _ m15 T16
  refine zK_op rfl rfl ?_
  refine zK_op rfl rfl ?_
  refine zK_cI rfl (as := [.ref 203, .int v1]) (rest := []) rfl rfl (xe_rcvO (zT_sh T16 rfl)) (Nat.le_of_ble_eq_true rfl) (Nat.le_of_ble_eq_true rfl) (by decide) (fun _ => rfl) (by omega) (zD160_ok (by omega) v1 m15 T16) (fun x20 m18 T19 => ?_)
  refine zK_ifeq rfl (fun _ => ?_) (fun _ => ?_)
  · exact zD166_127_ok hd _ _ _ _ _ _ _ _ m18 T19
  refine zK_op rfl rfl ?_
  refine zK_op rfl rfl ?_
  refine zK_cI rfl (as := [.ref 203, .int 59]) (rest := []) rfl rfl (xe_rcvO (zT_sh T19 rfl)) (Nat.le_of_ble_eq_true rfl) (Nat.le_of_ble_eq_true rfl) (by decide) (fun _ => rfl) (by omega) (zD146_ok (by omega) 59 m18 T19) (fun x23 m21 T22 => ?_)
  refine zK_ifne rfl (fun _ => ?_) (fun _ => ?_)
  · exact zD166_127_ok hd _ _ _ _ _ _ _ _ m21 T22
  refine zK_op rfl rfl ?_
  refine zK_gRl (b := 245) rfl rfl rfl T22 ?_
  refine zK_op rfl rfl ?_
  refine zK_gI rfl rfl T22 ?_
  refine zK_op rfl rfl ?_
  refine zK_op rfl rfl ?_
  refine zK_op rfl rfl ?_
  refine zK_x (fun j24 h25 h26 h27 => ?_)
  refine zK_aI rfl rfl T22 h25 h26 h27 ?_
  refine zK_op rfl rfl ?_
  refine zK_op rfl rfl ?_
  refine zK_x (fun j28 h29 h30 h31 => ?_)
  refine zK_sI (a := 245) (g := (fun x => x)) rfl rfl T22 h29 h30 h31 rfl (fun m32 T33 => ?_)
  refine zK_op rfl rfl ?_
  refine zK_iflt rfl (fun _ => ?_) (fun _ => ?_)
  · refine zK_op rfl rfl ?_
    refine zK_gRl (b := 242) rfl rfl rfl T33 ?_
    refine zK_op rfl rfl ?_
    refine zK_op rfl rfl ?_
    refine zK_x (fun j34 h35 h36 h37 => ?_)
    refine zK_sI (a := 242) (g := (vp_nar .boolean)) rfl rfl T33 h35 h36 h37 rfl (fun m38 T39 => ?_)
    refine zK_op rfl rfl ?_
    refine zK_op rfl rfl ?_
    refine zK_op rfl rfl ?_
    refine zK_cV rfl (as := [.ref 203, .int 8, .int v7]) (rest := []) rfl rfl (xe_rcvO (zT_sh T39 rfl)) (Nat.le_of_ble_eq_true rfl) (Nat.le_of_ble_eq_true rfl) (by decide) (fun _ => rfl) (by omega) (zD157_ok (by omega) 8 v7 m38 T39) (fun m40 T41 => ?_)
    exact zD166_174_ok hd _ _ _ _ _ _ _ _ m40 T41
  refine zK_op rfl rfl ?_
  refine zK_gRl (b := 226) rfl rfl rfl T33 ?_
  refine zK_op rfl rfl ?_
  refine zK_op rfl rfl ?_
  refine zK_op rfl rfl ?_
  refine zK_op rfl rfl ?_
  refine zK_op rfl rfl ?_
  refine zK_op rfl rfl ?_
  refine zK_x (fun j42 h43 h44 h45 => ?_)
  refine zK_sI (a := 226) (g := (vp_nar .boolean)) rfl rfl T33 h43 h44 h45 rfl (fun m46 T47 => ?_)
  refine zK_op rfl rfl ?_
  refine zK_gRl (b := 227) rfl rfl rfl T47 ?_
  refine zK_op rfl rfl ?_
  refine zK_op rfl rfl ?_
  refine zK_op rfl rfl ?_
  refine zK_op rfl rfl ?_
  refine zK_op rfl rfl ?_
  refine zK_op rfl rfl ?_
  refine zK_x (fun j48 h49 h50 h51 => ?_)
  refine zK_sI (a := 227) (g := (vp_nar .boolean)) rfl rfl T47 h49 h50 h51 rfl (fun m52 T53 => ?_)
  refine zK_op rfl rfl ?_
  refine zK_op rfl rfl ?_
  refine zK_op rfl rfl ?_
  refine zK_cV rfl (as := [.ref 203, .int 7, .int v5]) (rest := []) rfl rfl (xe_rcvO (zT_sh T53 rfl)) (Nat.le_of_ble_eq_true rfl) (Nat.le_of_ble_eq_true rfl) (by decide) (fun _ => rfl) (by omega) (zD157_ok (by omega) 7 v5 m52 T53) (fun m54 T55 => ?_)
  refine zK_op rfl rfl ?_
  exact zD166_174_ok hd _ _ _ _ _ _ _ _ m54 T55
theorem zD166_87_ok {μ0 : xe_Mem} {δ : xe_Dy} {d : Nat} (hd : 4 ≤ d)  : ∀ (v1 : Int32) (v3 : Int64) (v5 : Int32) (v6 : Int32) (v7 : Int32) (l2 : Option Value) (l8 : Option Value) (μ : xe_Mem), zT zPr μ0 μ → zK zPr μ0 δ d 166 87 [some (.ref 203), some (.int v1), l2, some (.long v3), none, some (.int v5), some (.int v6), some (.int v7), l8] [] μ (zD166_87  v1 v3 v5 v6 v7 μ) := by
  intro v1 v3 v5 v6 v7 l2 l8 μ hT
  unfold zD166_87
  refine zK_op rfl rfl ?_
  refine zK_op rfl rfl ?_
  refine zK_cI rfl (as := [.ref 203, .int v6]) (rest := []) rfl rfl (xe_rcvO (zT_sh hT rfl)) (Nat.le_of_ble_eq_true rfl) (Nat.le_of_ble_eq_true rfl) (by decide) (fun _ => rfl) (by omega) (zD143_ok (by omega) v6 μ hT) (fun x14 m12 T13 => ?_)
  refine zK_ifne rfl (fun _ => ?_) (fun _ => ?_)
  · refine zK_op rfl rfl ?_
    exact zK_ret3 rfl (Or.inl rfl) T13
  refine zK_op rfl rfl ?_
  refine zK_ifge rfl (fun _ => ?_) (fun _ => ?_)
  · exact zD166_115_ok hd v1 v5 v7 _ _ _ _ m12 T13
  refine zK_op rfl rfl ?_
  refine zK_ifge rfl (fun _ => ?_) (fun _ => ?_)
  · exact zD166_115_ok hd v1 v5 v7 _ _ _ _ m12 T13
  refine zK_op rfl rfl ?_
  refine zK_gRl (b := 223) rfl rfl rfl T13 ?_
  refine zK_op rfl rfl ?_
  refine zK_x (fun j56 h57 h58 h59 => ?_)
  refine zK_aI rfl rfl T13 h57 h58 h59 ?_
  refine zK_vI (fun x60 => ?_)
  refine zK_op rfl rfl ?_
  refine zK_op rfl rfl ?_
  refine zK_gRl (b := 241) rfl rfl rfl T13 ?_
  refine zK_op rfl rfl ?_
  refine zK_op rfl rfl ?_
  refine zK_x (fun j61 h62 h63 h64 => ?_)
  refine zK_sL rfl rfl T13 h62 h63 h64 rfl (fun m65 T66 => ?_)
  refine zK_op rfl rfl ?_
  refine zK_gRl (b := 223) rfl rfl rfl T66 ?_
  refine zK_op rfl rfl ?_
  refine zK_op rfl rfl ?_
  refine zK_x (fun j67 h68 h69 h70 => ?_)
  refine zK_aI rfl rfl T66 h68 h69 h70 ?_
  refine zK_op rfl rfl ?_
  refine zK_op rfl rfl ?_
  refine zK_x (fun j71 h72 h73 h74 => ?_)
  refine zK_sI (a := 223) (g := (fun x => x)) rfl rfl T66 h72 h73 h74 rfl (fun m75 T76 => ?_)
  exact zD166_115_ok hd v1 v5 x60 _ _ _ _ m75 T76
theorem zD166_73_ok {μ0 : xe_Mem} {δ : xe_Dy} {d : Nat} (hd : 4 ≤ d) {c57 : Int32 → Int64 → Int32 → Int32 → Int32 → Int32 → xe_Mem → zO} (hc57 : ∀ (v1 : Int32) (v3 : Int64) (v5 : Int32) (v6 : Int32) (v7 : Int32) (v8 : Int32) (l2 : Option Value) (μ : xe_Mem), zT zPr μ0 μ → zK zPr μ0 δ d 166 57 [some (.ref 203), some (.int v1), l2, some (.long v3), none, some (.int v5), some (.int v6), some (.int v7), some (.int v8)] [] μ (c57 v1 v3 v5 v6 v7 v8 μ)) : ∀ (v1 : Int32) (v3 : Int64) (v5 : Int32) (v6 : Int32) (v8 : Int32) (s0 : Int32) (l2 : Option Value) (l7 : Option Value) (μ : xe_Mem), zT zPr μ0 μ → zK zPr μ0 δ d 166 73 [some (.ref 203), some (.int v1), l2, some (.long v3), none, some (.int v5), some (.int v6), l7, some (.int v8)] [.int s0] μ (zD166_73  c57 v1 v3 v5 v6 v8 s0 μ) := by
  intro v1 v3 v5 v6 v8 s0 l2 l7 μ hT
  unfold zD166_73
  refine zK_op rfl rfl ?_
  refine zK_op rfl rfl ?_
  refine zK_op rfl rfl ?_
  exact hc57 v1 v3 v5 v6 s0 (v8 + (1)) _ μ hT
theorem zD166_57_bok {μ0 : xe_Mem} {δ : xe_Dy} {d : Nat} (hd : 4 ≤ d)  {c57 : Int32 → Int64 → Int32 → Int32 → Int32 → Int32 → xe_Mem → zO} (hc57 : ∀ (v1 : Int32) (v3 : Int64) (v5 : Int32) (v6 : Int32) (v7 : Int32) (v8 : Int32) (l2 : Option Value) (μ : xe_Mem), zT zPr μ0 μ → zK zPr μ0 δ d 166 57 [some (.ref 203), some (.int v1), l2, some (.long v3), none, some (.int v5), some (.int v6), some (.int v7), some (.int v8)] [] μ (c57 v1 v3 v5 v6 v7 v8 μ)) : ∀ (v1 : Int32) (v3 : Int64) (v5 : Int32) (v6 : Int32) (v7 : Int32) (v8 : Int32) (l2 : Option Value) (μ : xe_Mem), zT zPr μ0 μ → zK zPr μ0 δ d 166 57 [some (.ref 203), some (.int v1), l2, some (.long v3), none, some (.int v5), some (.int v6), some (.int v7), some (.int v8)] [] μ (zD166_57_b  c57 v1 v3 v5 v6 v7 v8 μ) := by
  intro v1 v3 v5 v6 v7 v8 l2 μ hT
  unfold zD166_57_b
  refine zK_op rfl rfl ?_
  refine zK_op rfl rfl ?_
  refine zK_gRl (b := 223) rfl rfl rfl hT ?_
  refine zK_op rfl rfl ?_
  refine zK_x (fun j77 h78 h79 h80 => ?_)
  refine zK_aI rfl rfl hT h78 h79 h80 ?_
  refine zK_icge rfl (fun _ => ?_) (fun _ => ?_)
  · refine zK_op rfl rfl ?_
    refine zK_ifge rfl (fun _ => ?_) (fun _ => ?_)
    · exact zD166_87_ok hd v1 v3 v5 v6 v7 _ _ μ hT
    refine zK_op rfl rfl ?_
    refine zK_gRl (b := 223) rfl rfl rfl hT ?_
    refine zK_op rfl rfl ?_
    refine zK_x (fun j81 h82 h83 h84 => ?_)
    refine zK_aI rfl rfl hT h82 h83 h84 ?_
    refine zK_op rfl rfl ?_
    refine zK_icne rfl (fun _ => ?_) (fun _ => ?_)
    · refine zK_op rfl rfl ?_
      refine zK_cI rfl (as := [.ref 203]) (rest := []) rfl rfl (xe_rcvO (zT_sh hT rfl)) (Nat.le_of_ble_eq_true rfl) (Nat.le_of_ble_eq_true rfl) (by decide) (fun _ => rfl) (by omega) (zD150_ok (by omega) μ hT) (fun x87 m85 T86 => ?_)
      exact zK_ret3z rfl T86
    exact zD166_87_ok hd v1 v3 v5 v6 v7 _ _ μ hT
  refine zK_op rfl rfl ?_
  refine zK_gRl (b := 241) rfl rfl rfl hT ?_
  refine zK_op rfl rfl ?_
  refine zK_x (fun j88 h89 h90 h91 => ?_)
  refine zK_aL rfl rfl hT h89 h90 h91 ?_
  refine zK_op rfl rfl ?_
  refine zK_op rfl rfl ?_
  refine zK_ifne rfl (fun _ => ?_) (fun _ => ?_)
  · refine zK_op rfl rfl ?_
    refine zK_op rfl rfl ?_
    exact zD166_73_ok hd hc57 v1 v3 v5 v6 v8 v8 _ _ μ hT
  refine zK_op rfl rfl ?_
  exact zD166_73_ok hd hc57 v1 v3 v5 v6 v8 v7 _ _ μ hT
theorem zD166_57_ok {μ0 : xe_Mem} {δ : xe_Dy} {d : Nat} (hd : 4 ≤ d)  : ∀ n : Nat, ∀ (v1 : Int32) (v3 : Int64) (v5 : Int32) (v6 : Int32) (v7 : Int32) (v8 : Int32) (l2 : Option Value) (μ : xe_Mem), zT zPr μ0 μ → zK zPr μ0 δ d 166 57 [some (.ref 203), some (.int v1), l2, some (.long v3), none, some (.int v5), some (.int v6), some (.int v7), some (.int v8)] [] μ (zD166_57  n v1 v3 v5 v6 v7 v8 μ) := by
  intro n
  induction n with
  | zero => exact fun _ _ _ _ _ _ _ _ _  => fun o μ' h => by cases h
  | succ n ih => exact zD166_57_bok hd   ih
theorem zD166_46_ok {μ0 : xe_Mem} {δ : xe_Dy} {d : Nat} (hd : 4 ≤ d) {c20 : Int32 → Int32 → Int64 → Int32 → Int32 → Int32 → xe_Mem → zO} (hc20 : ∀ (v1 : Int32) (v2 : Int32) (v3 : Int64) (v5 : Int32) (v6 : Int32) (v7 : Int32) (μ : xe_Mem), zT zPr μ0 μ → zK zPr μ0 δ d 166 20 [some (.ref 203), some (.int v1), some (.int v2), some (.long v3), none, some (.int v5), some (.int v6), some (.int v7), none] [] μ (c20 v1 v2 v3 v5 v6 v7 μ)) : ∀ (v1 : Int32) (v2 : Int32) (v3 : Int64) (v5 : Int32) (v7 : Int32) (s0 : Int32) (l6 : Option Value) (μ : xe_Mem), zT zPr μ0 μ → zK zPr μ0 δ d 166 46 [some (.ref 203), some (.int v1), some (.int v2), some (.long v3), none, some (.int v5), l6, some (.int v7), none] [.int s0] μ (zD166_46  c20 v1 v2 v3 v5 v7 s0 μ) := by
  intro v1 v2 v3 v5 v7 s0 l6 μ hT
  unfold zD166_46
  refine zK_op rfl rfl ?_
  refine zK_op rfl rfl ?_
  refine zK_op rfl rfl ?_
  exact hc20 v1 v2 v3 v5 s0 (v7 + (1)) μ hT
theorem zD166_45_ok {μ0 : xe_Mem} {δ : xe_Dy} {d : Nat} (hd : 4 ≤ d) {c20 : Int32 → Int32 → Int64 → Int32 → Int32 → Int32 → xe_Mem → zO} (hc20 : ∀ (v1 : Int32) (v2 : Int32) (v3 : Int64) (v5 : Int32) (v6 : Int32) (v7 : Int32) (μ : xe_Mem), zT zPr μ0 μ → zK zPr μ0 δ d 166 20 [some (.ref 203), some (.int v1), some (.int v2), some (.long v3), none, some (.int v5), some (.int v6), some (.int v7), none] [] μ (c20 v1 v2 v3 v5 v6 v7 μ)) : ∀ (v1 : Int32) (v2 : Int32) (v3 : Int64) (v5 : Int32) (v7 : Int32) (l6 : Option Value) (μ : xe_Mem), zT zPr μ0 μ → zK zPr μ0 δ d 166 45 [some (.ref 203), some (.int v1), some (.int v2), some (.long v3), none, some (.int v5), l6, some (.int v7), none] [] μ (zD166_45  c20 v1 v2 v3 v5 v7 μ) := by
  intro v1 v2 v3 v5 v7 l6 μ hT
  unfold zD166_45
  refine zK_op rfl rfl ?_
  exact zD166_46_ok hd hc20 v1 v2 v3 v5 v7 0 _ μ hT
theorem zD166_43_ok {μ0 : xe_Mem} {δ : xe_Dy} {d : Nat} (hd : 4 ≤ d) {c20 : Int32 → Int32 → Int64 → Int32 → Int32 → Int32 → xe_Mem → zO} (hc20 : ∀ (v1 : Int32) (v2 : Int32) (v3 : Int64) (v5 : Int32) (v6 : Int32) (v7 : Int32) (μ : xe_Mem), zT zPr μ0 μ → zK zPr μ0 δ d 166 20 [some (.ref 203), some (.int v1), some (.int v2), some (.long v3), none, some (.int v5), some (.int v6), some (.int v7), none] [] μ (c20 v1 v2 v3 v5 v6 v7 μ)) : ∀ (v1 : Int32) (v2 : Int32) (v3 : Int64) (v5 : Int32) (v7 : Int32) (l6 : Option Value) (μ : xe_Mem), zT zPr μ0 μ → zK zPr μ0 δ d 166 43 [some (.ref 203), some (.int v1), some (.int v2), some (.long v3), none, some (.int v5), l6, some (.int v7), none] [] μ (zD166_43  c20 v1 v2 v3 v5 v7 μ) := by
  intro v1 v2 v3 v5 v7 l6 μ hT
  unfold zD166_43
  refine zK_op rfl rfl ?_
  refine zK_op rfl rfl ?_
  exact zD166_46_ok hd hc20 v1 v2 v3 v5 v7 1 _ μ hT
theorem zD166_20_bok {μ0 : xe_Mem} {δ : xe_Dy} {d : Nat} (hd : 4 ≤ d)  {c20 : Int32 → Int32 → Int64 → Int32 → Int32 → Int32 → xe_Mem → zO} (hc20 : ∀ (v1 : Int32) (v2 : Int32) (v3 : Int64) (v5 : Int32) (v6 : Int32) (v7 : Int32) (μ : xe_Mem), zT zPr μ0 μ → zK zPr μ0 δ d 166 20 [some (.ref 203), some (.int v1), some (.int v2), some (.long v3), none, some (.int v5), some (.int v6), some (.int v7), none] [] μ (c20 v1 v2 v3 v5 v6 v7 μ)) : ∀ (v1 : Int32) (v2 : Int32) (v3 : Int64) (v5 : Int32) (v6 : Int32) (v7 : Int32) (μ : xe_Mem), zT zPr μ0 μ → zK zPr μ0 δ d 166 20 [some (.ref 203), some (.int v1), some (.int v2), some (.long v3), none, some (.int v5), some (.int v6), some (.int v7), none] [] μ (zD166_20_b  c20 v1 v2 v3 v5 v6 v7 μ) := by
  intro v1 v2 v3 v5 v6 v7 μ hT
  unfold zD166_20_b
  refine zK_op rfl rfl ?_
  refine zK_op rfl rfl ?_
  refine zK_gI rfl rfl hT ?_
  refine zK_icge rfl (fun _ => ?_) (fun _ => ?_)
  · refine zK_op rfl rfl ?_
    refine zK_op rfl rfl ?_
    refine zK_op rfl rfl ?_
    refine zK_ifge rfl (fun _ => ?_) (fun _ => ?_)
    · exact zD166_87_ok hd v1 v3 v5 v6 ((-1)) _ _ μ hT
    refine zK_op rfl rfl ?_
    refine zK_ifeq rfl (fun _ => ?_) (fun _ => ?_)
    · exact zD166_87_ok hd v1 v3 v5 v6 ((-1)) _ _ μ hT
    refine zK_op rfl rfl ?_
    refine zK_op rfl rfl ?_
    exact zD166_57_ok hd zfu v1 v3 v5 v6 ((-1)) 0 _ μ hT
  refine zK_op rfl rfl ?_
  refine zK_ifeq rfl (fun _ => ?_) (fun _ => ?_)
  · exact zD166_45_ok hd hc20 v1 v2 v3 v5 v7 _ μ hT
  refine zK_op rfl rfl ?_
  refine zK_iflt rfl (fun _ => ?_) (fun _ => ?_)
  · exact zD166_43_ok hd hc20 v1 v2 v3 v5 v7 _ μ hT
  refine zK_op rfl rfl ?_
  refine zK_gRl (b := 218) rfl rfl rfl hT ?_
  refine zK_op rfl rfl ?_
  refine zK_x (fun j92 h93 h94 h95 => ?_)
  refine zK_aI rfl rfl hT h93 h94 h95 ?_
  refine zK_op rfl rfl ?_
  refine zK_icne rfl (fun _ => ?_) (fun _ => ?_)
  · refine zK_op rfl rfl ?_
    refine zK_gRl (b := 227) rfl rfl rfl hT ?_
    refine zK_op rfl rfl ?_
    refine zK_op rfl rfl ?_
    refine zK_op rfl rfl ?_
    refine zK_op rfl rfl ?_
    refine zK_op rfl rfl ?_
    refine zK_x (fun j96 h97 h98 h99 => ?_)
    refine zK_aI rfl rfl hT h97 h98 h99 ?_
    refine zK_ifne rfl (fun _ => ?_) (fun _ => ?_)
    · exact zD166_43_ok hd hc20 v1 v2 v3 v5 v7 _ μ hT
    exact zD166_45_ok hd hc20 v1 v2 v3 v5 v7 _ μ hT
  exact zD166_43_ok hd hc20 v1 v2 v3 v5 v7 _ μ hT
theorem zD166_20_ok {μ0 : xe_Mem} {δ : xe_Dy} {d : Nat} (hd : 4 ≤ d)  : ∀ n : Nat, ∀ (v1 : Int32) (v2 : Int32) (v3 : Int64) (v5 : Int32) (v6 : Int32) (v7 : Int32) (μ : xe_Mem), zT zPr μ0 μ → zK zPr μ0 δ d 166 20 [some (.ref 203), some (.int v1), some (.int v2), some (.long v3), none, some (.int v5), some (.int v6), some (.int v7), none] [] μ (zD166_20  n v1 v2 v3 v5 v6 v7 μ) := by
  intro n
  induction n with
  | zero => exact fun _ _ _ _ _ _ _ _  => fun o μ' h => by cases h
  | succ n ih => exact zD166_20_bok hd   ih
theorem zD166_17_ok {μ0 : xe_Mem} {δ : xe_Dy} {d : Nat} (hd : 4 ≤ d)  : ∀ (v1 : Int32) (v2 : Int32) (v3 : Int64) (v5 : Int32) (s0 : Int32) (μ : xe_Mem), zT zPr μ0 μ → zK zPr μ0 δ d 166 17 [some (.ref 203), some (.int v1), some (.int v2), some (.long v3), none, some (.int v5), none, none, none] [.int s0] μ (zD166_17  v1 v2 v3 v5 s0 μ) := by
  intro v1 v2 v3 v5 s0 μ hT
  unfold zD166_17
  refine zK_op rfl rfl ?_
  refine zK_op rfl rfl ?_
  refine zK_op rfl rfl ?_
  exact zD166_20_ok hd zfu v1 v2 v3 v5 s0 0 μ hT
theorem zD166_ok {μ0 : xe_Mem} {δ : xe_Dy} {d : Nat} (hd : 4 ≤ d) (a1 : Int32) (a2 : Int32) (μ : xe_Mem) (hT : zT zPr μ0 μ) : zK zPr μ0 δ d 166 0 (xe_init [.ref 203, .int a1, .int a2] (xM_L 166)) [] μ (zD166 a1 a2 μ) := by
  unfold zD166
  show zK zPr μ0 δ d 166 0 [some (.ref 203), some (.int a1), some (.int a2), none, none, none, none, none, none] [] μ _
  refine zK_op rfl rfl ?_
  refine zK_gRl (b := 209) rfl rfl rfl hT ?_
  refine zK_op rfl rfl ?_
  refine zK_gI rfl rfl hT ?_
  refine zK_x (fun j1 h2 h3 h4 => ?_)
  refine zK_aL rfl rfl hT h2 h3 h4 ?_
  refine zK_vL (fun x5 => ?_)
  refine zK_op rfl rfl ?_
  refine zK_op rfl rfl ?_
  refine zK_op rfl rfl ?_
  refine zK_cI rfl (as := [.ref 203, .long x5]) (rest := []) rfl rfl (xe_rcvO (zT_sh hT rfl)) (Nat.le_of_ble_eq_true rfl) (Nat.le_of_ble_eq_true rfl) (by decide) (fun _ => rfl) (by omega) (zD144_ok (by omega) x5 μ hT) (fun x8 m6 T7 => ?_)
  refine zK_op rfl rfl ?_
  refine zK_op rfl rfl ?_
  refine zK_op rfl rfl ?_
  refine zK_cI rfl (as := [.ref 203, .long x5]) (rest := []) rfl rfl (xe_rcvO (zT_sh T7 rfl)) (Nat.le_of_ble_eq_true rfl) (Nat.le_of_ble_eq_true rfl) (by decide) (fun _ => rfl) (by omega) (zD145_ok (by omega) x5 m6 T7) (fun x11 m9 T10 => ?_)
  refine zK_ifge rfl (fun _ => ?_) (fun _ => ?_)
  · refine zK_op rfl rfl ?_
    exact zD166_17_ok hd a1 a2 x5 x8 0 m9 T10
  refine zK_op rfl rfl ?_
  refine zK_op rfl rfl ?_
  exact zD166_17_ok hd a1 a2 x5 x8 1 m9 T10
