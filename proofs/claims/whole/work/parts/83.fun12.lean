/-! methods as functions (by wip/whole/gen/dec.py) -/
/-! 168 LogicalTimesModel.readSlots(I)Z -/
def zD168_8_b (c8 : Int32 → Int64 → xe_Mem → zO) (v1 : Int32) (v2 : Int64) (μ : xe_Mem) : zO := zq_x v1 4 fun j3 => zq_cI (zD148 v2 (((xe_I μ 214 j3).toInt64) - 1) μ) fun x9 m7 => if x9 = 0 then some (.inl (some (.int 0)), m7) else zq_x (xe_I m7 203 43) 480 fun j10 => zq_m (xe_setI m7 236 j10 v1) fun m14 => zq_cI (zD149 m14) fun x18 m16 => zq_x (xe_I m14 203 43) 480 fun j19 => zq_m (xe_setI m16 237 j19 x18) fun m23 => zq_x (xe_I m23 203 43) 480 fun j25 => zq_m (xe_setI m23 238 j25 ((-1))) fun m29 => zq_m (xe_setI m29 203 43 ((xe_I m29 203 43) + 1)) fun m31 => zq_cI (zD149 m31) fun x35 m33 => zq_vL (x35.toInt64 + 1) fun x36 => zq_cI (zD147 44 m33) fun x39 m37 => if x39 = 0 then zq_cI (zD146 59 m37) fun x42 m40 => zq_z x42 <| some (.inl (some (.int x42)), m40) else zq_m (xe_setI m37 203 10 ((xe_I m37 203 10) + 1)) fun m43 => c8 v1 x36 m43
def zD168_8   : Nat → Int32 → Int64 → xe_Mem → zO
  | 0 => fun _ _ _  => none
  | n + 1 => zD168_8_b   (zD168_8   n)
def zD168  (a1 : Int32) (μ : xe_Mem) : zO := zq_m (xe_setI μ 203 10 ((xe_I μ 203 10) + 1)) fun m1 => zD168_8 zfu a1 0 m1
theorem zD168_8_bok {μ0 : xe_Mem} {δ : xe_Dy} {d : Nat} (hd : 2 ≤ d)  {c8 : Int32 → Int64 → xe_Mem → zO} (hc8 : ∀ (v1 : Int32) (v2 : Int64) (μ : xe_Mem), zT zPr μ0 μ → zK zPr μ0 δ d 168 8 [some (.ref 203), some (.int v1), some (.long v2), none] [] μ (c8 v1 v2 μ)) : ∀ (v1 : Int32) (v2 : Int64) (μ : xe_Mem), zT zPr μ0 μ → zK zPr μ0 δ d 168 8 [some (.ref 203), some (.int v1), some (.long v2), none] [] μ (zD168_8_b  c8 v1 v2 μ) := by
  intro v1 v2 μ hT
  unfold zD168_8_b
  refine zK_op rfl rfl ?_
  refine zK_op rfl rfl ?_
  refine zK_op rfl rfl ?_
  refine zK_gRl (b := 214) rfl rfl rfl hT ?_
  refine zK_op rfl rfl ?_
  refine zK_x (fun j3 h4 h5 h6 => ?_)
  refine zK_aI rfl rfl hT h4 h5 h6 ?_
  refine zK_op rfl rfl ?_
  refine zK_op rfl rfl ?_
  refine zK_op rfl rfl ?_
  refine zK_cI rfl (as := [.ref 203, .long v2, .long (((xe_I μ 214 j3).toInt64) - 1)]) (rest := []) rfl rfl (xe_rcvO (zT_sh hT rfl)) (Nat.le_of_ble_eq_true rfl) (Nat.le_of_ble_eq_true rfl) (by decide) (fun _ => rfl) (by omega) (zD148_ok (by omega) v2 (((xe_I μ 214 j3).toInt64) - 1) μ hT) (fun x9 m7 T8 => ?_)
  refine zK_ifne rfl (fun _ => ?_) (fun _ => ?_)
  · refine zK_op rfl rfl ?_
    exact zK_ret3 rfl (Or.inl rfl) T8
  refine zK_op rfl rfl ?_
  refine zK_gRl (b := 236) rfl rfl rfl T8 ?_
  refine zK_op rfl rfl ?_
  refine zK_gI rfl rfl T8 ?_
  refine zK_op rfl rfl ?_
  refine zK_x (fun j10 h11 h12 h13 => ?_)
  refine zK_sI (a := 236) (g := (fun x => x)) rfl rfl T8 h11 h12 h13 rfl (fun m14 T15 => ?_)
  refine zK_op rfl rfl ?_
  refine zK_gRl (b := 237) rfl rfl rfl T15 ?_
  refine zK_op rfl rfl ?_
  refine zK_gI rfl rfl T15 ?_
  refine zK_op rfl rfl ?_
  refine zK_cI rfl (as := [.ref 203]) (rest := [.int (xe_I m14 203 43), .ref 237]) rfl rfl (xe_rcvO (zT_sh T15 rfl)) (Nat.le_of_ble_eq_true rfl) (Nat.le_of_ble_eq_true rfl) (by decide) (fun _ => rfl) (by omega) (zD149_ok (by omega) m14 T15) (fun x18 m16 T17 => ?_)
  refine zK_x (fun j19 h20 h21 h22 => ?_)
  refine zK_sI (a := 237) (g := (fun x => x)) rfl rfl T17 h20 h21 h22 rfl (fun m23 T24 => ?_)
  refine zK_op rfl rfl ?_
  refine zK_gRl (b := 238) rfl rfl rfl T24 ?_
  refine zK_op rfl rfl ?_
  refine zK_gI rfl rfl T24 ?_
  refine zK_op rfl rfl ?_
  refine zK_x (fun j25 h26 h27 h28 => ?_)
  refine zK_sI (a := 238) (g := (fun x => x)) rfl rfl T24 h26 h27 h28 rfl (fun m29 T30 => ?_)
  refine zK_op rfl rfl ?_
  refine zK_op rfl rfl ?_
  refine zK_gI rfl rfl T30 ?_
  refine zK_op rfl rfl ?_
  refine zK_op rfl rfl ?_
  refine zK_pI rfl rfl T30 rfl (fun m31 T32 => ?_)
  refine zK_op rfl rfl ?_
  refine zK_cI rfl (as := [.ref 203]) (rest := []) rfl rfl (xe_rcvO (zT_sh T32 rfl)) (Nat.le_of_ble_eq_true rfl) (Nat.le_of_ble_eq_true rfl) (by decide) (fun _ => rfl) (by omega) (zD149_ok (by omega) m31 T32) (fun x35 m33 T34 => ?_)
  refine zK_op rfl rfl ?_
  refine zK_op rfl rfl ?_
  refine zK_op rfl rfl ?_
  refine zK_vL (fun x36 => ?_)
  refine zK_op rfl rfl ?_
  refine zK_op rfl rfl ?_
  refine zK_op rfl rfl ?_
  refine zK_cI rfl (as := [.ref 203, .int 44]) (rest := []) rfl rfl (xe_rcvO (zT_sh T34 rfl)) (Nat.le_of_ble_eq_true rfl) (Nat.le_of_ble_eq_true rfl) (by decide) (fun _ => rfl) (by omega) (zD147_ok (by omega) 44 m33 T34) (fun x39 m37 T38 => ?_)
  refine zK_ifne rfl (fun _ => ?_) (fun _ => ?_)
  · refine zK_op rfl rfl ?_
    refine zK_op rfl rfl ?_
    refine zK_cI rfl (as := [.ref 203, .int 59]) (rest := []) rfl rfl (xe_rcvO (zT_sh T38 rfl)) (Nat.le_of_ble_eq_true rfl) (Nat.le_of_ble_eq_true rfl) (by decide) (fun _ => rfl) (by omega) (zD146_ok (by omega) 59 m37 T38) (fun x42 m40 T41 => ?_)
    exact zK_ret3z rfl T41
  refine zK_op rfl rfl ?_
  refine zK_op rfl rfl ?_
  refine zK_gI rfl rfl T38 ?_
  refine zK_op rfl rfl ?_
  refine zK_op rfl rfl ?_
  refine zK_pI rfl rfl T38 rfl (fun m43 T44 => ?_)
  refine zK_op rfl rfl ?_
  exact hc8 v1 x36 m43 T44
theorem zD168_8_ok {μ0 : xe_Mem} {δ : xe_Dy} {d : Nat} (hd : 2 ≤ d)  : ∀ n : Nat, ∀ (v1 : Int32) (v2 : Int64) (μ : xe_Mem), zT zPr μ0 μ → zK zPr μ0 δ d 168 8 [some (.ref 203), some (.int v1), some (.long v2), none] [] μ (zD168_8  n v1 v2 μ) := by
  intro n
  induction n with
  | zero => exact fun _ _ _ _  => fun o μ' h => by cases h
  | succ n ih => exact zD168_8_bok hd   ih
theorem zD168_ok {μ0 : xe_Mem} {δ : xe_Dy} {d : Nat} (hd : 2 ≤ d) (a1 : Int32) (μ : xe_Mem) (hT : zT zPr μ0 μ) : zK zPr μ0 δ d 168 0 (xe_init [.ref 203, .int a1] (xM_L 168)) [] μ (zD168 a1 μ) := by
  unfold zD168
  show zK zPr μ0 δ d 168 0 [some (.ref 203), some (.int a1), none, none] [] μ _
  refine zK_op rfl rfl ?_
  refine zK_op rfl rfl ?_
  refine zK_gI rfl rfl hT ?_
  refine zK_op rfl rfl ?_
  refine zK_op rfl rfl ?_
  refine zK_pI rfl rfl hT rfl (fun m1 T2 => ?_)
  refine zK_op rfl rfl ?_
  refine zK_op rfl rfl ?_
  exact zD168_8_ok hd zfu a1 0 m1 T2
/-! 151 LogicalTimesModel.readMode()Z -/
def zD151_128 (μ : xe_Mem) : zO := zq_cI (zD146 125 μ) fun x59 m57 => zq_z x59 <| some (.inl (some (.int x59)), m57)
def zD151_99_b (c99 : Int32 → Int32 → xe_Mem → zO) (v3 : Int32) (v5 : Int32) (μ : xe_Mem) : zO := zq_cI (zD141 8 μ) fun x53 m51 => if x53 = 0 then zq_cI (zD141 10 m51) fun x56 m54 => if x56 = 0 then zD151_128 m54 else zq_cI (zD168 v3 m54) fun x62 m60 => if x62 = 0 then some (.inl (some (.int 0)), m60) else zD151_128 m60 else if ((xe_I m51 203 37) - v5) = 4 then zq_cI (zD150 m51) fun x65 m63 => zq_z x65 <| some (.inl (some (.int x65)), m63) else zq_cI (zD167 v3 m51) fun x68 m66 => if x68 = 0 then some (.inl (some (.int 0)), m66) else c99 v3 v5 m66
def zD151_99   : Nat → Int32 → Int32 → xe_Mem → zO
  | 0 => fun _ _ _  => none
  | n + 1 => zD151_99_b   (zD151_99   n)
def zD151_77_b (c77 : Int32 → Int32 → xe_Mem → zO) (v3 : Int32) (v4 : Int32) (μ : xe_Mem) : zO := zq_cI (zD141 3 μ) fun x49 m47 => if x49 = 0 then zq_vI (xe_I m47 203 37) fun x50 => zD151_99 zfu v3 x50 m47 else if ((xe_I m47 203 22) - v4) = 6 then zq_cI (zD150 m47) fun x71 m69 => zq_z x71 <| some (.inl (some (.int x71)), m69) else zq_cI (zD153 v3 m47) fun x74 m72 => if x74 = 0 then some (.inl (some (.int 0)), m72) else c77 v3 v4 m72
def zD151_77   : Nat → Int32 → Int32 → xe_Mem → zO
  | 0 => fun _ _ _  => none
  | n + 1 => zD151_77_b   (zD151_77   n)
def zD151_37 (v1 : Int64) (s1 : Int32) (μ : xe_Mem) : zO := zq_cI (zD143 s1 μ) fun x21 m19 => if x21 = 0 then some (.inl (some (.int 0)), m19) else zq_vI (xe_I m19 203 17) fun x22 => zq_x x22 4 fun j23 => zq_m (xe_setL m19 213 j23 v1) fun m27 => zq_m (xe_setI m27 203 17 ((xe_I m27 203 17) + 1)) fun m29 => zq_cI (zD148 1 120 m29) fun x33 m31 => if x33 = 0 then some (.inl (some (.int 0)), m31) else zq_cI (zD149 m31) fun x36 m34 => zq_x x22 4 fun j37 => zq_m (xe_setI m34 214 j37 x36) fun m41 => zq_cI (zD146 123 m41) fun x45 m43 => if x45 = 0 then some (.inl (some (.int 0)), m43) else zq_vI (xe_I m43 203 22) fun x46 => zD151_77 zfu x22 x46 m43
def zD151_36 (v1 : Int64) (μ : xe_Mem) : zO := zD151_37 v1 0 μ
def zD151_12 (s1 : Int32) (μ : xe_Mem) : zO := zq_cI (zD143 s1 μ) fun x6 m4 => if x6 = 0 then some (.inl (some (.int 0)), m4) else zq_x (xe_I m4 203 10) 3002 fun j7 => zq_vL (xe_L m4 209 j7) fun x11 => zq_x (xe_I m4 203 10) 3002 fun j12 => if (xe_I m4 207 j12) = 1 then zq_cI (zD152 x11 m4) fun x18 m16 => if 0 ≤ x18 then zD151_36 x11 m16 else zD151_37 x11 1 m16 else zD151_36 x11 m4
def zD151_11 (μ : xe_Mem) : zO := zD151_12 0 μ
def zD151   (μ : xe_Mem) : zO := zq_cI (zD141 2 μ) fun x3 m1 => if x3 = 0 then zD151_11 m1 else if 4 ≤ (xe_I m1 203 17) then zD151_11 m1 else zD151_12 1 m1
theorem zD151_128_ok {μ0 : xe_Mem} {δ : xe_Dy} {d : Nat} (hd : 7 ≤ d)  : ∀ (l1 : Option Value) (l3 : Option Value) (l4 : Option Value) (l5 : Option Value) (μ : xe_Mem), zT zPr μ0 μ → zK zPr μ0 δ d 151 128 [some (.ref 203), l1, none, l3, l4, l5] [] μ (zD151_128  μ) := by
  intro l1 l3 l4 l5 μ hT
  unfold zD151_128
  refine zK_op rfl rfl ?_
  refine zK_op rfl rfl ?_
  refine zK_cI rfl (as := [.ref 203, .int 125]) (rest := []) rfl rfl (xe_rcvO (zT_sh hT rfl)) (Nat.le_of_ble_eq_true rfl) (Nat.le_of_ble_eq_true rfl) (by decide) (fun _ => rfl) (by omega) (zD146_ok (by omega) 125 μ hT) (fun x59 m57 T58 => ?_)
  exact zK_ret3z rfl T58
theorem zD151_99_bok {μ0 : xe_Mem} {δ : xe_Dy} {d : Nat} (hd : 7 ≤ d)  {c99 : Int32 → Int32 → xe_Mem → zO} (hc99 : ∀ (v3 : Int32) (v5 : Int32) (l1 : Option Value) (l4 : Option Value) (μ : xe_Mem), zT zPr μ0 μ → zK zPr μ0 δ d 151 99 [some (.ref 203), l1, none, some (.int v3), l4, some (.int v5)] [] μ (c99 v3 v5 μ)) : ∀ (v3 : Int32) (v5 : Int32) (l1 : Option Value) (l4 : Option Value) (μ : xe_Mem), zT zPr μ0 μ → zK zPr μ0 δ d 151 99 [some (.ref 203), l1, none, some (.int v3), l4, some (.int v5)] [] μ (zD151_99_b  c99 v3 v5 μ) := by
  intro v3 v5 l1 l4 μ hT
  unfold zD151_99_b
  refine zK_op rfl rfl ?_
  refine zK_op rfl rfl ?_
  refine zK_cI rfl (as := [.ref 203, .int 8]) (rest := []) rfl rfl (xe_rcvO (zT_sh hT rfl)) (Nat.le_of_ble_eq_true rfl) (Nat.le_of_ble_eq_true rfl) (by decide) (fun _ => rfl) (by omega) (zD141_ok (by omega) 8 μ hT) (fun x53 m51 T52 => ?_)
  refine zK_ifeq rfl (fun _ => ?_) (fun _ => ?_)
  · refine zK_op rfl rfl ?_
    refine zK_op rfl rfl ?_
    refine zK_cI rfl (as := [.ref 203, .int 10]) (rest := []) rfl rfl (xe_rcvO (zT_sh T52 rfl)) (Nat.le_of_ble_eq_true rfl) (Nat.le_of_ble_eq_true rfl) (by decide) (fun _ => rfl) (by omega) (zD141_ok (by omega) 10 m51 T52) (fun x56 m54 T55 => ?_)
    refine zK_ifeq rfl (fun _ => ?_) (fun _ => ?_)
    · exact zD151_128_ok hd _ _ _ _ m54 T55
    refine zK_op rfl rfl ?_
    refine zK_op rfl rfl ?_
    refine zK_cI rfl (as := [.ref 203, .int v3]) (rest := []) rfl rfl (xe_rcvO (zT_sh T55 rfl)) (Nat.le_of_ble_eq_true rfl) (Nat.le_of_ble_eq_true rfl) (by decide) (fun _ => rfl) (by omega) (zD168_ok (by omega) v3 m54 T55) (fun x62 m60 T61 => ?_)
    refine zK_ifne rfl (fun _ => ?_) (fun _ => ?_)
    · refine zK_op rfl rfl ?_
      exact zK_ret3 rfl (Or.inl rfl) T61
    exact zD151_128_ok hd _ _ _ _ m60 T61
  refine zK_op rfl rfl ?_
  refine zK_gI rfl rfl T52 ?_
  refine zK_op rfl rfl ?_
  refine zK_op rfl rfl ?_
  refine zK_op rfl rfl ?_
  refine zK_icne rfl (fun _ => ?_) (fun _ => ?_)
  · refine zK_op rfl rfl ?_
    refine zK_cI rfl (as := [.ref 203]) (rest := []) rfl rfl (xe_rcvO (zT_sh T52 rfl)) (Nat.le_of_ble_eq_true rfl) (Nat.le_of_ble_eq_true rfl) (by decide) (fun _ => rfl) (by omega) (zD150_ok (by omega) m51 T52) (fun x65 m63 T64 => ?_)
    exact zK_ret3z rfl T64
  refine zK_op rfl rfl ?_
  refine zK_op rfl rfl ?_
  refine zK_cI rfl (as := [.ref 203, .int v3]) (rest := []) rfl rfl (xe_rcvO (zT_sh T52 rfl)) (Nat.le_of_ble_eq_true rfl) (Nat.le_of_ble_eq_true rfl) (by decide) (fun _ => rfl) (by omega) (zD167_ok (by omega) v3 m51 T52) (fun x68 m66 T67 => ?_)
  refine zK_ifne rfl (fun _ => ?_) (fun _ => ?_)
  · refine zK_op rfl rfl ?_
    exact zK_ret3 rfl (Or.inl rfl) T67
  exact hc99 v3 v5 _ _ m66 T67
theorem zD151_99_ok {μ0 : xe_Mem} {δ : xe_Dy} {d : Nat} (hd : 7 ≤ d)  : ∀ n : Nat, ∀ (v3 : Int32) (v5 : Int32) (l1 : Option Value) (l4 : Option Value) (μ : xe_Mem), zT zPr μ0 μ → zK zPr μ0 δ d 151 99 [some (.ref 203), l1, none, some (.int v3), l4, some (.int v5)] [] μ (zD151_99  n v3 v5 μ) := by
  intro n
  induction n with
  | zero => exact fun _ _ _ _ _ _  => fun o μ' h => by cases h
  | succ n ih => exact zD151_99_bok hd   ih
theorem zD151_77_bok {μ0 : xe_Mem} {δ : xe_Dy} {d : Nat} (hd : 7 ≤ d)  {c77 : Int32 → Int32 → xe_Mem → zO} (hc77 : ∀ (v3 : Int32) (v4 : Int32) (l1 : Option Value) (μ : xe_Mem), zT zPr μ0 μ → zK zPr μ0 δ d 151 77 [some (.ref 203), l1, none, some (.int v3), some (.int v4), none] [] μ (c77 v3 v4 μ)) : ∀ (v3 : Int32) (v4 : Int32) (l1 : Option Value) (μ : xe_Mem), zT zPr μ0 μ → zK zPr μ0 δ d 151 77 [some (.ref 203), l1, none, some (.int v3), some (.int v4), none] [] μ (zD151_77_b  c77 v3 v4 μ) := by
  intro v3 v4 l1 μ hT
  unfold zD151_77_b
  refine zK_op rfl rfl ?_
  refine zK_op rfl rfl ?_
  refine zK_cI rfl (as := [.ref 203, .int 3]) (rest := []) rfl rfl (xe_rcvO (zT_sh hT rfl)) (Nat.le_of_ble_eq_true rfl) (Nat.le_of_ble_eq_true rfl) (by decide) (fun _ => rfl) (by omega) (zD141_ok (by omega) 3 μ hT) (fun x49 m47 T48 => ?_)
  refine zK_ifeq rfl (fun _ => ?_) (fun _ => ?_)
  · refine zK_op rfl rfl ?_
    refine zK_gI rfl rfl T48 ?_
    refine zK_vI (fun x50 => ?_)
    refine zK_op rfl rfl ?_
    exact zD151_99_ok hd zfu v3 x50 _ _ m47 T48
  refine zK_op rfl rfl ?_
  refine zK_gI rfl rfl T48 ?_
  refine zK_op rfl rfl ?_
  refine zK_op rfl rfl ?_
  refine zK_op rfl rfl ?_
  refine zK_icne rfl (fun _ => ?_) (fun _ => ?_)
  · refine zK_op rfl rfl ?_
    refine zK_cI rfl (as := [.ref 203]) (rest := []) rfl rfl (xe_rcvO (zT_sh T48 rfl)) (Nat.le_of_ble_eq_true rfl) (Nat.le_of_ble_eq_true rfl) (by decide) (fun _ => rfl) (by omega) (zD150_ok (by omega) m47 T48) (fun x71 m69 T70 => ?_)
    exact zK_ret3z rfl T70
  refine zK_op rfl rfl ?_
  refine zK_op rfl rfl ?_
  refine zK_cI rfl (as := [.ref 203, .int v3]) (rest := []) rfl rfl (xe_rcvO (zT_sh T48 rfl)) (Nat.le_of_ble_eq_true rfl) (Nat.le_of_ble_eq_true rfl) (by decide) (fun _ => rfl) (by omega) (zD153_ok (by omega) v3 m47 T48) (fun x74 m72 T73 => ?_)
  refine zK_ifne rfl (fun _ => ?_) (fun _ => ?_)
  · refine zK_op rfl rfl ?_
    exact zK_ret3 rfl (Or.inl rfl) T73
  exact hc77 v3 v4 _ m72 T73
theorem zD151_77_ok {μ0 : xe_Mem} {δ : xe_Dy} {d : Nat} (hd : 7 ≤ d)  : ∀ n : Nat, ∀ (v3 : Int32) (v4 : Int32) (l1 : Option Value) (μ : xe_Mem), zT zPr μ0 μ → zK zPr μ0 δ d 151 77 [some (.ref 203), l1, none, some (.int v3), some (.int v4), none] [] μ (zD151_77  n v3 v4 μ) := by
  intro n
  induction n with
  | zero => exact fun _ _ _ _ _  => fun o μ' h => by cases h
  | succ n ih => exact zD151_77_bok hd   ih
theorem zD151_37_ok {μ0 : xe_Mem} {δ : xe_Dy} {d : Nat} (hd : 7 ≤ d)  : ∀ (v1 : Int64) (s1 : Int32) (μ : xe_Mem), zT zPr μ0 μ → zK zPr μ0 δ d 151 37 [some (.ref 203), some (.long v1), none, none, none, none] [.int s1, .ref 203] μ (zD151_37  v1 s1 μ) := by
  intro v1 s1 μ hT
  unfold zD151_37
  refine zK_cI rfl (as := [.ref 203, .int s1]) (rest := []) rfl rfl (xe_rcvO (zT_sh hT rfl)) (Nat.le_of_ble_eq_true rfl) (Nat.le_of_ble_eq_true rfl) (by decide) (fun _ => rfl) (by omega) (zD143_ok (by omega) s1 μ hT) (fun x21 m19 T20 => ?_)
  refine zK_ifne rfl (fun _ => ?_) (fun _ => ?_)
  · refine zK_op rfl rfl ?_
    exact zK_ret3 rfl (Or.inl rfl) T20
  refine zK_op rfl rfl ?_
  refine zK_gI rfl rfl T20 ?_
  refine zK_vI (fun x22 => ?_)
  refine zK_op rfl rfl ?_
  refine zK_op rfl rfl ?_
  refine zK_gRl (b := 213) rfl rfl rfl T20 ?_
  refine zK_op rfl rfl ?_
  refine zK_op rfl rfl ?_
  refine zK_x (fun j23 h24 h25 h26 => ?_)
  refine zK_sL rfl rfl T20 h24 h25 h26 rfl (fun m27 T28 => ?_)
  refine zK_op rfl rfl ?_
  refine zK_op rfl rfl ?_
  refine zK_gI rfl rfl T28 ?_
  refine zK_op rfl rfl ?_
  refine zK_op rfl rfl ?_
  refine zK_pI rfl rfl T28 rfl (fun m29 T30 => ?_)
  refine zK_op rfl rfl ?_
  refine zK_op rfl rfl ?_
  refine zK_op rfl rfl ?_
  refine zK_cI rfl (as := [.ref 203, .long 1, .long 120]) (rest := []) rfl rfl (xe_rcvO (zT_sh T30 rfl)) (Nat.le_of_ble_eq_true rfl) (Nat.le_of_ble_eq_true rfl) (by decide) (fun _ => rfl) (by omega) (zD148_ok (by omega) 1 120 m29 T30) (fun x33 m31 T32 => ?_)
  refine zK_ifne rfl (fun _ => ?_) (fun _ => ?_)
  · refine zK_op rfl rfl ?_
    exact zK_ret3 rfl (Or.inl rfl) T32
  refine zK_op rfl rfl ?_
  refine zK_gRl (b := 214) rfl rfl rfl T32 ?_
  refine zK_op rfl rfl ?_
  refine zK_op rfl rfl ?_
  refine zK_cI rfl (as := [.ref 203]) (rest := [.int x22, .ref 214]) rfl rfl (xe_rcvO (zT_sh T32 rfl)) (Nat.le_of_ble_eq_true rfl) (Nat.le_of_ble_eq_true rfl) (by decide) (fun _ => rfl) (by omega) (zD149_ok (by omega) m31 T32) (fun x36 m34 T35 => ?_)
  refine zK_x (fun j37 h38 h39 h40 => ?_)
  refine zK_sI (a := 214) (g := (fun x => x)) rfl rfl T35 h38 h39 h40 rfl (fun m41 T42 => ?_)
  refine zK_op rfl rfl ?_
  refine zK_op rfl rfl ?_
  refine zK_cI rfl (as := [.ref 203, .int 123]) (rest := []) rfl rfl (xe_rcvO (zT_sh T42 rfl)) (Nat.le_of_ble_eq_true rfl) (Nat.le_of_ble_eq_true rfl) (by decide) (fun _ => rfl) (by omega) (zD146_ok (by omega) 123 m41 T42) (fun x45 m43 T44 => ?_)
  refine zK_ifne rfl (fun _ => ?_) (fun _ => ?_)
  · refine zK_op rfl rfl ?_
    exact zK_ret3 rfl (Or.inl rfl) T44
  refine zK_op rfl rfl ?_
  refine zK_gI rfl rfl T44 ?_
  refine zK_vI (fun x46 => ?_)
  refine zK_op rfl rfl ?_
  exact zD151_77_ok hd zfu x22 x46 _ m43 T44
theorem zD151_36_ok {μ0 : xe_Mem} {δ : xe_Dy} {d : Nat} (hd : 7 ≤ d)  : ∀ (v1 : Int64) (μ : xe_Mem), zT zPr μ0 μ → zK zPr μ0 δ d 151 36 [some (.ref 203), some (.long v1), none, none, none, none] [.ref 203] μ (zD151_36  v1 μ) := by
  intro v1 μ hT
  unfold zD151_36
  refine zK_op rfl rfl ?_
  exact zD151_37_ok hd v1 0 μ hT
theorem zD151_12_ok {μ0 : xe_Mem} {δ : xe_Dy} {d : Nat} (hd : 7 ≤ d)  : ∀ (s1 : Int32) (μ : xe_Mem), zT zPr μ0 μ → zK zPr μ0 δ d 151 12 [some (.ref 203), none, none, none, none, none] [.int s1, .ref 203] μ (zD151_12  s1 μ) := by
  intro s1 μ hT
  unfold zD151_12
  refine zK_cI rfl (as := [.ref 203, .int s1]) (rest := []) rfl rfl (xe_rcvO (zT_sh hT rfl)) (Nat.le_of_ble_eq_true rfl) (Nat.le_of_ble_eq_true rfl) (by decide) (fun _ => rfl) (by omega) (zD143_ok (by omega) s1 μ hT) (fun x6 m4 T5 => ?_)
  refine zK_ifne rfl (fun _ => ?_) (fun _ => ?_)
  · refine zK_op rfl rfl ?_
    exact zK_ret3 rfl (Or.inl rfl) T5
  refine zK_op rfl rfl ?_
  refine zK_gRl (b := 209) rfl rfl rfl T5 ?_
  refine zK_op rfl rfl ?_
  refine zK_gI rfl rfl T5 ?_
  refine zK_x (fun j7 h8 h9 h10 => ?_)
  refine zK_aL rfl rfl T5 h8 h9 h10 ?_
  refine zK_vL (fun x11 => ?_)
  refine zK_op rfl rfl ?_
  refine zK_op rfl rfl ?_
  refine zK_op rfl rfl ?_
  refine zK_gRl (b := 207) rfl rfl rfl T5 ?_
  refine zK_op rfl rfl ?_
  refine zK_gI rfl rfl T5 ?_
  refine zK_x (fun j12 h13 h14 h15 => ?_)
  refine zK_aI rfl rfl T5 h13 h14 h15 ?_
  refine zK_op rfl rfl ?_
  refine zK_icne rfl (fun _ => ?_) (fun _ => ?_)
  · refine zK_op rfl rfl ?_
    refine zK_op rfl rfl ?_
    refine zK_cI rfl (as := [.ref 203, .long x11]) (rest := [.ref 203]) rfl rfl (xe_rcvO (zT_sh T5 rfl)) (Nat.le_of_ble_eq_true rfl) (Nat.le_of_ble_eq_true rfl) (by decide) (fun _ => rfl) (by omega) (zD152_ok (by omega) x11 m4 T5) (fun x18 m16 T17 => ?_)
    refine zK_ifge rfl (fun _ => ?_) (fun _ => ?_)
    · exact zD151_36_ok hd x11 m16 T17
    refine zK_op rfl rfl ?_
    refine zK_op rfl rfl ?_
    exact zD151_37_ok hd x11 1 m16 T17
  exact zD151_36_ok hd x11 m4 T5
theorem zD151_11_ok {μ0 : xe_Mem} {δ : xe_Dy} {d : Nat} (hd : 7 ≤ d)  : ∀ (μ : xe_Mem), zT zPr μ0 μ → zK zPr μ0 δ d 151 11 [some (.ref 203), none, none, none, none, none] [.ref 203] μ (zD151_11  μ) := by
  intro μ hT
  unfold zD151_11
  refine zK_op rfl rfl ?_
  exact zD151_12_ok hd 0 μ hT
theorem zD151_ok {μ0 : xe_Mem} {δ : xe_Dy} {d : Nat} (hd : 7 ≤ d) (μ : xe_Mem) (hT : zT zPr μ0 μ) : zK zPr μ0 δ d 151 0 (xe_init [.ref 203] (xM_L 151)) [] μ (zD151 μ) := by
  unfold zD151
  show zK zPr μ0 δ d 151 0 [some (.ref 203), none, none, none, none, none] [] μ _
  refine zK_op rfl rfl ?_
  refine zK_op rfl rfl ?_
  refine zK_op rfl rfl ?_
  refine zK_cI rfl (as := [.ref 203, .int 2]) (rest := [.ref 203]) rfl rfl (xe_rcvO (zT_sh hT rfl)) (Nat.le_of_ble_eq_true rfl) (Nat.le_of_ble_eq_true rfl) (by decide) (fun _ => rfl) (by omega) (zD141_ok (by omega) 2 μ hT) (fun x3 m1 T2 => ?_)
  refine zK_ifeq rfl (fun _ => ?_) (fun _ => ?_)
  · exact zD151_11_ok hd m1 T2
  refine zK_op rfl rfl ?_
  refine zK_gI rfl rfl T2 ?_
  refine zK_op rfl rfl ?_
  refine zK_icge rfl (fun _ => ?_) (fun _ => ?_)
  · exact zD151_11_ok hd m1 T2
  refine zK_op rfl rfl ?_
  refine zK_op rfl rfl ?_
  exact zD151_12_ok hd 1 m1 T2
/-! 170 LogicalTimesModel.isSent(II)Z -/
def zD170_48 (s0 : Int32) (μ : xe_Mem) : zO := zq_z s0 <| some (.inl (some (.int s0)), μ)
def zD170_47 (μ : xe_Mem) : zO := zD170_48 0 μ
def zD170_31 (c4 : Int32 → Int32 → Int32 → Int32 → xe_Mem → zO) (v1 : Int32) (v2 : Int32) (v4 : Int32) (s0 : Int32) (μ : xe_Mem) : zO := c4 v1 v2 s0 (v4 + (1)) μ
def zD170_30 (c4 : Int32 → Int32 → Int32 → Int32 → xe_Mem → zO) (v1 : Int32) (v2 : Int32) (v4 : Int32) (μ : xe_Mem) : zO := zD170_31 c4 v1 v2 v4 0 μ
def zD170_28 (c4 : Int32 → Int32 → Int32 → Int32 → xe_Mem → zO) (v1 : Int32) (v2 : Int32) (v4 : Int32) (μ : xe_Mem) : zO := zD170_31 c4 v1 v2 v4 1 μ
def zD170_4_b (c4 : Int32 → Int32 → Int32 → Int32 → xe_Mem → zO) (v1 : Int32) (v2 : Int32) (v3 : Int32) (v4 : Int32) (μ : xe_Mem) : zO := if (xe_I μ 203 22) ≤ v4 then if v3 = 0 then zD170_47 μ else zq_x ((12 * v1) + v2) 288 fun j1 => if (xe_I μ 227 j1) = 0 then zD170_47 μ else zD170_48 1 μ else if v3 = 0 then zq_x v4 24 fun j5 => zq_x v1 24 fun j9 => if (xe_I μ 219 j5) = (xe_I μ 219 j9) then zD170_30 c4 v1 v2 v4 μ else zq_x ((12 * v4) + v2) 288 fun j13 => if (xe_I μ 226 j13) = 0 then zD170_30 c4 v1 v2 v4 μ else zD170_28 c4 v1 v2 v4 μ else zD170_28 c4 v1 v2 v4 μ
def zD170_4   : Nat → Int32 → Int32 → Int32 → Int32 → xe_Mem → zO
  | 0 => fun _ _ _ _ _  => none
  | n + 1 => zD170_4_b   (zD170_4   n)
def zD170  (a1 : Int32) (a2 : Int32) (μ : xe_Mem) : zO := zD170_4 zfu a1 a2 0 0 μ
theorem zD170_48_ok {μ0 : xe_Mem} {δ : xe_Dy} {d : Nat} (hd : 0 ≤ d)  : ∀ (s0 : Int32) (l0 : Option Value) (l1 : Option Value) (l2 : Option Value) (l3 : Option Value) (l4 : Option Value) (μ : xe_Mem), zT zPr μ0 μ → zK zPr μ0 δ d 170 48 [l0, l1, l2, l3, l4] [.int s0] μ (zD170_48  s0 μ) := by
  intro s0 l0 l1 l2 l3 l4 μ hT
  unfold zD170_48
  exact zK_ret3z rfl hT
theorem zD170_47_ok {μ0 : xe_Mem} {δ : xe_Dy} {d : Nat} (hd : 0 ≤ d)  : ∀ (l0 : Option Value) (l1 : Option Value) (l2 : Option Value) (l3 : Option Value) (l4 : Option Value) (μ : xe_Mem), zT zPr μ0 μ → zK zPr μ0 δ d 170 47 [l0, l1, l2, l3, l4] [] μ (zD170_47  μ) := by
  intro l0 l1 l2 l3 l4 μ hT
  unfold zD170_47
  refine zK_op rfl rfl ?_
  exact zD170_48_ok hd 0 _ _ _ _ _ μ hT
theorem zD170_31_ok {μ0 : xe_Mem} {δ : xe_Dy} {d : Nat} (hd : 0 ≤ d) {c4 : Int32 → Int32 → Int32 → Int32 → xe_Mem → zO} (hc4 : ∀ (v1 : Int32) (v2 : Int32) (v3 : Int32) (v4 : Int32) (μ : xe_Mem), zT zPr μ0 μ → zK zPr μ0 δ d 170 4 [some (.ref 203), some (.int v1), some (.int v2), some (.int v3), some (.int v4)] [] μ (c4 v1 v2 v3 v4 μ)) : ∀ (v1 : Int32) (v2 : Int32) (v4 : Int32) (s0 : Int32) (l3 : Option Value) (μ : xe_Mem), zT zPr μ0 μ → zK zPr μ0 δ d 170 31 [some (.ref 203), some (.int v1), some (.int v2), l3, some (.int v4)] [.int s0] μ (zD170_31  c4 v1 v2 v4 s0 μ) := by
  intro v1 v2 v4 s0 l3 μ hT
  unfold zD170_31
  refine zK_op rfl rfl ?_
  refine zK_op rfl rfl ?_
  refine zK_op rfl rfl ?_
  exact hc4 v1 v2 s0 (v4 + (1)) μ hT
theorem zD170_30_ok {μ0 : xe_Mem} {δ : xe_Dy} {d : Nat} (hd : 0 ≤ d) {c4 : Int32 → Int32 → Int32 → Int32 → xe_Mem → zO} (hc4 : ∀ (v1 : Int32) (v2 : Int32) (v3 : Int32) (v4 : Int32) (μ : xe_Mem), zT zPr μ0 μ → zK zPr μ0 δ d 170 4 [some (.ref 203), some (.int v1), some (.int v2), some (.int v3), some (.int v4)] [] μ (c4 v1 v2 v3 v4 μ)) : ∀ (v1 : Int32) (v2 : Int32) (v4 : Int32) (l3 : Option Value) (μ : xe_Mem), zT zPr μ0 μ → zK zPr μ0 δ d 170 30 [some (.ref 203), some (.int v1), some (.int v2), l3, some (.int v4)] [] μ (zD170_30  c4 v1 v2 v4 μ) := by
  intro v1 v2 v4 l3 μ hT
  unfold zD170_30
  refine zK_op rfl rfl ?_
  exact zD170_31_ok hd hc4 v1 v2 v4 0 _ μ hT
theorem zD170_28_ok {μ0 : xe_Mem} {δ : xe_Dy} {d : Nat} (hd : 0 ≤ d) {c4 : Int32 → Int32 → Int32 → Int32 → xe_Mem → zO} (hc4 : ∀ (v1 : Int32) (v2 : Int32) (v3 : Int32) (v4 : Int32) (μ : xe_Mem), zT zPr μ0 μ → zK zPr μ0 δ d 170 4 [some (.ref 203), some (.int v1), some (.int v2), some (.int v3), some (.int v4)] [] μ (c4 v1 v2 v3 v4 μ)) : ∀ (v1 : Int32) (v2 : Int32) (v4 : Int32) (l3 : Option Value) (μ : xe_Mem), zT zPr μ0 μ → zK zPr μ0 δ d 170 28 [some (.ref 203), some (.int v1), some (.int v2), l3, some (.int v4)] [] μ (zD170_28  c4 v1 v2 v4 μ) := by
  intro v1 v2 v4 l3 μ hT
  unfold zD170_28
  refine zK_op rfl rfl ?_
  refine zK_op rfl rfl ?_
  exact zD170_31_ok hd hc4 v1 v2 v4 1 _ μ hT
theorem zD170_4_bok {μ0 : xe_Mem} {δ : xe_Dy} {d : Nat} (hd : 0 ≤ d)  {c4 : Int32 → Int32 → Int32 → Int32 → xe_Mem → zO} (hc4 : ∀ (v1 : Int32) (v2 : Int32) (v3 : Int32) (v4 : Int32) (μ : xe_Mem), zT zPr μ0 μ → zK zPr μ0 δ d 170 4 [some (.ref 203), some (.int v1), some (.int v2), some (.int v3), some (.int v4)] [] μ (c4 v1 v2 v3 v4 μ)) : ∀ (v1 : Int32) (v2 : Int32) (v3 : Int32) (v4 : Int32) (μ : xe_Mem), zT zPr μ0 μ → zK zPr μ0 δ d 170 4 [some (.ref 203), some (.int v1), some (.int v2), some (.int v3), some (.int v4)] [] μ (zD170_4_b  c4 v1 v2 v3 v4 μ) := by
  intro v1 v2 v3 v4 μ hT
  unfold zD170_4_b
  refine zK_op rfl rfl ?_
  refine zK_op rfl rfl ?_
  refine zK_gI rfl rfl hT ?_
  refine zK_icge rfl (fun _ => ?_) (fun _ => ?_)
  · refine zK_op rfl rfl ?_
    refine zK_ifeq rfl (fun _ => ?_) (fun _ => ?_)
    · exact zD170_47_ok hd _ _ _ _ _ μ hT
    refine zK_op rfl rfl ?_
    refine zK_gRl (b := 227) rfl rfl rfl hT ?_
    refine zK_op rfl rfl ?_
    refine zK_op rfl rfl ?_
    refine zK_op rfl rfl ?_
    refine zK_op rfl rfl ?_
    refine zK_op rfl rfl ?_
    refine zK_x (fun j1 h2 h3 h4 => ?_)
    refine zK_aI rfl rfl hT h2 h3 h4 ?_
    refine zK_ifeq rfl (fun _ => ?_) (fun _ => ?_)
    · exact zD170_47_ok hd _ _ _ _ _ μ hT
    refine zK_op rfl rfl ?_
    refine zK_op rfl rfl ?_
    exact zD170_48_ok hd 1 _ _ _ _ _ μ hT
  refine zK_op rfl rfl ?_
  refine zK_ifne rfl (fun _ => ?_) (fun _ => ?_)
  · refine zK_op rfl rfl ?_
    refine zK_gRl (b := 219) rfl rfl rfl hT ?_
    refine zK_op rfl rfl ?_
    refine zK_x (fun j5 h6 h7 h8 => ?_)
    refine zK_aI rfl rfl hT h6 h7 h8 ?_
    refine zK_op rfl rfl ?_
    refine zK_gRl (b := 219) rfl rfl rfl hT ?_
    refine zK_op rfl rfl ?_
    refine zK_x (fun j9 h10 h11 h12 => ?_)
    refine zK_aI rfl rfl hT h10 h11 h12 ?_
    refine zK_iceq rfl (fun _ => ?_) (fun _ => ?_)
    · exact zD170_30_ok hd hc4 v1 v2 v4 _ μ hT
    refine zK_op rfl rfl ?_
    refine zK_gRl (b := 226) rfl rfl rfl hT ?_
    refine zK_op rfl rfl ?_
    refine zK_op rfl rfl ?_
    refine zK_op rfl rfl ?_
    refine zK_op rfl rfl ?_
    refine zK_op rfl rfl ?_
    refine zK_x (fun j13 h14 h15 h16 => ?_)
    refine zK_aI rfl rfl hT h14 h15 h16 ?_
    refine zK_ifeq rfl (fun _ => ?_) (fun _ => ?_)
    · exact zD170_30_ok hd hc4 v1 v2 v4 _ μ hT
    exact zD170_28_ok hd hc4 v1 v2 v4 _ μ hT
  exact zD170_28_ok hd hc4 v1 v2 v4 _ μ hT
theorem zD170_4_ok {μ0 : xe_Mem} {δ : xe_Dy} {d : Nat} (hd : 0 ≤ d)  : ∀ n : Nat, ∀ (v1 : Int32) (v2 : Int32) (v3 : Int32) (v4 : Int32) (μ : xe_Mem), zT zPr μ0 μ → zK zPr μ0 δ d 170 4 [some (.ref 203), some (.int v1), some (.int v2), some (.int v3), some (.int v4)] [] μ (zD170_4  n v1 v2 v3 v4 μ) := by
  intro n
  induction n with
  | zero => exact fun _ _ _ _ _ _  => fun o μ' h => by cases h
  | succ n ih => exact zD170_4_bok hd   ih
theorem zD170_ok {μ0 : xe_Mem} {δ : xe_Dy} {d : Nat} (hd : 0 ≤ d) (a1 : Int32) (a2 : Int32) (μ : xe_Mem) (hT : zT zPr μ0 μ) : zK zPr μ0 δ d 170 0 (xe_init [.ref 203, .int a1, .int a2] (xM_L 170)) [] μ (zD170 a1 a2 μ) := by
  unfold zD170
  show zK zPr μ0 δ d 170 0 [some (.ref 203), some (.int a1), some (.int a2), none, none] [] μ _
  refine zK_op rfl rfl ?_
  refine zK_op rfl rfl ?_
  refine zK_op rfl rfl ?_
  refine zK_op rfl rfl ?_
  exact zD170_4_ok hd zfu a1 a2 0 0 μ hT
/-! 169 LogicalTimesModel.numberMessages()V -/
def zD169_69 (c41 : Int32 → Int32 → xe_Mem → zO) (v1 : Int32) (v2 : Int32) (s1 : Int32) (s2 : Int32) (s3 : Int32) (μ : xe_Mem) : zO := zq_x s1 24 fun j33 => zq_m (xe_setI μ 229 j33 (s2 + s3)) fun m37 => c41 v1 (v2 + (1)) m37
def zD169_41_b (c2 : Int32 → xe_Mem → zO) (c41 : Int32 → Int32 → xe_Mem → zO) (v1 : Int32) (v2 : Int32) (μ : xe_Mem) : zO := if v1 ≤ v2 then c2 (v1 + (1)) μ else zq_x v1 24 fun j13 => zq_x v2 24 fun j17 => zq_x v1 24 fun j21 => if (xe_I μ 218 j17) = (xe_I μ 218 j21) then zq_x v2 24 fun j25 => zq_x v2 24 fun j29 => zD169_69 c41 v1 v2 v1 (xe_I μ 229 j13) ((xe_I μ 220 j25) * (xe_I μ 228 j29)) μ else zD169_69 c41 v1 v2 v1 (xe_I μ 229 j13) 0 μ
def zD169_41  (c2 : Int32 → xe_Mem → zO) : Nat → Int32 → Int32 → xe_Mem → zO
  | 0 => fun _ _ _  => none
  | n + 1 => zD169_41_b  c2 (zD169_41  c2 n)
def zD169_30 (c13 : Int32 → Int32 → xe_Mem → zO) (v1 : Int32) (v2 : Int32) (s1 : Int32) (s2 : Int32) (s3 : Int32) (μ : xe_Mem) : zO := zq_x s1 24 fun j46 => zq_m (xe_setI μ 228 j46 (s2 + s3)) fun m50 => c13 v1 (v2 + (1)) m50
def zD169_13_b (c2 : Int32 → xe_Mem → zO) (c13 : Int32 → Int32 → xe_Mem → zO) (v1 : Int32) (v2 : Int32) (μ : xe_Mem) : zO := if (xe_I μ 203 12) ≤ v2 then zq_x v1 24 fun j7 => zq_m (xe_setI μ 229 j7 0) fun m11 => zD169_41 c2 zfu v1 0 m11 else zq_x v1 24 fun j39 => zq_cI (zD170 v1 v2 μ) fun x45 m43 => if x45 = 0 then zD169_30 c13 v1 v2 v1 (xe_I μ 228 j39) 0 m43 else zD169_30 c13 v1 v2 v1 (xe_I μ 228 j39) 1 m43
def zD169_13  (c2 : Int32 → xe_Mem → zO) : Nat → Int32 → Int32 → xe_Mem → zO
  | 0 => fun _ _ _  => none
  | n + 1 => zD169_13_b  c2 (zD169_13  c2 n)
def zD169_2_b (c2 : Int32 → xe_Mem → zO) (v1 : Int32) (μ : xe_Mem) : zO := if (xe_I μ 203 22) ≤ v1 then some (.inl none, μ) else zq_x v1 24 fun j1 => zq_m (xe_setI μ 228 j1 0) fun m5 => zD169_13 c2 zfu v1 0 m5
def zD169_2   : Nat → Int32 → xe_Mem → zO
  | 0 => fun _ _  => none
  | n + 1 => zD169_2_b   (zD169_2   n)
def zD169   (μ : xe_Mem) : zO := zD169_2 zfu 0 μ
theorem zD169_69_ok {μ0 : xe_Mem} {δ : xe_Dy} {d : Nat} (hd : 1 ≤ d) {c41 : Int32 → Int32 → xe_Mem → zO} (hc41 : ∀ (v1 : Int32) (v2 : Int32) (μ : xe_Mem), zT zPr μ0 μ → zK zPr μ0 δ d 169 41 [some (.ref 203), some (.int v1), some (.int v2)] [] μ (c41 v1 v2 μ)) : ∀ (v1 : Int32) (v2 : Int32) (s1 : Int32) (s2 : Int32) (s3 : Int32) (μ : xe_Mem), zT zPr μ0 μ → zK zPr μ0 δ d 169 69 [some (.ref 203), some (.int v1), some (.int v2)] [.int s3, .int s2, .int s1, .ref 229] μ (zD169_69  c41 v1 v2 s1 s2 s3 μ) := by
  intro v1 v2 s1 s2 s3 μ hT
  unfold zD169_69
  refine zK_op rfl rfl ?_
  refine zK_x (fun j33 h34 h35 h36 => ?_)
  refine zK_sI (a := 229) (g := (fun x => x)) rfl rfl hT h34 h35 h36 rfl (fun m37 T38 => ?_)
  refine zK_op rfl rfl ?_
  refine zK_op rfl rfl ?_
  exact hc41 v1 (v2 + (1)) m37 T38
theorem zD169_41_bok {μ0 : xe_Mem} {δ : xe_Dy} {d : Nat} (hd : 1 ≤ d) {c2 : Int32 → xe_Mem → zO} (hc2 : ∀ (v1 : Int32) (l2 : Option Value) (μ : xe_Mem), zT zPr μ0 μ → zK zPr μ0 δ d 169 2 [some (.ref 203), some (.int v1), l2] [] μ (c2 v1 μ)) {c41 : Int32 → Int32 → xe_Mem → zO} (hc41 : ∀ (v1 : Int32) (v2 : Int32) (μ : xe_Mem), zT zPr μ0 μ → zK zPr μ0 δ d 169 41 [some (.ref 203), some (.int v1), some (.int v2)] [] μ (c41 v1 v2 μ)) : ∀ (v1 : Int32) (v2 : Int32) (μ : xe_Mem), zT zPr μ0 μ → zK zPr μ0 δ d 169 41 [some (.ref 203), some (.int v1), some (.int v2)] [] μ (zD169_41_b  c2 c41 v1 v2 μ) := by
  intro v1 v2 μ hT
  unfold zD169_41_b
  refine zK_op rfl rfl ?_
  refine zK_op rfl rfl ?_
  refine zK_icge rfl (fun _ => ?_) (fun _ => ?_)
  · refine zK_op rfl rfl ?_
    refine zK_op rfl rfl ?_
    exact hc2 (v1 + (1)) _ μ hT
  refine zK_op rfl rfl ?_
  refine zK_gRl (b := 229) rfl rfl rfl hT ?_
  refine zK_op rfl rfl ?_
  refine zK_op rfl rfl ?_
  refine zK_x (fun j13 h14 h15 h16 => ?_)
  refine zK_aI rfl rfl hT h14 h15 h16 ?_
  refine zK_op rfl rfl ?_
  refine zK_gRl (b := 218) rfl rfl rfl hT ?_
  refine zK_op rfl rfl ?_
  refine zK_x (fun j17 h18 h19 h20 => ?_)
  refine zK_aI rfl rfl hT h18 h19 h20 ?_
  refine zK_op rfl rfl ?_
  refine zK_gRl (b := 218) rfl rfl rfl hT ?_
  refine zK_op rfl rfl ?_
  refine zK_x (fun j21 h22 h23 h24 => ?_)
  refine zK_aI rfl rfl hT h22 h23 h24 ?_
  refine zK_icne rfl (fun _ => ?_) (fun _ => ?_)
  · refine zK_op rfl rfl ?_
    refine zK_gRl (b := 220) rfl rfl rfl hT ?_
    refine zK_op rfl rfl ?_
    refine zK_x (fun j25 h26 h27 h28 => ?_)
    refine zK_aI rfl rfl hT h26 h27 h28 ?_
    refine zK_op rfl rfl ?_
    refine zK_gRl (b := 228) rfl rfl rfl hT ?_
    refine zK_op rfl rfl ?_
    refine zK_x (fun j29 h30 h31 h32 => ?_)
    refine zK_aI rfl rfl hT h30 h31 h32 ?_
    refine zK_op rfl rfl ?_
    refine zK_op rfl rfl ?_
    exact zD169_69_ok hd hc41 v1 v2 v1 (xe_I μ 229 j13) ((xe_I μ 220 j25) * (xe_I μ 228 j29)) μ hT
  refine zK_op rfl rfl ?_
  exact zD169_69_ok hd hc41 v1 v2 v1 (xe_I μ 229 j13) 0 μ hT
theorem zD169_41_ok {μ0 : xe_Mem} {δ : xe_Dy} {d : Nat} (hd : 1 ≤ d) {c2 : Int32 → xe_Mem → zO} (hc2 : ∀ (v1 : Int32) (l2 : Option Value) (μ : xe_Mem), zT zPr μ0 μ → zK zPr μ0 δ d 169 2 [some (.ref 203), some (.int v1), l2] [] μ (c2 v1 μ)) : ∀ n : Nat, ∀ (v1 : Int32) (v2 : Int32) (μ : xe_Mem), zT zPr μ0 μ → zK zPr μ0 δ d 169 41 [some (.ref 203), some (.int v1), some (.int v2)] [] μ (zD169_41  c2 n v1 v2 μ) := by
  intro n
  induction n with
  | zero => exact fun _ _ _ _  => fun o μ' h => by cases h
  | succ n ih => exact zD169_41_bok hd  hc2 ih
theorem zD169_30_ok {μ0 : xe_Mem} {δ : xe_Dy} {d : Nat} (hd : 1 ≤ d) {c13 : Int32 → Int32 → xe_Mem → zO} (hc13 : ∀ (v1 : Int32) (v2 : Int32) (μ : xe_Mem), zT zPr μ0 μ → zK zPr μ0 δ d 169 13 [some (.ref 203), some (.int v1), some (.int v2)] [] μ (c13 v1 v2 μ)) : ∀ (v1 : Int32) (v2 : Int32) (s1 : Int32) (s2 : Int32) (s3 : Int32) (μ : xe_Mem), zT zPr μ0 μ → zK zPr μ0 δ d 169 30 [some (.ref 203), some (.int v1), some (.int v2)] [.int s3, .int s2, .int s1, .ref 228] μ (zD169_30  c13 v1 v2 s1 s2 s3 μ) := by
  intro v1 v2 s1 s2 s3 μ hT
  unfold zD169_30
  refine zK_op rfl rfl ?_
  refine zK_x (fun j46 h47 h48 h49 => ?_)
  refine zK_sI (a := 228) (g := (fun x => x)) rfl rfl hT h47 h48 h49 rfl (fun m50 T51 => ?_)
  refine zK_op rfl rfl ?_
  refine zK_op rfl rfl ?_
  exact hc13 v1 (v2 + (1)) m50 T51
theorem zD169_13_bok {μ0 : xe_Mem} {δ : xe_Dy} {d : Nat} (hd : 1 ≤ d) {c2 : Int32 → xe_Mem → zO} (hc2 : ∀ (v1 : Int32) (l2 : Option Value) (μ : xe_Mem), zT zPr μ0 μ → zK zPr μ0 δ d 169 2 [some (.ref 203), some (.int v1), l2] [] μ (c2 v1 μ)) {c13 : Int32 → Int32 → xe_Mem → zO} (hc13 : ∀ (v1 : Int32) (v2 : Int32) (μ : xe_Mem), zT zPr μ0 μ → zK zPr μ0 δ d 169 13 [some (.ref 203), some (.int v1), some (.int v2)] [] μ (c13 v1 v2 μ)) : ∀ (v1 : Int32) (v2 : Int32) (μ : xe_Mem), zT zPr μ0 μ → zK zPr μ0 δ d 169 13 [some (.ref 203), some (.int v1), some (.int v2)] [] μ (zD169_13_b  c2 c13 v1 v2 μ) := by
  intro v1 v2 μ hT
  unfold zD169_13_b
  refine zK_op rfl rfl ?_
  refine zK_op rfl rfl ?_
  refine zK_gI rfl rfl hT ?_
  refine zK_icge rfl (fun _ => ?_) (fun _ => ?_)
  · refine zK_op rfl rfl ?_
    refine zK_gRl (b := 229) rfl rfl rfl hT ?_
    refine zK_op rfl rfl ?_
    refine zK_op rfl rfl ?_
    refine zK_x (fun j7 h8 h9 h10 => ?_)
    refine zK_sI (a := 229) (g := (fun x => x)) rfl rfl hT h8 h9 h10 rfl (fun m11 T12 => ?_)
    refine zK_op rfl rfl ?_
    refine zK_op rfl rfl ?_
    exact zD169_41_ok hd hc2 zfu v1 0 m11 T12
  refine zK_op rfl rfl ?_
  refine zK_gRl (b := 228) rfl rfl rfl hT ?_
  refine zK_op rfl rfl ?_
  refine zK_op rfl rfl ?_
  refine zK_x (fun j39 h40 h41 h42 => ?_)
  refine zK_aI rfl rfl hT h40 h41 h42 ?_
  refine zK_op rfl rfl ?_
  refine zK_op rfl rfl ?_
  refine zK_op rfl rfl ?_
  refine zK_cI rfl (as := [.ref 203, .int v1, .int v2]) (rest := [.int (xe_I μ 228 j39), .int v1, .ref 228]) rfl rfl (xe_rcvO (zT_sh hT rfl)) (Nat.le_of_ble_eq_true rfl) (Nat.le_of_ble_eq_true rfl) (by decide) (fun _ => rfl) (by omega) (zD170_ok (by omega) v1 v2 μ hT) (fun x45 m43 T44 => ?_)
  refine zK_ifeq rfl (fun _ => ?_) (fun _ => ?_)
  · refine zK_op rfl rfl ?_
    exact zD169_30_ok hd hc13 v1 v2 v1 (xe_I μ 228 j39) 0 m43 T44
  refine zK_op rfl rfl ?_
  refine zK_op rfl rfl ?_
  exact zD169_30_ok hd hc13 v1 v2 v1 (xe_I μ 228 j39) 1 m43 T44
theorem zD169_13_ok {μ0 : xe_Mem} {δ : xe_Dy} {d : Nat} (hd : 1 ≤ d) {c2 : Int32 → xe_Mem → zO} (hc2 : ∀ (v1 : Int32) (l2 : Option Value) (μ : xe_Mem), zT zPr μ0 μ → zK zPr μ0 δ d 169 2 [some (.ref 203), some (.int v1), l2] [] μ (c2 v1 μ)) : ∀ n : Nat, ∀ (v1 : Int32) (v2 : Int32) (μ : xe_Mem), zT zPr μ0 μ → zK zPr μ0 δ d 169 13 [some (.ref 203), some (.int v1), some (.int v2)] [] μ (zD169_13  c2 n v1 v2 μ) := by
  intro n
  induction n with
  | zero => exact fun _ _ _ _  => fun o μ' h => by cases h
  | succ n ih => exact zD169_13_bok hd  hc2 ih
theorem zD169_2_bok {μ0 : xe_Mem} {δ : xe_Dy} {d : Nat} (hd : 1 ≤ d)  {c2 : Int32 → xe_Mem → zO} (hc2 : ∀ (v1 : Int32) (l2 : Option Value) (μ : xe_Mem), zT zPr μ0 μ → zK zPr μ0 δ d 169 2 [some (.ref 203), some (.int v1), l2] [] μ (c2 v1 μ)) : ∀ (v1 : Int32) (l2 : Option Value) (μ : xe_Mem), zT zPr μ0 μ → zK zPr μ0 δ d 169 2 [some (.ref 203), some (.int v1), l2] [] μ (zD169_2_b  c2 v1 μ) := by
  intro v1 l2 μ hT
  unfold zD169_2_b
  refine zK_op rfl rfl ?_
  refine zK_op rfl rfl ?_
  refine zK_gI rfl rfl hT ?_
  refine zK_icge rfl (fun _ => ?_) (fun _ => ?_)
  · exact zK_ret0 rfl hT
  refine zK_op rfl rfl ?_
  refine zK_gRl (b := 228) rfl rfl rfl hT ?_
  refine zK_op rfl rfl ?_
  refine zK_op rfl rfl ?_
  refine zK_x (fun j1 h2 h3 h4 => ?_)
  refine zK_sI (a := 228) (g := (fun x => x)) rfl rfl hT h2 h3 h4 rfl (fun m5 T6 => ?_)
  refine zK_op rfl rfl ?_
  refine zK_op rfl rfl ?_
  exact zD169_13_ok hd hc2 zfu v1 0 m5 T6
theorem zD169_2_ok {μ0 : xe_Mem} {δ : xe_Dy} {d : Nat} (hd : 1 ≤ d)  : ∀ n : Nat, ∀ (v1 : Int32) (l2 : Option Value) (μ : xe_Mem), zT zPr μ0 μ → zK zPr μ0 δ d 169 2 [some (.ref 203), some (.int v1), l2] [] μ (zD169_2  n v1 μ) := by
  intro n
  induction n with
  | zero => exact fun _ _ _ _  => fun o μ' h => by cases h
  | succ n ih => exact zD169_2_bok hd   ih
theorem zD169_ok {μ0 : xe_Mem} {δ : xe_Dy} {d : Nat} (hd : 1 ≤ d) (μ : xe_Mem) (hT : zT zPr μ0 μ) : zK zPr μ0 δ d 169 0 (xe_init [.ref 203] (xM_L 169)) [] μ (zD169 μ) := by
  unfold zD169
  show zK zPr μ0 δ d 169 0 [some (.ref 203), none, none] [] μ _
  refine zK_op rfl rfl ?_
  refine zK_op rfl rfl ?_
  exact zD169_2_ok hd zfu 0 _ μ hT
/-! 173 LogicalTimesModel.endOf(II)I -/
def zD173  (a1 : Int32) (a2 : Int32) (μ : xe_Mem) : zO := zq_x a1 24 fun j1 => zq_d (xe_I μ 221 j1) <| zq_x a1 24 fun j6 => some (.inl (some (.int (((a2 / (xe_I μ 221 j1)) + 1) * (xe_I μ 221 j6)))), μ)
theorem zD173_ok {μ0 : xe_Mem} {δ : xe_Dy} {d : Nat} (hd : 0 ≤ d) (a1 : Int32) (a2 : Int32) (μ : xe_Mem) (hT : zT zPr μ0 μ) : zK zPr μ0 δ d 173 0 (xe_init [.ref 203, .int a1, .int a2] (xM_L 173)) [] μ (zD173 a1 a2 μ) := by
  unfold zD173
  show zK zPr μ0 δ d 173 0 [some (.ref 203), some (.int a1), some (.int a2)] [] μ _
  refine zK_op rfl rfl ?_
  refine zK_op rfl rfl ?_
  refine zK_gRl (b := 221) rfl rfl rfl hT ?_
  refine zK_op rfl rfl ?_
  refine zK_x (fun j1 h2 h3 h4 => ?_)
  refine zK_aI rfl rfl hT h2 h3 h4 ?_
  refine zK_dv (fun h5 => ?_)
  refine zK_i2d rfl h5 ?_
  refine zK_op rfl rfl ?_
  refine zK_op rfl rfl ?_
  refine zK_op rfl rfl ?_
  refine zK_gRl (b := 221) rfl rfl rfl hT ?_
  refine zK_op rfl rfl ?_
  refine zK_x (fun j6 h7 h8 h9 => ?_)
  refine zK_aI rfl rfl hT h7 h8 h9 ?_
  refine zK_op rfl rfl ?_
  exact zK_ret1 rfl hT
/-! 172 LogicalTimesModel.chosen(III)I -/
def zD172_44 (c4 : Int32 → Int32 → Int32 → Int32 → Int32 → xe_Mem → zO) (v1 : Int32) (v2 : Int32) (v3 : Int32) (v4 : Int32) (v5 : Int32) (μ : xe_Mem) : zO := c4 v1 v2 v3 v4 (v5 + (1)) μ
def zD172_42 (c4 : Int32 → Int32 → Int32 → Int32 → Int32 → xe_Mem → zO) (v1 : Int32) (v2 : Int32) (v3 : Int32) (v5 : Int32) (μ : xe_Mem) : zO := zD172_44 c4 v1 v2 v3 v5 v5 μ
def zD172_28 (c4 : Int32 → Int32 → Int32 → Int32 → Int32 → xe_Mem → zO) (v1 : Int32) (v2 : Int32) (v3 : Int32) (v4 : Int32) (v5 : Int32) (s0 : Int32) (μ : xe_Mem) : zO := if s0 = 0 then zD172_44 c4 v1 v2 v3 v4 v5 μ else if v4 < 0 then zD172_42 c4 v1 v2 v3 v5 μ else zq_cI (zD173 v5 v3 μ) fun x15 m13 => zq_cI (zD173 v4 v3 m13) fun x18 m16 => if x18 ≤ x15 then zD172_44 c4 v1 v2 v3 v4 v5 m16 else zD172_42 c4 v1 v2 v3 v5 m16
def zD172_27 (c4 : Int32 → Int32 → Int32 → Int32 → Int32 → xe_Mem → zO) (v1 : Int32) (v2 : Int32) (v3 : Int32) (v4 : Int32) (v5 : Int32) (μ : xe_Mem) : zO := zD172_28 c4 v1 v2 v3 v4 v5 0 μ
def zD172_4_b (c4 : Int32 → Int32 → Int32 → Int32 → Int32 → xe_Mem → zO) (v1 : Int32) (v2 : Int32) (v3 : Int32) (v4 : Int32) (v5 : Int32) (μ : xe_Mem) : zO := if (xe_I μ 203 22) ≤ v5 then some (.inl (some (.int v4)), μ) else zq_x v5 24 fun j1 => if (xe_I μ 218 j1) = v1 then zq_x v5 24 fun j5 => if (xe_I μ 219 j5) = v2 then zq_x v5 24 fun j9 => if (xe_I μ 259 j9) ≤ 0 then zD172_27 c4 v1 v2 v3 v4 v5 μ else zD172_28 c4 v1 v2 v3 v4 v5 1 μ else zD172_27 c4 v1 v2 v3 v4 v5 μ else zD172_27 c4 v1 v2 v3 v4 v5 μ
def zD172_4   : Nat → Int32 → Int32 → Int32 → Int32 → Int32 → xe_Mem → zO
  | 0 => fun _ _ _ _ _ _  => none
  | n + 1 => zD172_4_b   (zD172_4   n)
def zD172  (a1 : Int32) (a2 : Int32) (a3 : Int32) (μ : xe_Mem) : zO := zD172_4 zfu a1 a2 a3 ((-1)) 0 μ
theorem zD172_44_ok {μ0 : xe_Mem} {δ : xe_Dy} {d : Nat} (hd : 1 ≤ d) {c4 : Int32 → Int32 → Int32 → Int32 → Int32 → xe_Mem → zO} (hc4 : ∀ (v1 : Int32) (v2 : Int32) (v3 : Int32) (v4 : Int32) (v5 : Int32) (l6 : Option Value) (μ : xe_Mem), zT zPr μ0 μ → zK zPr μ0 δ d 172 4 [some (.ref 203), some (.int v1), some (.int v2), some (.int v3), some (.int v4), some (.int v5), l6] [] μ (c4 v1 v2 v3 v4 v5 μ)) : ∀ (v1 : Int32) (v2 : Int32) (v3 : Int32) (v4 : Int32) (v5 : Int32) (l6 : Option Value) (μ : xe_Mem), zT zPr μ0 μ → zK zPr μ0 δ d 172 44 [some (.ref 203), some (.int v1), some (.int v2), some (.int v3), some (.int v4), some (.int v5), l6] [] μ (zD172_44  c4 v1 v2 v3 v4 v5 μ) := by
  intro v1 v2 v3 v4 v5 l6 μ hT
  unfold zD172_44
  refine zK_op rfl rfl ?_
  refine zK_op rfl rfl ?_
  exact hc4 v1 v2 v3 v4 (v5 + (1)) _ μ hT
theorem zD172_42_ok {μ0 : xe_Mem} {δ : xe_Dy} {d : Nat} (hd : 1 ≤ d) {c4 : Int32 → Int32 → Int32 → Int32 → Int32 → xe_Mem → zO} (hc4 : ∀ (v1 : Int32) (v2 : Int32) (v3 : Int32) (v4 : Int32) (v5 : Int32) (l6 : Option Value) (μ : xe_Mem), zT zPr μ0 μ → zK zPr μ0 δ d 172 4 [some (.ref 203), some (.int v1), some (.int v2), some (.int v3), some (.int v4), some (.int v5), l6] [] μ (c4 v1 v2 v3 v4 v5 μ)) : ∀ (v1 : Int32) (v2 : Int32) (v3 : Int32) (v5 : Int32) (l4 : Option Value) (l6 : Option Value) (μ : xe_Mem), zT zPr μ0 μ → zK zPr μ0 δ d 172 42 [some (.ref 203), some (.int v1), some (.int v2), some (.int v3), l4, some (.int v5), l6] [] μ (zD172_42  c4 v1 v2 v3 v5 μ) := by
  intro v1 v2 v3 v5 l4 l6 μ hT
  unfold zD172_42
  refine zK_op rfl rfl ?_
  refine zK_op rfl rfl ?_
  exact zD172_44_ok hd hc4 v1 v2 v3 v5 v5 _ μ hT
theorem zD172_28_ok {μ0 : xe_Mem} {δ : xe_Dy} {d : Nat} (hd : 1 ≤ d) {c4 : Int32 → Int32 → Int32 → Int32 → Int32 → xe_Mem → zO} (hc4 : ∀ (v1 : Int32) (v2 : Int32) (v3 : Int32) (v4 : Int32) (v5 : Int32) (l6 : Option Value) (μ : xe_Mem), zT zPr μ0 μ → zK zPr μ0 δ d 172 4 [some (.ref 203), some (.int v1), some (.int v2), some (.int v3), some (.int v4), some (.int v5), l6] [] μ (c4 v1 v2 v3 v4 v5 μ)) : ∀ (v1 : Int32) (v2 : Int32) (v3 : Int32) (v4 : Int32) (v5 : Int32) (s0 : Int32) (l6 : Option Value) (μ : xe_Mem), zT zPr μ0 μ → zK zPr μ0 δ d 172 28 [some (.ref 203), some (.int v1), some (.int v2), some (.int v3), some (.int v4), some (.int v5), l6] [.int s0] μ (zD172_28  c4 v1 v2 v3 v4 v5 s0 μ) := by
  intro v1 v2 v3 v4 v5 s0 l6 μ hT
  unfold zD172_28
  refine zK_op rfl rfl ?_
  refine zK_op rfl rfl ?_
  refine zK_ifeq rfl (fun _ => ?_) (fun _ => ?_)
  · exact zD172_44_ok hd hc4 v1 v2 v3 v4 v5 _ μ hT
  refine zK_op rfl rfl ?_
  refine zK_iflt rfl (fun _ => ?_) (fun _ => ?_)
  · exact zD172_42_ok hd hc4 v1 v2 v3 v5 _ _ μ hT
  refine zK_op rfl rfl ?_
  refine zK_op rfl rfl ?_
  refine zK_op rfl rfl ?_
  refine zK_cI rfl (as := [.ref 203, .int v5, .int v3]) (rest := []) rfl rfl (xe_rcvO (zT_sh hT rfl)) (Nat.le_of_ble_eq_true rfl) (Nat.le_of_ble_eq_true rfl) (by decide) (fun _ => rfl) (by omega) (zD173_ok (by omega) v5 v3 μ hT) (fun x15 m13 T14 => ?_)
  refine zK_op rfl rfl ?_
  refine zK_op rfl rfl ?_
  refine zK_op rfl rfl ?_
  refine zK_cI rfl (as := [.ref 203, .int v4, .int v3]) (rest := [.int x15]) rfl rfl (xe_rcvO (zT_sh T14 rfl)) (Nat.le_of_ble_eq_true rfl) (Nat.le_of_ble_eq_true rfl) (by decide) (fun _ => rfl) (by omega) (zD173_ok (by omega) v4 v3 m13 T14) (fun x18 m16 T17 => ?_)
  refine zK_icge rfl (fun _ => ?_) (fun _ => ?_)
  · exact zD172_44_ok hd hc4 v1 v2 v3 v4 v5 _ m16 T17
  exact zD172_42_ok hd hc4 v1 v2 v3 v5 _ _ m16 T17
theorem zD172_27_ok {μ0 : xe_Mem} {δ : xe_Dy} {d : Nat} (hd : 1 ≤ d) {c4 : Int32 → Int32 → Int32 → Int32 → Int32 → xe_Mem → zO} (hc4 : ∀ (v1 : Int32) (v2 : Int32) (v3 : Int32) (v4 : Int32) (v5 : Int32) (l6 : Option Value) (μ : xe_Mem), zT zPr μ0 μ → zK zPr μ0 δ d 172 4 [some (.ref 203), some (.int v1), some (.int v2), some (.int v3), some (.int v4), some (.int v5), l6] [] μ (c4 v1 v2 v3 v4 v5 μ)) : ∀ (v1 : Int32) (v2 : Int32) (v3 : Int32) (v4 : Int32) (v5 : Int32) (l6 : Option Value) (μ : xe_Mem), zT zPr μ0 μ → zK zPr μ0 δ d 172 27 [some (.ref 203), some (.int v1), some (.int v2), some (.int v3), some (.int v4), some (.int v5), l6] [] μ (zD172_27  c4 v1 v2 v3 v4 v5 μ) := by
  intro v1 v2 v3 v4 v5 l6 μ hT
  unfold zD172_27
  refine zK_op rfl rfl ?_
  exact zD172_28_ok hd hc4 v1 v2 v3 v4 v5 0 _ μ hT
theorem zD172_4_bok {μ0 : xe_Mem} {δ : xe_Dy} {d : Nat} (hd : 1 ≤ d)  {c4 : Int32 → Int32 → Int32 → Int32 → Int32 → xe_Mem → zO} (hc4 : ∀ (v1 : Int32) (v2 : Int32) (v3 : Int32) (v4 : Int32) (v5 : Int32) (l6 : Option Value) (μ : xe_Mem), zT zPr μ0 μ → zK zPr μ0 δ d 172 4 [some (.ref 203), some (.int v1), some (.int v2), some (.int v3), some (.int v4), some (.int v5), l6] [] μ (c4 v1 v2 v3 v4 v5 μ)) : ∀ (v1 : Int32) (v2 : Int32) (v3 : Int32) (v4 : Int32) (v5 : Int32) (l6 : Option Value) (μ : xe_Mem), zT zPr μ0 μ → zK zPr μ0 δ d 172 4 [some (.ref 203), some (.int v1), some (.int v2), some (.int v3), some (.int v4), some (.int v5), l6] [] μ (zD172_4_b  c4 v1 v2 v3 v4 v5 μ) := by
  intro v1 v2 v3 v4 v5 l6 μ hT
  unfold zD172_4_b
  refine zK_op rfl rfl ?_
  refine zK_op rfl rfl ?_
  refine zK_gI rfl rfl hT ?_
  refine zK_icge rfl (fun _ => ?_) (fun _ => ?_)
  · refine zK_op rfl rfl ?_
    exact zK_ret1 rfl hT
  refine zK_op rfl rfl ?_
  refine zK_gRl (b := 218) rfl rfl rfl hT ?_
  refine zK_op rfl rfl ?_
  refine zK_x (fun j1 h2 h3 h4 => ?_)
  refine zK_aI rfl rfl hT h2 h3 h4 ?_
  refine zK_op rfl rfl ?_
  refine zK_icne rfl (fun _ => ?_) (fun _ => ?_)
  · refine zK_op rfl rfl ?_
    refine zK_gRl (b := 219) rfl rfl rfl hT ?_
    refine zK_op rfl rfl ?_
    refine zK_x (fun j5 h6 h7 h8 => ?_)
    refine zK_aI rfl rfl hT h6 h7 h8 ?_
    refine zK_op rfl rfl ?_
    refine zK_icne rfl (fun _ => ?_) (fun _ => ?_)
    · refine zK_op rfl rfl ?_
      refine zK_gRl (b := 259) rfl rfl rfl hT ?_
      refine zK_op rfl rfl ?_
      refine zK_x (fun j9 h10 h11 h12 => ?_)
      refine zK_aI rfl rfl hT h10 h11 h12 ?_
      refine zK_ifle rfl (fun _ => ?_) (fun _ => ?_)
      · exact zD172_27_ok hd hc4 v1 v2 v3 v4 v5 _ μ hT
      refine zK_op rfl rfl ?_
      refine zK_op rfl rfl ?_
      exact zD172_28_ok hd hc4 v1 v2 v3 v4 v5 1 _ μ hT
    exact zD172_27_ok hd hc4 v1 v2 v3 v4 v5 _ μ hT
  exact zD172_27_ok hd hc4 v1 v2 v3 v4 v5 _ μ hT
theorem zD172_4_ok {μ0 : xe_Mem} {δ : xe_Dy} {d : Nat} (hd : 1 ≤ d)  : ∀ n : Nat, ∀ (v1 : Int32) (v2 : Int32) (v3 : Int32) (v4 : Int32) (v5 : Int32) (l6 : Option Value) (μ : xe_Mem), zT zPr μ0 μ → zK zPr μ0 δ d 172 4 [some (.ref 203), some (.int v1), some (.int v2), some (.int v3), some (.int v4), some (.int v5), l6] [] μ (zD172_4  n v1 v2 v3 v4 v5 μ) := by
  intro n
  induction n with
  | zero => exact fun _ _ _ _ _ _ _ _  => fun o μ' h => by cases h
  | succ n ih => exact zD172_4_bok hd   ih
theorem zD172_ok {μ0 : xe_Mem} {δ : xe_Dy} {d : Nat} (hd : 1 ≤ d) (a1 : Int32) (a2 : Int32) (a3 : Int32) (μ : xe_Mem) (hT : zT zPr μ0 μ) : zK zPr μ0 δ d 172 0 (xe_init [.ref 203, .int a1, .int a2, .int a3] (xM_L 172)) [] μ (zD172 a1 a2 a3 μ) := by
  unfold zD172
  show zK zPr μ0 δ d 172 0 [some (.ref 203), some (.int a1), some (.int a2), some (.int a3), none, none, none] [] μ _
  refine zK_op rfl rfl ?_
  refine zK_op rfl rfl ?_
  refine zK_op rfl rfl ?_
  refine zK_op rfl rfl ?_
  exact zD172_4_ok hd zfu a1 a2 a3 ((-1)) 0 _ μ hT
/-! 174 LogicalTimesModel.reckonSpare(I)V -/
def zD174_52 (c7 : Int32 → Int32 → xe_Mem → zO) (v1 : Int32) (v2 : Int32) (s1 : Int32) (s2 : Int32) (μ : xe_Mem) : zO := zq_x s1 24 fun j28 => zq_m (xe_setI μ 225 j28 s2) fun m32 => c7 v1 (v2 + (1)) m32
def zD174_36 (c7 : Int32 → Int32 → xe_Mem → zO) (v1 : Int32) (v2 : Int32) (v3 : Int32) (s0 : Int32) (μ : xe_Mem) : zO := zq_x v1 24 fun j20 => if (xe_I μ 225 j20) ≤ s0 then zq_x v1 24 fun j24 => zD174_52 c7 v1 v2 v1 (xe_I μ 225 j24) μ else zD174_52 c7 v1 v2 v1 s0 μ
def zD174_7_b (c7 : Int32 → Int32 → xe_Mem → zO) (v1 : Int32) (v2 : Int32) (μ : xe_Mem) : zO := zq_x v1 24 fun j7 => if (xe_I μ 220 j7) ≤ v2 then some (.inl none, μ) else zq_x ((120 * v1) + v2) 2880 fun j11 => zq_vI (xe_I μ 230 j11) fun x15 => if 0 ≤ x15 then zq_x v1 24 fun j16 => zD174_36 c7 v1 v2 x15 (((v2 + 1) * (xe_I μ 221 j16)) - x15) μ else zD174_36 c7 v1 v2 x15 ((-1)) μ
def zD174_7   : Nat → Int32 → Int32 → xe_Mem → zO
  | 0 => fun _ _ _  => none
  | n + 1 => zD174_7_b   (zD174_7   n)
def zD174  (a1 : Int32) (μ : xe_Mem) : zO := zq_x a1 24 fun j1 => zq_m (xe_setI μ 225 j1 1000) fun m5 => zD174_7 zfu a1 0 m5
theorem zD174_52_ok {μ0 : xe_Mem} {δ : xe_Dy} {d : Nat} (hd : 0 ≤ d) {c7 : Int32 → Int32 → xe_Mem → zO} (hc7 : ∀ (v1 : Int32) (v2 : Int32) (l3 : Option Value) (l4 : Option Value) (μ : xe_Mem), zT zPr μ0 μ → zK zPr μ0 δ d 174 7 [some (.ref 203), some (.int v1), some (.int v2), l3, l4] [] μ (c7 v1 v2 μ)) : ∀ (v1 : Int32) (v2 : Int32) (s1 : Int32) (s2 : Int32) (l3 : Option Value) (l4 : Option Value) (μ : xe_Mem), zT zPr μ0 μ → zK zPr μ0 δ d 174 52 [some (.ref 203), some (.int v1), some (.int v2), l3, l4] [.int s2, .int s1, .ref 225] μ (zD174_52  c7 v1 v2 s1 s2 μ) := by
  intro v1 v2 s1 s2 l3 l4 μ hT
  unfold zD174_52
  refine zK_x (fun j28 h29 h30 h31 => ?_)
  refine zK_sI (a := 225) (g := (fun x => x)) rfl rfl hT h29 h30 h31 rfl (fun m32 T33 => ?_)
  refine zK_op rfl rfl ?_
  refine zK_op rfl rfl ?_
  exact hc7 v1 (v2 + (1)) _ _ m32 T33
theorem zD174_36_ok {μ0 : xe_Mem} {δ : xe_Dy} {d : Nat} (hd : 0 ≤ d) {c7 : Int32 → Int32 → xe_Mem → zO} (hc7 : ∀ (v1 : Int32) (v2 : Int32) (l3 : Option Value) (l4 : Option Value) (μ : xe_Mem), zT zPr μ0 μ → zK zPr μ0 δ d 174 7 [some (.ref 203), some (.int v1), some (.int v2), l3, l4] [] μ (c7 v1 v2 μ)) : ∀ (v1 : Int32) (v2 : Int32) (v3 : Int32) (s0 : Int32) (l4 : Option Value) (μ : xe_Mem), zT zPr μ0 μ → zK zPr μ0 δ d 174 36 [some (.ref 203), some (.int v1), some (.int v2), some (.int v3), l4] [.int s0] μ (zD174_36  c7 v1 v2 v3 s0 μ) := by
  intro v1 v2 v3 s0 l4 μ hT
  unfold zD174_36
  refine zK_op rfl rfl ?_
  refine zK_op rfl rfl ?_
  refine zK_gRl (b := 225) rfl rfl rfl hT ?_
  refine zK_op rfl rfl ?_
  refine zK_op rfl rfl ?_
  refine zK_op rfl rfl ?_
  refine zK_gRl (b := 225) rfl rfl rfl hT ?_
  refine zK_op rfl rfl ?_
  refine zK_x (fun j20 h21 h22 h23 => ?_)
  refine zK_aI rfl rfl hT h21 h22 h23 ?_
  refine zK_icge rfl (fun _ => ?_) (fun _ => ?_)
  · refine zK_op rfl rfl ?_
    refine zK_gRl (b := 225) rfl rfl rfl hT ?_
    refine zK_op rfl rfl ?_
    refine zK_x (fun j24 h25 h26 h27 => ?_)
    refine zK_aI rfl rfl hT h25 h26 h27 ?_
    exact zD174_52_ok hd hc7 v1 v2 v1 (xe_I μ 225 j24) _ _ μ hT
  refine zK_op rfl rfl ?_
  refine zK_op rfl rfl ?_
  exact zD174_52_ok hd hc7 v1 v2 v1 s0 _ _ μ hT
theorem zD174_7_bok {μ0 : xe_Mem} {δ : xe_Dy} {d : Nat} (hd : 0 ≤ d)  {c7 : Int32 → Int32 → xe_Mem → zO} (hc7 : ∀ (v1 : Int32) (v2 : Int32) (l3 : Option Value) (l4 : Option Value) (μ : xe_Mem), zT zPr μ0 μ → zK zPr μ0 δ d 174 7 [some (.ref 203), some (.int v1), some (.int v2), l3, l4] [] μ (c7 v1 v2 μ)) : ∀ (v1 : Int32) (v2 : Int32) (l3 : Option Value) (l4 : Option Value) (μ : xe_Mem), zT zPr μ0 μ → zK zPr μ0 δ d 174 7 [some (.ref 203), some (.int v1), some (.int v2), l3, l4] [] μ (zD174_7_b  c7 v1 v2 μ) := by
  intro v1 v2 l3 l4 μ hT
  unfold zD174_7_b
  refine zK_op rfl rfl ?_
  refine zK_op rfl rfl ?_
  refine zK_gRl (b := 220) rfl rfl rfl hT ?_
  refine zK_op rfl rfl ?_
  refine zK_x (fun j7 h8 h9 h10 => ?_)
  refine zK_aI rfl rfl hT h8 h9 h10 ?_
  refine zK_icge rfl (fun _ => ?_) (fun _ => ?_)
  · exact zK_ret0 rfl hT
  refine zK_op rfl rfl ?_
  refine zK_gRl (b := 230) rfl rfl rfl hT ?_
  refine zK_op rfl rfl ?_
  refine zK_op rfl rfl ?_
  refine zK_op rfl rfl ?_
  refine zK_op rfl rfl ?_
  refine zK_op rfl rfl ?_
  refine zK_x (fun j11 h12 h13 h14 => ?_)
  refine zK_aI rfl rfl hT h12 h13 h14 ?_
  refine zK_vI (fun x15 => ?_)
  refine zK_op rfl rfl ?_
  refine zK_op rfl rfl ?_
  refine zK_ifge rfl (fun _ => ?_) (fun _ => ?_)
  · refine zK_op rfl rfl ?_
    refine zK_op rfl rfl ?_
    refine zK_op rfl rfl ?_
    refine zK_op rfl rfl ?_
    refine zK_gRl (b := 221) rfl rfl rfl hT ?_
    refine zK_op rfl rfl ?_
    refine zK_x (fun j16 h17 h18 h19 => ?_)
    refine zK_aI rfl rfl hT h17 h18 h19 ?_
    refine zK_op rfl rfl ?_
    refine zK_op rfl rfl ?_
    refine zK_op rfl rfl ?_
    exact zD174_36_ok hd hc7 v1 v2 x15 (((v2 + 1) * (xe_I μ 221 j16)) - x15) _ μ hT
  refine zK_op rfl rfl ?_
  refine zK_op rfl rfl ?_
  exact zD174_36_ok hd hc7 v1 v2 x15 ((-1)) _ μ hT
theorem zD174_7_ok {μ0 : xe_Mem} {δ : xe_Dy} {d : Nat} (hd : 0 ≤ d)  : ∀ n : Nat, ∀ (v1 : Int32) (v2 : Int32) (l3 : Option Value) (l4 : Option Value) (μ : xe_Mem), zT zPr μ0 μ → zK zPr μ0 δ d 174 7 [some (.ref 203), some (.int v1), some (.int v2), l3, l4] [] μ (zD174_7  n v1 v2 μ) := by
  intro n
  induction n with
  | zero => exact fun _ _ _ _ _ _  => fun o μ' h => by cases h
  | succ n ih => exact zD174_7_bok hd   ih
theorem zD174_ok {μ0 : xe_Mem} {δ : xe_Dy} {d : Nat} (hd : 0 ≤ d) (a1 : Int32) (μ : xe_Mem) (hT : zT zPr μ0 μ) : zK zPr μ0 δ d 174 0 (xe_init [.ref 203, .int a1] (xM_L 174)) [] μ (zD174 a1 μ) := by
  unfold zD174
  show zK zPr μ0 δ d 174 0 [some (.ref 203), some (.int a1), none, none, none] [] μ _
  refine zK_op rfl rfl ?_
  refine zK_gRl (b := 225) rfl rfl rfl hT ?_
  refine zK_op rfl rfl ?_
  refine zK_op rfl rfl ?_
  refine zK_x (fun j1 h2 h3 h4 => ?_)
  refine zK_sI (a := 225) (g := (fun x => x)) rfl rfl hT h2 h3 h4 rfl (fun m5 T6 => ?_)
  refine zK_op rfl rfl ?_
  refine zK_op rfl rfl ?_
  exact zD174_7_ok hd zfu a1 0 _ _ m5 T6
