/-! methods as functions (by wip/whole/gen/dec.py) -/
/-! 177 LogicalTimesModel.reset(I)V -/
def zD177_100_b (c100 : Int32 → Int32 → xe_Mem → zO) (v1 : Int32) (v2 : Int32) (μ : xe_Mem) : zO := if 24 ≤ v2 then some (.inl none, μ) else zq_x v2 24 fun j22 => zq_m (xe_setI μ 259 j22 0) fun m26 => zq_x v2 24 fun j28 => zq_m (xe_setI m26 260 j28 ((-1))) fun m32 => c100 v1 (v2 + (1)) m32
def zD177_100   : Nat → Int32 → Int32 → xe_Mem → zO
  | 0 => fun _ _ _  => none
  | n + 1 => zD177_100_b   (zD177_100   n)
def zD177_83_b (c83 : Int32 → Int32 → xe_Mem → zO) (v1 : Int32) (v2 : Int32) (μ : xe_Mem) : zO := if 4 ≤ v2 then zD177_100 zfu v1 0 μ else zq_x v2 4 fun j34 => zq_m (xe_setI μ 257 j34 0) fun m38 => zq_x v2 4 fun j40 => zq_m (xe_setI m38 258 j40 ((-1))) fun m44 => c83 v1 (v2 + (1)) m44
def zD177_83   : Nat → Int32 → Int32 → xe_Mem → zO
  | 0 => fun _ _ _  => none
  | n + 1 => zD177_83_b   (zD177_83   n)
def zD177_66_b (c66 : Int32 → Int32 → xe_Mem → zO) (v1 : Int32) (v2 : Int32) (μ : xe_Mem) : zO := if 48 ≤ v2 then zD177_83 zfu v1 0 μ else zq_x (v2 - v2 / 12 * 12) 12 fun j46 => zq_x v2 48 fun j50 => zq_m (xe_setI μ 256 j50 (xe_I μ 255 j46)) fun m54 => c66 v1 (v2 + (1)) m54
def zD177_66   : Nat → Int32 → Int32 → xe_Mem → zO
  | 0 => fun _ _ _  => none
  | n + 1 => zD177_66_b   (zD177_66   n)
def zD177_61 (c45 : Int32 → Int32 → xe_Mem → zO) (v1 : Int32) (v2 : Int32) (s1 : Int32) (s2 : Int32) (μ : xe_Mem) : zO := zq_x s1 12 fun j56 => zq_m (xe_setI μ 255 j56 s2) fun m60 => c45 v1 (v2 + (1)) m60
def zD177_45_b (c45 : Int32 → Int32 → xe_Mem → zO) (v1 : Int32) (v2 : Int32) (μ : xe_Mem) : zO := if 12 ≤ v2 then zD177_66 zfu v1 0 μ else if (xe_I μ 203 12) ≤ v2 then zD177_61 c45 v1 v2 v2 0 μ else zq_x v2 12 fun j62 => zD177_61 c45 v1 v2 v2 (xe_I μ 211 j62) μ
def zD177_45   : Nat → Int32 → Int32 → xe_Mem → zO
  | 0 => fun _ _ _  => none
  | n + 1 => zD177_45_b   (zD177_45   n)
def zD177_14 (v1 : Int32) (s1 : Int32) (μ : xe_Mem) : zO := zq_m (xe_setI μ 203 0 s1) fun m4 => if (xe_I m4 203 0) ≤ 0 then zq_m (xe_setI m4 203 70 1) fun m6 => zq_m (xe_setI m6 203 71 v1) fun m8 => zq_m (xe_setI m8 203 72 0) fun m10 => zq_m (xe_setI m10 203 73 0) fun m12 => zq_m (xe_setI m12 203 74 0) fun m14 => zq_m (xe_setI m14 203 75 ((-1))) fun m16 => zq_m (xe_setI m16 203 76 0) fun m18 => zq_m (xe_setI m18 203 77 0) fun m20 => zD177_45 zfu v1 0 m20 else some (.inl none, m4)
def zD177  (a1 : Int32) (μ : xe_Mem) : zO := zq_cI (zD132 a1.toInt64 0 (((xe_I μ 203 17) - 1).toInt64) μ) fun x3 m1 => if x3 = 0 then zD177_14 a1 1 m1 else zD177_14 a1 0 m1
theorem zD177_100_bok {μ0 : xe_Mem} {δ : xe_Dy} {d : Nat} (hd : 1 ≤ d)  {c100 : Int32 → Int32 → xe_Mem → zO} (hc100 : ∀ (v1 : Int32) (v2 : Int32) (μ : xe_Mem), zT zPr μ0 μ → zK zPr μ0 δ d 177 100 [some (.ref 203), some (.int v1), some (.int v2)] [] μ (c100 v1 v2 μ)) : ∀ (v1 : Int32) (v2 : Int32) (μ : xe_Mem), zT zPr μ0 μ → zK zPr μ0 δ d 177 100 [some (.ref 203), some (.int v1), some (.int v2)] [] μ (zD177_100_b  c100 v1 v2 μ) := by
  intro v1 v2 μ hT
  unfold zD177_100_b
  refine zK_op rfl rfl ?_
  refine zK_op rfl rfl ?_
  refine zK_icge rfl (fun _ => ?_) (fun _ => ?_)
  · exact zK_ret0 rfl hT
  refine zK_op rfl rfl ?_
  refine zK_gRl (b := 259) rfl rfl rfl hT ?_
  refine zK_op rfl rfl ?_
  refine zK_op rfl rfl ?_
  refine zK_x (fun j22 h23 h24 h25 => ?_)
  refine zK_sI (a := 259) (g := (fun x => x)) rfl rfl hT h23 h24 h25 rfl (fun m26 T27 => ?_)
  refine zK_op rfl rfl ?_
  refine zK_gRl (b := 260) rfl rfl rfl T27 ?_
  refine zK_op rfl rfl ?_
  refine zK_op rfl rfl ?_
  refine zK_x (fun j28 h29 h30 h31 => ?_)
  refine zK_sI (a := 260) (g := (fun x => x)) rfl rfl T27 h29 h30 h31 rfl (fun m32 T33 => ?_)
  refine zK_op rfl rfl ?_
  refine zK_op rfl rfl ?_
  exact hc100 v1 (v2 + (1)) m32 T33
theorem zD177_100_ok {μ0 : xe_Mem} {δ : xe_Dy} {d : Nat} (hd : 1 ≤ d)  : ∀ n : Nat, ∀ (v1 : Int32) (v2 : Int32) (μ : xe_Mem), zT zPr μ0 μ → zK zPr μ0 δ d 177 100 [some (.ref 203), some (.int v1), some (.int v2)] [] μ (zD177_100  n v1 v2 μ) := by
  intro n
  induction n with
  | zero => exact fun _ _ _ _  => fun o μ' h => by cases h
  | succ n ih => exact zD177_100_bok hd   ih
theorem zD177_83_bok {μ0 : xe_Mem} {δ : xe_Dy} {d : Nat} (hd : 1 ≤ d)  {c83 : Int32 → Int32 → xe_Mem → zO} (hc83 : ∀ (v1 : Int32) (v2 : Int32) (μ : xe_Mem), zT zPr μ0 μ → zK zPr μ0 δ d 177 83 [some (.ref 203), some (.int v1), some (.int v2)] [] μ (c83 v1 v2 μ)) : ∀ (v1 : Int32) (v2 : Int32) (μ : xe_Mem), zT zPr μ0 μ → zK zPr μ0 δ d 177 83 [some (.ref 203), some (.int v1), some (.int v2)] [] μ (zD177_83_b  c83 v1 v2 μ) := by
  intro v1 v2 μ hT
  unfold zD177_83_b
  refine zK_op rfl rfl ?_
  refine zK_op rfl rfl ?_
  refine zK_icge rfl (fun _ => ?_) (fun _ => ?_)
  · refine zK_op rfl rfl ?_
    refine zK_op rfl rfl ?_
    exact zD177_100_ok hd zfu v1 0 μ hT
  refine zK_op rfl rfl ?_
  refine zK_gRl (b := 257) rfl rfl rfl hT ?_
  refine zK_op rfl rfl ?_
  refine zK_op rfl rfl ?_
  refine zK_x (fun j34 h35 h36 h37 => ?_)
  refine zK_sI (a := 257) (g := (fun x => x)) rfl rfl hT h35 h36 h37 rfl (fun m38 T39 => ?_)
  refine zK_op rfl rfl ?_
  refine zK_gRl (b := 258) rfl rfl rfl T39 ?_
  refine zK_op rfl rfl ?_
  refine zK_op rfl rfl ?_
  refine zK_x (fun j40 h41 h42 h43 => ?_)
  refine zK_sI (a := 258) (g := (fun x => x)) rfl rfl T39 h41 h42 h43 rfl (fun m44 T45 => ?_)
  refine zK_op rfl rfl ?_
  refine zK_op rfl rfl ?_
  exact hc83 v1 (v2 + (1)) m44 T45
theorem zD177_83_ok {μ0 : xe_Mem} {δ : xe_Dy} {d : Nat} (hd : 1 ≤ d)  : ∀ n : Nat, ∀ (v1 : Int32) (v2 : Int32) (μ : xe_Mem), zT zPr μ0 μ → zK zPr μ0 δ d 177 83 [some (.ref 203), some (.int v1), some (.int v2)] [] μ (zD177_83  n v1 v2 μ) := by
  intro n
  induction n with
  | zero => exact fun _ _ _ _  => fun o μ' h => by cases h
  | succ n ih => exact zD177_83_bok hd   ih
theorem zD177_66_bok {μ0 : xe_Mem} {δ : xe_Dy} {d : Nat} (hd : 1 ≤ d)  {c66 : Int32 → Int32 → xe_Mem → zO} (hc66 : ∀ (v1 : Int32) (v2 : Int32) (μ : xe_Mem), zT zPr μ0 μ → zK zPr μ0 δ d 177 66 [some (.ref 203), some (.int v1), some (.int v2)] [] μ (c66 v1 v2 μ)) : ∀ (v1 : Int32) (v2 : Int32) (μ : xe_Mem), zT zPr μ0 μ → zK zPr μ0 δ d 177 66 [some (.ref 203), some (.int v1), some (.int v2)] [] μ (zD177_66_b  c66 v1 v2 μ) := by
  intro v1 v2 μ hT
  unfold zD177_66_b
  refine zK_op rfl rfl ?_
  refine zK_op rfl rfl ?_
  refine zK_icge rfl (fun _ => ?_) (fun _ => ?_)
  · refine zK_op rfl rfl ?_
    refine zK_op rfl rfl ?_
    exact zD177_83_ok hd zfu v1 0 μ hT
  refine zK_op rfl rfl ?_
  refine zK_gRl (b := 256) rfl rfl rfl hT ?_
  refine zK_op rfl rfl ?_
  refine zK_op rfl rfl ?_
  refine zK_gRl (b := 255) rfl rfl rfl hT ?_
  refine zK_op rfl rfl ?_
  refine zK_op rfl rfl ?_
  refine zK_i2d rfl (by decide) ?_
  refine zK_x (fun j46 h47 h48 h49 => ?_)
  refine zK_aI rfl rfl hT h47 h48 h49 ?_
  refine zK_x (fun j50 h51 h52 h53 => ?_)
  refine zK_sI (a := 256) (g := (fun x => x)) rfl rfl hT h51 h52 h53 rfl (fun m54 T55 => ?_)
  refine zK_op rfl rfl ?_
  refine zK_op rfl rfl ?_
  exact hc66 v1 (v2 + (1)) m54 T55
theorem zD177_66_ok {μ0 : xe_Mem} {δ : xe_Dy} {d : Nat} (hd : 1 ≤ d)  : ∀ n : Nat, ∀ (v1 : Int32) (v2 : Int32) (μ : xe_Mem), zT zPr μ0 μ → zK zPr μ0 δ d 177 66 [some (.ref 203), some (.int v1), some (.int v2)] [] μ (zD177_66  n v1 v2 μ) := by
  intro n
  induction n with
  | zero => exact fun _ _ _ _  => fun o μ' h => by cases h
  | succ n ih => exact zD177_66_bok hd   ih
theorem zD177_61_ok {μ0 : xe_Mem} {δ : xe_Dy} {d : Nat} (hd : 1 ≤ d) {c45 : Int32 → Int32 → xe_Mem → zO} (hc45 : ∀ (v1 : Int32) (v2 : Int32) (μ : xe_Mem), zT zPr μ0 μ → zK zPr μ0 δ d 177 45 [some (.ref 203), some (.int v1), some (.int v2)] [] μ (c45 v1 v2 μ)) : ∀ (v1 : Int32) (v2 : Int32) (s1 : Int32) (s2 : Int32) (μ : xe_Mem), zT zPr μ0 μ → zK zPr μ0 δ d 177 61 [some (.ref 203), some (.int v1), some (.int v2)] [.int s2, .int s1, .ref 255] μ (zD177_61  c45 v1 v2 s1 s2 μ) := by
  intro v1 v2 s1 s2 μ hT
  unfold zD177_61
  refine zK_x (fun j56 h57 h58 h59 => ?_)
  refine zK_sI (a := 255) (g := (fun x => x)) rfl rfl hT h57 h58 h59 rfl (fun m60 T61 => ?_)
  refine zK_op rfl rfl ?_
  refine zK_op rfl rfl ?_
  exact hc45 v1 (v2 + (1)) m60 T61
theorem zD177_45_bok {μ0 : xe_Mem} {δ : xe_Dy} {d : Nat} (hd : 1 ≤ d)  {c45 : Int32 → Int32 → xe_Mem → zO} (hc45 : ∀ (v1 : Int32) (v2 : Int32) (μ : xe_Mem), zT zPr μ0 μ → zK zPr μ0 δ d 177 45 [some (.ref 203), some (.int v1), some (.int v2)] [] μ (c45 v1 v2 μ)) : ∀ (v1 : Int32) (v2 : Int32) (μ : xe_Mem), zT zPr μ0 μ → zK zPr μ0 δ d 177 45 [some (.ref 203), some (.int v1), some (.int v2)] [] μ (zD177_45_b  c45 v1 v2 μ) := by
  intro v1 v2 μ hT
  unfold zD177_45_b
  refine zK_op rfl rfl ?_
  refine zK_op rfl rfl ?_
  refine zK_icge rfl (fun _ => ?_) (fun _ => ?_)
  · refine zK_op rfl rfl ?_
    refine zK_op rfl rfl ?_
    exact zD177_66_ok hd zfu v1 0 μ hT
  refine zK_op rfl rfl ?_
  refine zK_gRl (b := 255) rfl rfl rfl hT ?_
  refine zK_op rfl rfl ?_
  refine zK_op rfl rfl ?_
  refine zK_op rfl rfl ?_
  refine zK_gI rfl rfl hT ?_
  refine zK_icge rfl (fun _ => ?_) (fun _ => ?_)
  · refine zK_op rfl rfl ?_
    exact zD177_61_ok hd hc45 v1 v2 v2 0 μ hT
  refine zK_op rfl rfl ?_
  refine zK_gRl (b := 211) rfl rfl rfl hT ?_
  refine zK_op rfl rfl ?_
  refine zK_x (fun j62 h63 h64 h65 => ?_)
  refine zK_aI rfl rfl hT h63 h64 h65 ?_
  refine zK_op rfl rfl ?_
  exact zD177_61_ok hd hc45 v1 v2 v2 (xe_I μ 211 j62) μ hT
theorem zD177_45_ok {μ0 : xe_Mem} {δ : xe_Dy} {d : Nat} (hd : 1 ≤ d)  : ∀ n : Nat, ∀ (v1 : Int32) (v2 : Int32) (μ : xe_Mem), zT zPr μ0 μ → zK zPr μ0 δ d 177 45 [some (.ref 203), some (.int v1), some (.int v2)] [] μ (zD177_45  n v1 v2 μ) := by
  intro n
  induction n with
  | zero => exact fun _ _ _ _  => fun o μ' h => by cases h
  | succ n ih => exact zD177_45_bok hd   ih
theorem zD177_14_ok {μ0 : xe_Mem} {δ : xe_Dy} {d : Nat} (hd : 1 ≤ d)  : ∀ (v1 : Int32) (s1 : Int32) (μ : xe_Mem), zT zPr μ0 μ → zK zPr μ0 δ d 177 14 [some (.ref 203), some (.int v1), none] [.int s1, .ref 203] μ (zD177_14  v1 s1 μ) := by
  intro v1 s1 μ hT
  unfold zD177_14
  refine zK_pI rfl rfl hT rfl (fun m4 T5 => ?_)
  refine zK_op rfl rfl ?_
  refine zK_gI rfl rfl T5 ?_
  refine zK_ifle rfl (fun _ => ?_) (fun _ => ?_)
  · refine zK_op rfl rfl ?_
    refine zK_op rfl rfl ?_
    refine zK_pZ rfl rfl (Or.inr rfl) T5 rfl (fun m6 T7 => ?_)
    refine zK_op rfl rfl ?_
    refine zK_op rfl rfl ?_
    refine zK_pI rfl rfl T7 rfl (fun m8 T9 => ?_)
    refine zK_op rfl rfl ?_
    refine zK_op rfl rfl ?_
    refine zK_pI rfl rfl T9 rfl (fun m10 T11 => ?_)
    refine zK_op rfl rfl ?_
    refine zK_op rfl rfl ?_
    refine zK_pI rfl rfl T11 rfl (fun m12 T13 => ?_)
    refine zK_op rfl rfl ?_
    refine zK_op rfl rfl ?_
    refine zK_pI rfl rfl T13 rfl (fun m14 T15 => ?_)
    refine zK_op rfl rfl ?_
    refine zK_op rfl rfl ?_
    refine zK_pI rfl rfl T15 rfl (fun m16 T17 => ?_)
    refine zK_op rfl rfl ?_
    refine zK_op rfl rfl ?_
    refine zK_pI rfl rfl T17 rfl (fun m18 T19 => ?_)
    refine zK_op rfl rfl ?_
    refine zK_op rfl rfl ?_
    refine zK_pI rfl rfl T19 rfl (fun m20 T21 => ?_)
    refine zK_op rfl rfl ?_
    refine zK_op rfl rfl ?_
    exact zD177_45_ok hd zfu v1 0 m20 T21
  exact zK_ret0 rfl T5
theorem zD177_ok {μ0 : xe_Mem} {δ : xe_Dy} {d : Nat} (hd : 1 ≤ d) (a1 : Int32) (μ : xe_Mem) (hT : zT zPr μ0 μ) : zK zPr μ0 δ d 177 0 (xe_init [.ref 203, .int a1] (xM_L 177)) [] μ (zD177 a1 μ) := by
  unfold zD177
  show zK zPr μ0 δ d 177 0 [some (.ref 203), some (.int a1), none] [] μ _
  refine zK_op rfl rfl ?_
  refine zK_op rfl rfl ?_
  refine zK_op rfl rfl ?_
  refine zK_op rfl rfl ?_
  refine zK_op rfl rfl ?_
  refine zK_gI rfl rfl hT ?_
  refine zK_op rfl rfl ?_
  refine zK_op rfl rfl ?_
  refine zK_op rfl rfl ?_
  refine zK_cI rfl (as := [.long a1.toInt64, .long 0, .long (((xe_I μ 203 17) - 1).toInt64)]) (rest := [.ref 203]) rfl rfl rfl (Nat.le_of_ble_eq_true rfl) (Nat.le_of_ble_eq_true rfl) (by decide) (fun _ => rfl) (by omega) (zD132_ok (by omega) a1.toInt64 0 (((xe_I μ 203 17) - 1).toInt64) μ hT) (fun x3 m1 T2 => ?_)
  refine zK_ifeq rfl (fun _ => ?_) (fun _ => ?_)
  · refine zK_op rfl rfl ?_
    exact zD177_14_ok hd a1 1 m1 T2
  refine zK_op rfl rfl ?_
  refine zK_op rfl rfl ?_
  exact zD177_14_ok hd a1 0 m1 T2
/-! 178 LogicalTimesModel.count(I)I -/
def zD178_49 (s0 : Int32) (μ : xe_Mem) : zO := some (.inl (some (.int s0)), μ)
def zD178_7_b (c7 : Int32 → Int32 → Int32 → xe_Mem → zO) (v1 : Int32) (v2 : Int32) (v3 : Int32) (μ : xe_Mem) : zO := if (xe_I μ 203 17) ≤ v3 then if v1 = 0 then zD178_49 (xe_I μ 203 12) μ else if v1 = 1 then zD178_49 (xe_I μ 203 15) μ else if v1 = 2 then zD178_49 (xe_I μ 203 17) μ else if v1 = 3 then zD178_49 (xe_I μ 203 22) μ else if v1 = 4 then zD178_49 v2 μ else zD178_49 ((-1)) μ else zq_x v3 4 fun j3 => zq_vI (v2 + (xe_I μ 216 j3)) fun x7 => c7 v1 x7 (v3 + (1)) μ
def zD178_7   : Nat → Int32 → Int32 → Int32 → xe_Mem → zO
  | 0 => fun _ _ _ _  => none
  | n + 1 => zD178_7_b   (zD178_7   n)
def zD178  (a1 : Int32) (μ : xe_Mem) : zO := zq_m (xe_setI μ 203 0 0) fun m1 => zD178_7 zfu a1 0 0 m1
theorem zD178_49_ok {μ0 : xe_Mem} {δ : xe_Dy} {d : Nat} (hd : 0 ≤ d)  : ∀ (s0 : Int32) (l0 : Option Value) (l1 : Option Value) (l2 : Option Value) (l3 : Option Value) (μ : xe_Mem), zT zPr μ0 μ → zK zPr μ0 δ d 178 49 [l0, l1, l2, l3] [.int s0] μ (zD178_49  s0 μ) := by
  intro s0 l0 l1 l2 l3 μ hT
  unfold zD178_49
  exact zK_ret1 rfl hT
theorem zD178_7_bok {μ0 : xe_Mem} {δ : xe_Dy} {d : Nat} (hd : 0 ≤ d)  {c7 : Int32 → Int32 → Int32 → xe_Mem → zO} (hc7 : ∀ (v1 : Int32) (v2 : Int32) (v3 : Int32) (μ : xe_Mem), zT zPr μ0 μ → zK zPr μ0 δ d 178 7 [some (.ref 203), some (.int v1), some (.int v2), some (.int v3)] [] μ (c7 v1 v2 v3 μ)) : ∀ (v1 : Int32) (v2 : Int32) (v3 : Int32) (μ : xe_Mem), zT zPr μ0 μ → zK zPr μ0 δ d 178 7 [some (.ref 203), some (.int v1), some (.int v2), some (.int v3)] [] μ (zD178_7_b  c7 v1 v2 v3 μ) := by
  intro v1 v2 v3 μ hT
  unfold zD178_7_b
  refine zK_op rfl rfl ?_
  refine zK_op rfl rfl ?_
  refine zK_gI rfl rfl hT ?_
  refine zK_icge rfl (fun _ => ?_) (fun _ => ?_)
  · refine zK_op rfl rfl ?_
    refine zK_ifne rfl (fun _ => ?_) (fun _ => ?_)
    · refine zK_op rfl rfl ?_
      refine zK_gI rfl rfl hT ?_
      refine zK_op rfl rfl ?_
      exact zD178_49_ok hd (xe_I μ 203 12) _ _ _ _ μ hT
    refine zK_op rfl rfl ?_
    refine zK_op rfl rfl ?_
    refine zK_icne rfl (fun _ => ?_) (fun _ => ?_)
    · refine zK_op rfl rfl ?_
      refine zK_gI rfl rfl hT ?_
      refine zK_op rfl rfl ?_
      exact zD178_49_ok hd (xe_I μ 203 15) _ _ _ _ μ hT
    refine zK_op rfl rfl ?_
    refine zK_op rfl rfl ?_
    refine zK_icne rfl (fun _ => ?_) (fun _ => ?_)
    · refine zK_op rfl rfl ?_
      refine zK_gI rfl rfl hT ?_
      refine zK_op rfl rfl ?_
      exact zD178_49_ok hd (xe_I μ 203 17) _ _ _ _ μ hT
    refine zK_op rfl rfl ?_
    refine zK_op rfl rfl ?_
    refine zK_icne rfl (fun _ => ?_) (fun _ => ?_)
    · refine zK_op rfl rfl ?_
      refine zK_gI rfl rfl hT ?_
      refine zK_op rfl rfl ?_
      exact zD178_49_ok hd (xe_I μ 203 22) _ _ _ _ μ hT
    refine zK_op rfl rfl ?_
    refine zK_op rfl rfl ?_
    refine zK_icne rfl (fun _ => ?_) (fun _ => ?_)
    · refine zK_op rfl rfl ?_
      refine zK_op rfl rfl ?_
      exact zD178_49_ok hd v2 _ _ _ _ μ hT
    refine zK_op rfl rfl ?_
    exact zD178_49_ok hd ((-1)) _ _ _ _ μ hT
  refine zK_op rfl rfl ?_
  refine zK_op rfl rfl ?_
  refine zK_gRl (b := 216) rfl rfl rfl hT ?_
  refine zK_op rfl rfl ?_
  refine zK_x (fun j3 h4 h5 h6 => ?_)
  refine zK_aI rfl rfl hT h4 h5 h6 ?_
  refine zK_op rfl rfl ?_
  refine zK_vI (fun x7 => ?_)
  refine zK_op rfl rfl ?_
  refine zK_op rfl rfl ?_
  refine zK_op rfl rfl ?_
  exact hc7 v1 x7 (v3 + (1)) μ hT
theorem zD178_7_ok {μ0 : xe_Mem} {δ : xe_Dy} {d : Nat} (hd : 0 ≤ d)  : ∀ n : Nat, ∀ (v1 : Int32) (v2 : Int32) (v3 : Int32) (μ : xe_Mem), zT zPr μ0 μ → zK zPr μ0 δ d 178 7 [some (.ref 203), some (.int v1), some (.int v2), some (.int v3)] [] μ (zD178_7  n v1 v2 v3 μ) := by
  intro n
  induction n with
  | zero => exact fun _ _ _ _ _  => fun o μ' h => by cases h
  | succ n ih => exact zD178_7_bok hd   ih
theorem zD178_ok {μ0 : xe_Mem} {δ : xe_Dy} {d : Nat} (hd : 0 ≤ d) (a1 : Int32) (μ : xe_Mem) (hT : zT zPr μ0 μ) : zK zPr μ0 δ d 178 0 (xe_init [.ref 203, .int a1] (xM_L 178)) [] μ (zD178 a1 μ) := by
  unfold zD178
  show zK zPr μ0 δ d 178 0 [some (.ref 203), some (.int a1), none, none] [] μ _
  refine zK_op rfl rfl ?_
  refine zK_op rfl rfl ?_
  refine zK_pI rfl rfl hT rfl (fun m1 T2 => ?_)
  refine zK_op rfl rfl ?_
  refine zK_op rfl rfl ?_
  refine zK_op rfl rfl ?_
  refine zK_op rfl rfl ?_
  exact zD178_7_ok hd zfu a1 0 0 m1 T2
/-! 180 LogicalTimesModel.isTask(I)Z -/
def zD180  (a1 : Int32) (μ : xe_Mem) : zO := zq_cI (zD132 a1.toInt64 0 (((xe_I μ 203 22) - 1).toInt64) μ) fun x3 m1 => zq_z x3 <| some (.inl (some (.int x3)), m1)
theorem zD180_ok {μ0 : xe_Mem} {δ : xe_Dy} {d : Nat} (hd : 1 ≤ d) (a1 : Int32) (μ : xe_Mem) (hT : zT zPr μ0 μ) : zK zPr μ0 δ d 180 0 (xe_init [.ref 203, .int a1] (xM_L 180)) [] μ (zD180 a1 μ) := by
  unfold zD180
  show zK zPr μ0 δ d 180 0 [some (.ref 203), some (.int a1)] [] μ _
  refine zK_op rfl rfl ?_
  refine zK_op rfl rfl ?_
  refine zK_op rfl rfl ?_
  refine zK_op rfl rfl ?_
  refine zK_gI rfl rfl hT ?_
  refine zK_op rfl rfl ?_
  refine zK_op rfl rfl ?_
  refine zK_op rfl rfl ?_
  refine zK_cI rfl (as := [.long a1.toInt64, .long 0, .long (((xe_I μ 203 22) - 1).toInt64)]) (rest := []) rfl rfl rfl (Nat.le_of_ble_eq_true rfl) (Nat.le_of_ble_eq_true rfl) (by decide) (fun _ => rfl) (by omega) (zD132_ok (by omega) a1.toInt64 0 (((xe_I μ 203 22) - 1).toInt64) μ hT) (fun x3 m1 T2 => ?_)
  exact zK_ret3z rfl T2
/-! 179 LogicalTimesModel.task(II)I -/
def zD179_80 (c63 : Int32 → Int32 → Int32 → Int32 → xe_Mem → zO) (v1 : Int32) (v2 : Int32) (v4 : Int32) (s0 : Int32) (s1 : Int32) (μ : xe_Mem) : zO := zq_vI (s0 + s1) fun x10 => c63 v1 v2 x10 (v4 + (1)) μ
def zD179_63_b (c63 : Int32 → Int32 → Int32 → Int32 → xe_Mem → zO) (v1 : Int32) (v2 : Int32) (v3 : Int32) (v4 : Int32) (μ : xe_Mem) : zO := if (xe_I μ 203 12) ≤ v4 then some (.inl (some (.int v3)), μ) else zq_x ((12 * v1) + v4) 288 fun j6 => if (xe_I μ 227 j6) = 0 then zD179_80 c63 v1 v2 v4 v3 0 μ else zD179_80 c63 v1 v2 v4 v3 1 μ
def zD179_63   : Nat → Int32 → Int32 → Int32 → Int32 → xe_Mem → zO
  | 0 => fun _ _ _ _ _  => none
  | n + 1 => zD179_63_b   (zD179_63   n)
def zD179_58 (s0 : Int32) (μ : xe_Mem) : zO := some (.inl (some (.int s0)), μ)
def zD179_14 (v1 : Int32) (v2 : Int32) (s1 : Int32) (μ : xe_Mem) : zO := zq_m (xe_setI μ 203 0 s1) fun m4 => if (xe_I m4 203 0) ≤ 0 then if 5 ≤ v2 then zD179_63 zfu v1 v2 0 0 m4 else if v2 = 0 then zq_x v1 24 fun j11 => zD179_58 (xe_I m4 218 j11) m4 else if v2 = 1 then zq_x v1 24 fun j15 => zD179_58 (xe_I m4 219 j15) m4 else if v2 = 2 then zq_x v1 24 fun j19 => zD179_58 (xe_I m4 221 j19) m4 else if v2 = 3 then zq_x v1 24 fun j23 => zD179_58 (xe_I m4 222 j23) m4 else zq_x v1 24 fun j27 => zD179_58 (xe_I m4 223 j27) m4 else some (.inl (some (.int 0)), m4)
def zD179_13 (v1 : Int32) (v2 : Int32) (μ : xe_Mem) : zO := zD179_14 v1 v2 1 μ
def zD179  (a1 : Int32) (a2 : Int32) (μ : xe_Mem) : zO := zq_cI (zD180 a1 μ) fun x3 m1 => if x3 = 0 then zD179_13 a1 a2 m1 else zq_cI (zD132 a2.toInt64 0 5 m1) fun x33 m31 => if x33 = 0 then zD179_13 a1 a2 m31 else zD179_14 a1 a2 0 m31
theorem zD179_80_ok {μ0 : xe_Mem} {δ : xe_Dy} {d : Nat} (hd : 2 ≤ d) {c63 : Int32 → Int32 → Int32 → Int32 → xe_Mem → zO} (hc63 : ∀ (v1 : Int32) (v2 : Int32) (v3 : Int32) (v4 : Int32) (μ : xe_Mem), zT zPr μ0 μ → zK zPr μ0 δ d 179 63 [some (.ref 203), some (.int v1), some (.int v2), some (.int v3), some (.int v4)] [] μ (c63 v1 v2 v3 v4 μ)) : ∀ (v1 : Int32) (v2 : Int32) (v4 : Int32) (s0 : Int32) (s1 : Int32) (l3 : Option Value) (μ : xe_Mem), zT zPr μ0 μ → zK zPr μ0 δ d 179 80 [some (.ref 203), some (.int v1), some (.int v2), l3, some (.int v4)] [.int s1, .int s0] μ (zD179_80  c63 v1 v2 v4 s0 s1 μ) := by
  intro v1 v2 v4 s0 s1 l3 μ hT
  unfold zD179_80
  refine zK_op rfl rfl ?_
  refine zK_vI (fun x10 => ?_)
  refine zK_op rfl rfl ?_
  refine zK_op rfl rfl ?_
  refine zK_op rfl rfl ?_
  exact hc63 v1 v2 x10 (v4 + (1)) μ hT
theorem zD179_63_bok {μ0 : xe_Mem} {δ : xe_Dy} {d : Nat} (hd : 2 ≤ d)  {c63 : Int32 → Int32 → Int32 → Int32 → xe_Mem → zO} (hc63 : ∀ (v1 : Int32) (v2 : Int32) (v3 : Int32) (v4 : Int32) (μ : xe_Mem), zT zPr μ0 μ → zK zPr μ0 δ d 179 63 [some (.ref 203), some (.int v1), some (.int v2), some (.int v3), some (.int v4)] [] μ (c63 v1 v2 v3 v4 μ)) : ∀ (v1 : Int32) (v2 : Int32) (v3 : Int32) (v4 : Int32) (μ : xe_Mem), zT zPr μ0 μ → zK zPr μ0 δ d 179 63 [some (.ref 203), some (.int v1), some (.int v2), some (.int v3), some (.int v4)] [] μ (zD179_63_b  c63 v1 v2 v3 v4 μ) := by
  intro v1 v2 v3 v4 μ hT
  unfold zD179_63_b
  refine zK_op rfl rfl ?_
  refine zK_op rfl rfl ?_
  refine zK_gI rfl rfl hT ?_
  refine zK_icge rfl (fun _ => ?_) (fun _ => ?_)
  · refine zK_op rfl rfl ?_
    exact zK_ret1 rfl hT
  refine zK_op rfl rfl ?_
  refine zK_op rfl rfl ?_
  refine zK_gRl (b := 227) rfl rfl rfl hT ?_
  refine zK_op rfl rfl ?_
  refine zK_op rfl rfl ?_
  refine zK_op rfl rfl ?_
  refine zK_op rfl rfl ?_
  refine zK_op rfl rfl ?_
  refine zK_x (fun j6 h7 h8 h9 => ?_)
  refine zK_aI rfl rfl hT h7 h8 h9 ?_
  refine zK_ifeq rfl (fun _ => ?_) (fun _ => ?_)
  · refine zK_op rfl rfl ?_
    exact zD179_80_ok hd hc63 v1 v2 v4 v3 0 _ μ hT
  refine zK_op rfl rfl ?_
  refine zK_op rfl rfl ?_
  exact zD179_80_ok hd hc63 v1 v2 v4 v3 1 _ μ hT
theorem zD179_63_ok {μ0 : xe_Mem} {δ : xe_Dy} {d : Nat} (hd : 2 ≤ d)  : ∀ n : Nat, ∀ (v1 : Int32) (v2 : Int32) (v3 : Int32) (v4 : Int32) (μ : xe_Mem), zT zPr μ0 μ → zK zPr μ0 δ d 179 63 [some (.ref 203), some (.int v1), some (.int v2), some (.int v3), some (.int v4)] [] μ (zD179_63  n v1 v2 v3 v4 μ) := by
  intro n
  induction n with
  | zero => exact fun _ _ _ _ _ _  => fun o μ' h => by cases h
  | succ n ih => exact zD179_63_bok hd   ih
theorem zD179_58_ok {μ0 : xe_Mem} {δ : xe_Dy} {d : Nat} (hd : 2 ≤ d)  : ∀ (s0 : Int32) (l0 : Option Value) (l1 : Option Value) (l2 : Option Value) (μ : xe_Mem), zT zPr μ0 μ → zK zPr μ0 δ d 179 58 [l0, l1, l2, none, none] [.int s0] μ (zD179_58  s0 μ) := by
  intro s0 l0 l1 l2 μ hT
  unfold zD179_58
  exact zK_ret1 rfl hT
theorem zD179_14_ok {μ0 : xe_Mem} {δ : xe_Dy} {d : Nat} (hd : 2 ≤ d)  : ∀ (v1 : Int32) (v2 : Int32) (s1 : Int32) (μ : xe_Mem), zT zPr μ0 μ → zK zPr μ0 δ d 179 14 [some (.ref 203), some (.int v1), some (.int v2), none, none] [.int s1, .ref 203] μ (zD179_14  v1 v2 s1 μ) := by
  intro v1 v2 s1 μ hT
  unfold zD179_14
  refine zK_pI rfl rfl hT rfl (fun m4 T5 => ?_)
  refine zK_op rfl rfl ?_
  refine zK_gI rfl rfl T5 ?_
  refine zK_ifle rfl (fun _ => ?_) (fun _ => ?_)
  · refine zK_op rfl rfl ?_
    refine zK_op rfl rfl ?_
    refine zK_icge rfl (fun _ => ?_) (fun _ => ?_)
    · refine zK_op rfl rfl ?_
      refine zK_op rfl rfl ?_
      refine zK_op rfl rfl ?_
      refine zK_op rfl rfl ?_
      exact zD179_63_ok hd zfu v1 v2 0 0 m4 T5
    refine zK_op rfl rfl ?_
    refine zK_ifne rfl (fun _ => ?_) (fun _ => ?_)
    · refine zK_op rfl rfl ?_
      refine zK_gRl (b := 218) rfl rfl rfl T5 ?_
      refine zK_op rfl rfl ?_
      refine zK_x (fun j11 h12 h13 h14 => ?_)
      refine zK_aI rfl rfl T5 h12 h13 h14 ?_
      refine zK_op rfl rfl ?_
      exact zD179_58_ok hd (xe_I m4 218 j11) _ _ _ m4 T5
    refine zK_op rfl rfl ?_
    refine zK_op rfl rfl ?_
    refine zK_icne rfl (fun _ => ?_) (fun _ => ?_)
    · refine zK_op rfl rfl ?_
      refine zK_gRl (b := 219) rfl rfl rfl T5 ?_
      refine zK_op rfl rfl ?_
      refine zK_x (fun j15 h16 h17 h18 => ?_)
      refine zK_aI rfl rfl T5 h16 h17 h18 ?_
      refine zK_op rfl rfl ?_
      exact zD179_58_ok hd (xe_I m4 219 j15) _ _ _ m4 T5
    refine zK_op rfl rfl ?_
    refine zK_op rfl rfl ?_
    refine zK_icne rfl (fun _ => ?_) (fun _ => ?_)
    · refine zK_op rfl rfl ?_
      refine zK_gRl (b := 221) rfl rfl rfl T5 ?_
      refine zK_op rfl rfl ?_
      refine zK_x (fun j19 h20 h21 h22 => ?_)
      refine zK_aI rfl rfl T5 h20 h21 h22 ?_
      refine zK_op rfl rfl ?_
      exact zD179_58_ok hd (xe_I m4 221 j19) _ _ _ m4 T5
    refine zK_op rfl rfl ?_
    refine zK_op rfl rfl ?_
    refine zK_icne rfl (fun _ => ?_) (fun _ => ?_)
    · refine zK_op rfl rfl ?_
      refine zK_gRl (b := 222) rfl rfl rfl T5 ?_
      refine zK_op rfl rfl ?_
      refine zK_x (fun j23 h24 h25 h26 => ?_)
      refine zK_aI rfl rfl T5 h24 h25 h26 ?_
      refine zK_op rfl rfl ?_
      exact zD179_58_ok hd (xe_I m4 222 j23) _ _ _ m4 T5
    refine zK_op rfl rfl ?_
    refine zK_gRl (b := 223) rfl rfl rfl T5 ?_
    refine zK_op rfl rfl ?_
    refine zK_x (fun j27 h28 h29 h30 => ?_)
    refine zK_aI rfl rfl T5 h28 h29 h30 ?_
    exact zD179_58_ok hd (xe_I m4 223 j27) _ _ _ m4 T5
  refine zK_op rfl rfl ?_
  exact zK_ret1 rfl T5
theorem zD179_13_ok {μ0 : xe_Mem} {δ : xe_Dy} {d : Nat} (hd : 2 ≤ d)  : ∀ (v1 : Int32) (v2 : Int32) (μ : xe_Mem), zT zPr μ0 μ → zK zPr μ0 δ d 179 13 [some (.ref 203), some (.int v1), some (.int v2), none, none] [.ref 203] μ (zD179_13  v1 v2 μ) := by
  intro v1 v2 μ hT
  unfold zD179_13
  refine zK_op rfl rfl ?_
  exact zD179_14_ok hd v1 v2 1 μ hT
theorem zD179_ok {μ0 : xe_Mem} {δ : xe_Dy} {d : Nat} (hd : 2 ≤ d) (a1 : Int32) (a2 : Int32) (μ : xe_Mem) (hT : zT zPr μ0 μ) : zK zPr μ0 δ d 179 0 (xe_init [.ref 203, .int a1, .int a2] (xM_L 179)) [] μ (zD179 a1 a2 μ) := by
  unfold zD179
  show zK zPr μ0 δ d 179 0 [some (.ref 203), some (.int a1), some (.int a2), none, none] [] μ _
  refine zK_op rfl rfl ?_
  refine zK_op rfl rfl ?_
  refine zK_op rfl rfl ?_
  refine zK_cI rfl (as := [.ref 203, .int a1]) (rest := [.ref 203]) rfl rfl (xe_rcvO (zT_sh hT rfl)) (Nat.le_of_ble_eq_true rfl) (Nat.le_of_ble_eq_true rfl) (by decide) (fun _ => rfl) (by omega) (zD180_ok (by omega) a1 μ hT) (fun x3 m1 T2 => ?_)
  refine zK_ifeq rfl (fun _ => ?_) (fun _ => ?_)
  · exact zD179_13_ok hd a1 a2 m1 T2
  refine zK_op rfl rfl ?_
  refine zK_op rfl rfl ?_
  refine zK_op rfl rfl ?_
  refine zK_op rfl rfl ?_
  refine zK_cI rfl (as := [.long a2.toInt64, .long 0, .long 5]) (rest := [.ref 203]) rfl rfl rfl (Nat.le_of_ble_eq_true rfl) (Nat.le_of_ble_eq_true rfl) (by decide) (fun _ => rfl) (by omega) (zD132_ok (by omega) a2.toInt64 0 5 m1 T2) (fun x33 m31 T32 => ?_)
  refine zK_ifeq rfl (fun _ => ?_) (fun _ => ?_)
  · exact zD179_13_ok hd a1 a2 m31 T32
  refine zK_op rfl rfl ?_
  refine zK_op rfl rfl ?_
  exact zD179_14_ok hd a1 a2 0 m31 T32
/-! 181 LogicalTimesModel.check(I)I -/
def zD181_24 (s0 : Int32) (μ : xe_Mem) : zO := some (.inl (some (.int s0)), μ)
def zD181_14 (v1 : Int32) (s1 : Int32) (μ : xe_Mem) : zO := zq_m (xe_setI μ 203 0 s1) fun m4 => if (xe_I m4 203 0) ≤ 0 then zq_x v1 4 fun j6 => zD181_24 (xe_I m4 215 j6) m4 else zD181_24 0 m4
def zD181  (a1 : Int32) (μ : xe_Mem) : zO := zq_cI (zD132 a1.toInt64 0 (((xe_I μ 203 17) - 1).toInt64) μ) fun x3 m1 => if x3 = 0 then zD181_14 a1 1 m1 else zD181_14 a1 0 m1
theorem zD181_24_ok {μ0 : xe_Mem} {δ : xe_Dy} {d : Nat} (hd : 1 ≤ d)  : ∀ (s0 : Int32) (l0 : Option Value) (l1 : Option Value) (μ : xe_Mem), zT zPr μ0 μ → zK zPr μ0 δ d 181 24 [l0, l1] [.int s0] μ (zD181_24  s0 μ) := by
  intro s0 l0 l1 μ hT
  unfold zD181_24
  exact zK_ret1 rfl hT
theorem zD181_14_ok {μ0 : xe_Mem} {δ : xe_Dy} {d : Nat} (hd : 1 ≤ d)  : ∀ (v1 : Int32) (s1 : Int32) (μ : xe_Mem), zT zPr μ0 μ → zK zPr μ0 δ d 181 14 [some (.ref 203), some (.int v1)] [.int s1, .ref 203] μ (zD181_14  v1 s1 μ) := by
  intro v1 s1 μ hT
  unfold zD181_14
  refine zK_pI rfl rfl hT rfl (fun m4 T5 => ?_)
  refine zK_op rfl rfl ?_
  refine zK_gI rfl rfl T5 ?_
  refine zK_ifle rfl (fun _ => ?_) (fun _ => ?_)
  · refine zK_op rfl rfl ?_
    refine zK_gRl (b := 215) rfl rfl rfl T5 ?_
    refine zK_op rfl rfl ?_
    refine zK_x (fun j6 h7 h8 h9 => ?_)
    refine zK_aI rfl rfl T5 h7 h8 h9 ?_
    exact zD181_24_ok hd (xe_I m4 215 j6) _ _ m4 T5
  refine zK_op rfl rfl ?_
  refine zK_op rfl rfl ?_
  exact zD181_24_ok hd 0 _ _ m4 T5
theorem zD181_ok {μ0 : xe_Mem} {δ : xe_Dy} {d : Nat} (hd : 1 ≤ d) (a1 : Int32) (μ : xe_Mem) (hT : zT zPr μ0 μ) : zK zPr μ0 δ d 181 0 (xe_init [.ref 203, .int a1] (xM_L 181)) [] μ (zD181 a1 μ) := by
  unfold zD181
  show zK zPr μ0 δ d 181 0 [some (.ref 203), some (.int a1)] [] μ _
  refine zK_op rfl rfl ?_
  refine zK_op rfl rfl ?_
  refine zK_op rfl rfl ?_
  refine zK_op rfl rfl ?_
  refine zK_op rfl rfl ?_
  refine zK_gI rfl rfl hT ?_
  refine zK_op rfl rfl ?_
  refine zK_op rfl rfl ?_
  refine zK_op rfl rfl ?_
  refine zK_cI rfl (as := [.long a1.toInt64, .long 0, .long (((xe_I μ 203 17) - 1).toInt64)]) (rest := [.ref 203]) rfl rfl rfl (Nat.le_of_ble_eq_true rfl) (Nat.le_of_ble_eq_true rfl) (by decide) (fun _ => rfl) (by omega) (zD132_ok (by omega) a1.toInt64 0 (((xe_I μ 203 17) - 1).toInt64) μ hT) (fun x3 m1 T2 => ?_)
  refine zK_ifeq rfl (fun _ => ?_) (fun _ => ?_)
  · refine zK_op rfl rfl ?_
    exact zD181_14_ok hd a1 1 m1 T2
  refine zK_op rfl rfl ?_
  refine zK_op rfl rfl ?_
  exact zD181_14_ok hd a1 0 m1 T2
/-! 182 LogicalTimesModel.slack(I)I -/
def zD182_18 (s0 : Int32) (μ : xe_Mem) : zO := some (.inl (some (.int s0)), μ)
def zD182_8 (v1 : Int32) (s1 : Int32) (μ : xe_Mem) : zO := zq_m (xe_setI μ 203 0 s1) fun m4 => if (xe_I m4 203 0) ≤ 0 then zq_x v1 24 fun j6 => zD182_18 (xe_I m4 225 j6) m4 else zD182_18 0 m4
def zD182  (a1 : Int32) (μ : xe_Mem) : zO := zq_cI (zD180 a1 μ) fun x3 m1 => if x3 = 0 then zD182_8 a1 1 m1 else zD182_8 a1 0 m1
theorem zD182_18_ok {μ0 : xe_Mem} {δ : xe_Dy} {d : Nat} (hd : 2 ≤ d)  : ∀ (s0 : Int32) (l0 : Option Value) (l1 : Option Value) (μ : xe_Mem), zT zPr μ0 μ → zK zPr μ0 δ d 182 18 [l0, l1] [.int s0] μ (zD182_18  s0 μ) := by
  intro s0 l0 l1 μ hT
  unfold zD182_18
  exact zK_ret1 rfl hT
theorem zD182_8_ok {μ0 : xe_Mem} {δ : xe_Dy} {d : Nat} (hd : 2 ≤ d)  : ∀ (v1 : Int32) (s1 : Int32) (μ : xe_Mem), zT zPr μ0 μ → zK zPr μ0 δ d 182 8 [some (.ref 203), some (.int v1)] [.int s1, .ref 203] μ (zD182_8  v1 s1 μ) := by
  intro v1 s1 μ hT
  unfold zD182_8
  refine zK_pI rfl rfl hT rfl (fun m4 T5 => ?_)
  refine zK_op rfl rfl ?_
  refine zK_gI rfl rfl T5 ?_
  refine zK_ifle rfl (fun _ => ?_) (fun _ => ?_)
  · refine zK_op rfl rfl ?_
    refine zK_gRl (b := 225) rfl rfl rfl T5 ?_
    refine zK_op rfl rfl ?_
    refine zK_x (fun j6 h7 h8 h9 => ?_)
    refine zK_aI rfl rfl T5 h7 h8 h9 ?_
    exact zD182_18_ok hd (xe_I m4 225 j6) _ _ m4 T5
  refine zK_op rfl rfl ?_
  refine zK_op rfl rfl ?_
  exact zD182_18_ok hd 0 _ _ m4 T5
theorem zD182_ok {μ0 : xe_Mem} {δ : xe_Dy} {d : Nat} (hd : 2 ≤ d) (a1 : Int32) (μ : xe_Mem) (hT : zT zPr μ0 μ) : zK zPr μ0 δ d 182 0 (xe_init [.ref 203, .int a1] (xM_L 182)) [] μ (zD182 a1 μ) := by
  unfold zD182
  show zK zPr μ0 δ d 182 0 [some (.ref 203), some (.int a1)] [] μ _
  refine zK_op rfl rfl ?_
  refine zK_op rfl rfl ?_
  refine zK_op rfl rfl ?_
  refine zK_cI rfl (as := [.ref 203, .int a1]) (rest := [.ref 203]) rfl rfl (xe_rcvO (zT_sh hT rfl)) (Nat.le_of_ble_eq_true rfl) (Nat.le_of_ble_eq_true rfl) (by decide) (fun _ => rfl) (by omega) (zD180_ok (by omega) a1 μ hT) (fun x3 m1 T2 => ?_)
  refine zK_ifeq rfl (fun _ => ?_) (fun _ => ?_)
  · refine zK_op rfl rfl ?_
    exact zD182_8_ok hd a1 1 m1 T2
  refine zK_op rfl rfl ?_
  refine zK_op rfl rfl ?_
  exact zD182_8_ok hd a1 0 m1 T2
/-! 183 LogicalTimesModel.slot(II)I -/
def zD183_36 (s0 : Int32) (μ : xe_Mem) : zO := some (.inl (some (.int s0)), μ)
def zD183_26 (v1 : Int32) (v2 : Int32) (s1 : Int32) (μ : xe_Mem) : zO := zq_m (xe_setI μ 203 0 s1) fun m4 => if (xe_I m4 203 0) ≤ 0 then zq_cI (zD176 v1 v2 m4) fun x8 m6 => zD183_36 x8 m6 else zD183_36 0 m4
def zD183_25 (v1 : Int32) (v2 : Int32) (μ : xe_Mem) : zO := zD183_26 v1 v2 1 μ
def zD183  (a1 : Int32) (a2 : Int32) (μ : xe_Mem) : zO := zq_cI (zD132 a1.toInt64 0 (((xe_I μ 203 17) - 1).toInt64) μ) fun x3 m1 => if x3 = 0 then zD183_25 a1 a2 m1 else zq_x a1 4 fun j9 => zq_cI (zD132 a2.toInt64 0 (((xe_I m1 216 j9) - 1).toInt64) m1) fun x15 m13 => if x15 = 0 then zD183_25 a1 a2 m13 else zD183_26 a1 a2 0 m13
theorem zD183_36_ok {μ0 : xe_Mem} {δ : xe_Dy} {d : Nat} (hd : 1 ≤ d)  : ∀ (s0 : Int32) (l0 : Option Value) (l1 : Option Value) (l2 : Option Value) (μ : xe_Mem), zT zPr μ0 μ → zK zPr μ0 δ d 183 36 [l0, l1, l2] [.int s0] μ (zD183_36  s0 μ) := by
  intro s0 l0 l1 l2 μ hT
  unfold zD183_36
  exact zK_ret1 rfl hT
theorem zD183_26_ok {μ0 : xe_Mem} {δ : xe_Dy} {d : Nat} (hd : 1 ≤ d)  : ∀ (v1 : Int32) (v2 : Int32) (s1 : Int32) (μ : xe_Mem), zT zPr μ0 μ → zK zPr μ0 δ d 183 26 [some (.ref 203), some (.int v1), some (.int v2)] [.int s1, .ref 203] μ (zD183_26  v1 v2 s1 μ) := by
  intro v1 v2 s1 μ hT
  unfold zD183_26
  refine zK_pI rfl rfl hT rfl (fun m4 T5 => ?_)
  refine zK_op rfl rfl ?_
  refine zK_gI rfl rfl T5 ?_
  refine zK_ifle rfl (fun _ => ?_) (fun _ => ?_)
  · refine zK_op rfl rfl ?_
    refine zK_op rfl rfl ?_
    refine zK_op rfl rfl ?_
    refine zK_cI rfl (as := [.ref 203, .int v1, .int v2]) (rest := []) rfl rfl (xe_rcvO (zT_sh T5 rfl)) (Nat.le_of_ble_eq_true rfl) (Nat.le_of_ble_eq_true rfl) (by decide) (fun _ => rfl) (by omega) (zD176_ok (by omega) v1 v2 m4 T5) (fun x8 m6 T7 => ?_)
    exact zD183_36_ok hd x8 _ _ _ m6 T7
  refine zK_op rfl rfl ?_
  refine zK_op rfl rfl ?_
  exact zD183_36_ok hd 0 _ _ _ m4 T5
theorem zD183_25_ok {μ0 : xe_Mem} {δ : xe_Dy} {d : Nat} (hd : 1 ≤ d)  : ∀ (v1 : Int32) (v2 : Int32) (μ : xe_Mem), zT zPr μ0 μ → zK zPr μ0 δ d 183 25 [some (.ref 203), some (.int v1), some (.int v2)] [.ref 203] μ (zD183_25  v1 v2 μ) := by
  intro v1 v2 μ hT
  unfold zD183_25
  refine zK_op rfl rfl ?_
  exact zD183_26_ok hd v1 v2 1 μ hT
theorem zD183_ok {μ0 : xe_Mem} {δ : xe_Dy} {d : Nat} (hd : 1 ≤ d) (a1 : Int32) (a2 : Int32) (μ : xe_Mem) (hT : zT zPr μ0 μ) : zK zPr μ0 δ d 183 0 (xe_init [.ref 203, .int a1, .int a2] (xM_L 183)) [] μ (zD183 a1 a2 μ) := by
  unfold zD183
  show zK zPr μ0 δ d 183 0 [some (.ref 203), some (.int a1), some (.int a2)] [] μ _
  refine zK_op rfl rfl ?_
  refine zK_op rfl rfl ?_
  refine zK_op rfl rfl ?_
  refine zK_op rfl rfl ?_
  refine zK_op rfl rfl ?_
  refine zK_gI rfl rfl hT ?_
  refine zK_op rfl rfl ?_
  refine zK_op rfl rfl ?_
  refine zK_op rfl rfl ?_
  refine zK_cI rfl (as := [.long a1.toInt64, .long 0, .long (((xe_I μ 203 17) - 1).toInt64)]) (rest := [.ref 203]) rfl rfl rfl (Nat.le_of_ble_eq_true rfl) (Nat.le_of_ble_eq_true rfl) (by decide) (fun _ => rfl) (by omega) (zD132_ok (by omega) a1.toInt64 0 (((xe_I μ 203 17) - 1).toInt64) μ hT) (fun x3 m1 T2 => ?_)
  refine zK_ifeq rfl (fun _ => ?_) (fun _ => ?_)
  · exact zD183_25_ok hd a1 a2 m1 T2
  refine zK_op rfl rfl ?_
  refine zK_op rfl rfl ?_
  refine zK_op rfl rfl ?_
  refine zK_op rfl rfl ?_
  refine zK_gRl (b := 216) rfl rfl rfl T2 ?_
  refine zK_op rfl rfl ?_
  refine zK_x (fun j9 h10 h11 h12 => ?_)
  refine zK_aI rfl rfl T2 h10 h11 h12 ?_
  refine zK_op rfl rfl ?_
  refine zK_op rfl rfl ?_
  refine zK_op rfl rfl ?_
  refine zK_cI rfl (as := [.long a2.toInt64, .long 0, .long (((xe_I m1 216 j9) - 1).toInt64)]) (rest := [.ref 203]) rfl rfl rfl (Nat.le_of_ble_eq_true rfl) (Nat.le_of_ble_eq_true rfl) (by decide) (fun _ => rfl) (by omega) (zD132_ok (by omega) a2.toInt64 0 (((xe_I m1 216 j9) - 1).toInt64) m1 T2) (fun x15 m13 T14 => ?_)
  refine zK_ifeq rfl (fun _ => ?_) (fun _ => ?_)
  · exact zD183_25_ok hd a1 a2 m13 T14
  refine zK_op rfl rfl ?_
  refine zK_op rfl rfl ?_
  exact zD183_26_ok hd a1 a2 0 m13 T14
/-! 184 LogicalTimesModel.takes(II)V -/
def zD184_34 (μ : xe_Mem) : zO := some (.inl none, μ)
def zD184_25 (v1 : Int32) (v2 : Int32) (s1 : Int32) (μ : xe_Mem) : zO := zq_m (xe_setI μ 203 0 s1) fun m1 => if (xe_I m1 203 0) = 0 then zq_x v1 24 fun j3 => zq_m (xe_setI m1 260 j3 v2) fun m7 => zD184_34 m7 else zD184_34 m1
def zD184  (a1 : Int32) (a2 : Int32) (μ : xe_Mem) : zO := if (xe_I μ 203 70) = 0 then zD184_25 a1 a2 1 μ else zq_cI (zD180 a1 μ) fun x11 m9 => if x11 = 0 then zD184_25 a1 a2 2 m9 else zq_x a1 24 fun j12 => zq_cI (zD132 a2.toInt64 0 ((xe_I m9 222 j12).toInt64) m9) fun x18 m16 => if x18 = 0 then zD184_25 a1 a2 3 m16 else zD184_25 a1 a2 0 m16
theorem zD184_34_ok {μ0 : xe_Mem} {δ : xe_Dy} {d : Nat} (hd : 2 ≤ d)  : ∀ (l0 : Option Value) (l1 : Option Value) (l2 : Option Value) (μ : xe_Mem), zT zPr μ0 μ → zK zPr μ0 δ d 184 34 [l0, l1, l2] [] μ (zD184_34  μ) := by
  intro l0 l1 l2 μ hT
  unfold zD184_34
  exact zK_ret0 rfl hT
theorem zD184_25_ok {μ0 : xe_Mem} {δ : xe_Dy} {d : Nat} (hd : 2 ≤ d)  : ∀ (v1 : Int32) (v2 : Int32) (s1 : Int32) (μ : xe_Mem), zT zPr μ0 μ → zK zPr μ0 δ d 184 25 [some (.ref 203), some (.int v1), some (.int v2)] [.int s1, .ref 203] μ (zD184_25  v1 v2 s1 μ) := by
  intro v1 v2 s1 μ hT
  unfold zD184_25
  refine zK_pI rfl rfl hT rfl (fun m1 T2 => ?_)
  refine zK_op rfl rfl ?_
  refine zK_gI rfl rfl T2 ?_
  refine zK_ifne rfl (fun _ => ?_) (fun _ => ?_)
  · refine zK_op rfl rfl ?_
    refine zK_gRl (b := 260) rfl rfl rfl T2 ?_
    refine zK_op rfl rfl ?_
    refine zK_op rfl rfl ?_
    refine zK_x (fun j3 h4 h5 h6 => ?_)
    refine zK_sI (a := 260) (g := (fun x => x)) rfl rfl T2 h4 h5 h6 rfl (fun m7 T8 => ?_)
    exact zD184_34_ok hd _ _ _ m7 T8
  exact zD184_34_ok hd _ _ _ m1 T2
theorem zD184_ok {μ0 : xe_Mem} {δ : xe_Dy} {d : Nat} (hd : 2 ≤ d) (a1 : Int32) (a2 : Int32) (μ : xe_Mem) (hT : zT zPr μ0 μ) : zK zPr μ0 δ d 184 0 (xe_init [.ref 203, .int a1, .int a2] (xM_L 184)) [] μ (zD184 a1 a2 μ) := by
  unfold zD184
  show zK zPr μ0 δ d 184 0 [some (.ref 203), some (.int a1), some (.int a2)] [] μ _
  refine zK_op rfl rfl ?_
  refine zK_op rfl rfl ?_
  refine zK_gI rfl rfl hT ?_
  refine zK_ifne rfl (fun _ => ?_) (fun _ => ?_)
  · refine zK_op rfl rfl ?_
    refine zK_op rfl rfl ?_
    exact zD184_25_ok hd a1 a2 1 μ hT
  refine zK_op rfl rfl ?_
  refine zK_op rfl rfl ?_
  refine zK_cI rfl (as := [.ref 203, .int a1]) (rest := [.ref 203]) rfl rfl (xe_rcvO (zT_sh hT rfl)) (Nat.le_of_ble_eq_true rfl) (Nat.le_of_ble_eq_true rfl) (by decide) (fun _ => rfl) (by omega) (zD180_ok (by omega) a1 μ hT) (fun x11 m9 T10 => ?_)
  refine zK_ifne rfl (fun _ => ?_) (fun _ => ?_)
  · refine zK_op rfl rfl ?_
    refine zK_op rfl rfl ?_
    exact zD184_25_ok hd a1 a2 2 m9 T10
  refine zK_op rfl rfl ?_
  refine zK_op rfl rfl ?_
  refine zK_op rfl rfl ?_
  refine zK_op rfl rfl ?_
  refine zK_gRl (b := 222) rfl rfl rfl T10 ?_
  refine zK_op rfl rfl ?_
  refine zK_x (fun j12 h13 h14 h15 => ?_)
  refine zK_aI rfl rfl T10 h13 h14 h15 ?_
  refine zK_op rfl rfl ?_
  refine zK_cI rfl (as := [.long a2.toInt64, .long 0, .long ((xe_I m9 222 j12).toInt64)]) (rest := [.ref 203]) rfl rfl rfl (Nat.le_of_ble_eq_true rfl) (Nat.le_of_ble_eq_true rfl) (by decide) (fun _ => rfl) (by omega) (zD132_ok (by omega) a2.toInt64 0 ((xe_I m9 222 j12).toInt64) m9 T10) (fun x18 m16 T17 => ?_)
  refine zK_ifne rfl (fun _ => ?_) (fun _ => ?_)
  · refine zK_op rfl rfl ?_
    refine zK_op rfl rfl ?_
    exact zD184_25_ok hd a1 a2 3 m16 T17
  refine zK_op rfl rfl ?_
  exact zD184_25_ok hd a1 a2 0 m16 T17
/-! 185 LogicalTimesModel.sensor(II)V -/
def zD185_28 (μ : xe_Mem) : zO := some (.inl none, μ)
def zD185_19 (v1 : Int32) (v2 : Int32) (s1 : Int32) (μ : xe_Mem) : zO := zq_m (xe_setI μ 203 0 s1) fun m1 => if (xe_I m1 203 0) = 0 then zq_x v1 4 fun j3 => zq_m (xe_setI m1 257 j3 v2) fun m7 => zD185_28 m7 else zD185_28 m1
def zD185  (a1 : Int32) (a2 : Int32) (μ : xe_Mem) : zO := if (xe_I μ 203 70) = 0 then zD185_19 a1 a2 1 μ else zq_cI (zD132 a1.toInt64 0 (((xe_I μ 203 15) - 1).toInt64) μ) fun x11 m9 => if x11 = 0 then zD185_19 a1 a2 2 m9 else zD185_19 a1 a2 0 m9
theorem zD185_28_ok {μ0 : xe_Mem} {δ : xe_Dy} {d : Nat} (hd : 1 ≤ d)  : ∀ (l0 : Option Value) (l1 : Option Value) (l2 : Option Value) (μ : xe_Mem), zT zPr μ0 μ → zK zPr μ0 δ d 185 28 [l0, l1, l2] [] μ (zD185_28  μ) := by
  intro l0 l1 l2 μ hT
  unfold zD185_28
  exact zK_ret0 rfl hT
theorem zD185_19_ok {μ0 : xe_Mem} {δ : xe_Dy} {d : Nat} (hd : 1 ≤ d)  : ∀ (v1 : Int32) (v2 : Int32) (s1 : Int32) (μ : xe_Mem), zT zPr μ0 μ → zK zPr μ0 δ d 185 19 [some (.ref 203), some (.int v1), some (.int v2)] [.int s1, .ref 203] μ (zD185_19  v1 v2 s1 μ) := by
  intro v1 v2 s1 μ hT
  unfold zD185_19
  refine zK_pI rfl rfl hT rfl (fun m1 T2 => ?_)
  refine zK_op rfl rfl ?_
  refine zK_gI rfl rfl T2 ?_
  refine zK_ifne rfl (fun _ => ?_) (fun _ => ?_)
  · refine zK_op rfl rfl ?_
    refine zK_gRl (b := 257) rfl rfl rfl T2 ?_
    refine zK_op rfl rfl ?_
    refine zK_op rfl rfl ?_
    refine zK_x (fun j3 h4 h5 h6 => ?_)
    refine zK_sI (a := 257) (g := (fun x => x)) rfl rfl T2 h4 h5 h6 rfl (fun m7 T8 => ?_)
    exact zD185_28_ok hd _ _ _ m7 T8
  exact zD185_28_ok hd _ _ _ m1 T2
theorem zD185_ok {μ0 : xe_Mem} {δ : xe_Dy} {d : Nat} (hd : 1 ≤ d) (a1 : Int32) (a2 : Int32) (μ : xe_Mem) (hT : zT zPr μ0 μ) : zK zPr μ0 δ d 185 0 (xe_init [.ref 203, .int a1, .int a2] (xM_L 185)) [] μ (zD185 a1 a2 μ) := by
  unfold zD185
  show zK zPr μ0 δ d 185 0 [some (.ref 203), some (.int a1), some (.int a2)] [] μ _
  refine zK_op rfl rfl ?_
  refine zK_op rfl rfl ?_
  refine zK_gI rfl rfl hT ?_
  refine zK_ifne rfl (fun _ => ?_) (fun _ => ?_)
  · refine zK_op rfl rfl ?_
    refine zK_op rfl rfl ?_
    exact zD185_19_ok hd a1 a2 1 μ hT
  refine zK_op rfl rfl ?_
  refine zK_op rfl rfl ?_
  refine zK_op rfl rfl ?_
  refine zK_op rfl rfl ?_
  refine zK_gI rfl rfl hT ?_
  refine zK_op rfl rfl ?_
  refine zK_op rfl rfl ?_
  refine zK_op rfl rfl ?_
  refine zK_cI rfl (as := [.long a1.toInt64, .long 0, .long (((xe_I μ 203 15) - 1).toInt64)]) (rest := [.ref 203]) rfl rfl rfl (Nat.le_of_ble_eq_true rfl) (Nat.le_of_ble_eq_true rfl) (by decide) (fun _ => rfl) (by omega) (zD132_ok (by omega) a1.toInt64 0 (((xe_I μ 203 15) - 1).toInt64) μ hT) (fun x11 m9 T10 => ?_)
  refine zK_ifne rfl (fun _ => ?_) (fun _ => ?_)
  · refine zK_op rfl rfl ?_
    refine zK_op rfl rfl ?_
    exact zD185_19_ok hd a1 a2 2 m9 T10
  refine zK_op rfl rfl ?_
  exact zD185_19_ok hd a1 a2 0 m9 T10
/-! 188 LogicalTimesModel.finish(I)V -/
def zD188_86 (c2 : Int32 → Int32 → xe_Mem → zO) (v1 : Int32) (v2 : Int32) (μ : xe_Mem) : zO := c2 v1 (v2 + (1)) μ
def zD188_83 (c30 : Int32 → Int32 → Int32 → xe_Mem → zO) (v1 : Int32) (v2 : Int32) (v3 : Int32) (s1 : Int32) (s2 : Int32) (μ : xe_Mem) : zO := zq_x s1 48 fun j41 => zq_m (xe_setI μ 256 j41 s2) fun m45 => c30 v1 v2 (v3 + (1)) m45
def zD188_56 (c30 : Int32 → Int32 → Int32 → xe_Mem → zO) (v1 : Int32) (v2 : Int32) (v3 : Int32) (s0 : Int32) (μ : xe_Mem) : zO := if s0 = 0 then zq_x ((12 * v3) + v2) 48 fun j37 => zD188_83 c30 v1 v2 v3 ((12 * v3) + v2) (xe_I μ 256 j37) μ else zq_x ((12 * v1) + v2) 288 fun j47 => zD188_83 c30 v1 v2 v3 ((12 * v3) + v2) (xe_I μ 261 j47) μ
def zD188_53 (c30 : Int32 → Int32 → Int32 → xe_Mem → zO) (v1 : Int32) (v2 : Int32) (v3 : Int32) (μ : xe_Mem) : zO := zD188_56 c30 v1 v2 v3 1 μ
def zD188_55 (c30 : Int32 → Int32 → Int32 → xe_Mem → zO) (v1 : Int32) (v2 : Int32) (v3 : Int32) (μ : xe_Mem) : zO := zD188_56 c30 v1 v2 v3 0 μ
def zD188_30_b (c2 : Int32 → Int32 → xe_Mem → zO) (c30 : Int32 → Int32 → Int32 → xe_Mem → zO) (v1 : Int32) (v2 : Int32) (v3 : Int32) (μ : xe_Mem) : zO := if 4 ≤ v3 then zD188_86 c2 v1 v2 μ else zq_x v1 24 fun j29 => if (xe_I μ 259 j29) = 0 then zq_x v1 24 fun j33 => if v3 = (xe_I μ 219 j33) then zD188_53 c30 v1 v2 v3 μ else zq_x ((12 * v1) + v2) 288 fun j51 => if (xe_I μ 263 j51) = 0 then zD188_55 c30 v1 v2 v3 μ else zD188_53 c30 v1 v2 v3 μ else zD188_55 c30 v1 v2 v3 μ
def zD188_30  (c2 : Int32 → Int32 → xe_Mem → zO) : Nat → Int32 → Int32 → Int32 → xe_Mem → zO
  | 0 => fun _ _ _ _  => none
  | n + 1 => zD188_30_b  c2 (zD188_30  c2 n)
def zD188_2_b (c2 : Int32 → Int32 → xe_Mem → zO) (v1 : Int32) (v2 : Int32) (μ : xe_Mem) : zO := if (xe_I μ 203 12) ≤ v2 then zq_x v1 24 fun j1 => if (xe_I μ 259 j1) = 0 then some (.inl none, μ) else zq_m (xe_setI μ 203 74 ((xe_I μ 203 74) + 1)) fun m5 => zq_m (xe_setI m5 203 75 v1) fun m7 => zq_x v1 24 fun j9 => zq_m (xe_setI m7 259 j9 0) fun m13 => some (.inl none, m13) else zq_x ((12 * v1) + v2) 288 fun j15 => if (xe_I μ 227 j15) = 0 then zD188_86 c2 v1 v2 μ else zq_x ((12 * v1) + v2) 288 fun j19 => zq_x v2 12 fun j23 => zq_m (xe_setI μ 255 j23 (xe_I μ 262 j19)) fun m27 => zD188_30 c2 zfu v1 v2 0 m27
def zD188_2   : Nat → Int32 → Int32 → xe_Mem → zO
  | 0 => fun _ _ _  => none
  | n + 1 => zD188_2_b   (zD188_2   n)
def zD188  (a1 : Int32) (μ : xe_Mem) : zO := zD188_2 zfu a1 0 μ
theorem zD188_86_ok {μ0 : xe_Mem} {δ : xe_Dy} {d : Nat} (hd : 0 ≤ d) {c2 : Int32 → Int32 → xe_Mem → zO} (hc2 : ∀ (v1 : Int32) (v2 : Int32) (l3 : Option Value) (l4 : Option Value) (μ : xe_Mem), zT zPr μ0 μ → zK zPr μ0 δ d 188 2 [some (.ref 203), some (.int v1), some (.int v2), l3, l4] [] μ (c2 v1 v2 μ)) : ∀ (v1 : Int32) (v2 : Int32) (l3 : Option Value) (l4 : Option Value) (μ : xe_Mem), zT zPr μ0 μ → zK zPr μ0 δ d 188 86 [some (.ref 203), some (.int v1), some (.int v2), l3, l4] [] μ (zD188_86  c2 v1 v2 μ) := by
  intro v1 v2 l3 l4 μ hT
  unfold zD188_86
  refine zK_op rfl rfl ?_
  refine zK_op rfl rfl ?_
  exact hc2 v1 (v2 + (1)) _ _ μ hT
theorem zD188_83_ok {μ0 : xe_Mem} {δ : xe_Dy} {d : Nat} (hd : 0 ≤ d) {c30 : Int32 → Int32 → Int32 → xe_Mem → zO} (hc30 : ∀ (v1 : Int32) (v2 : Int32) (v3 : Int32) (l4 : Option Value) (μ : xe_Mem), zT zPr μ0 μ → zK zPr μ0 δ d 188 30 [some (.ref 203), some (.int v1), some (.int v2), some (.int v3), l4] [] μ (c30 v1 v2 v3 μ)) : ∀ (v1 : Int32) (v2 : Int32) (v3 : Int32) (s1 : Int32) (s2 : Int32) (l4 : Option Value) (μ : xe_Mem), zT zPr μ0 μ → zK zPr μ0 δ d 188 83 [some (.ref 203), some (.int v1), some (.int v2), some (.int v3), l4] [.int s2, .int s1, .ref 256] μ (zD188_83  c30 v1 v2 v3 s1 s2 μ) := by
  intro v1 v2 v3 s1 s2 l4 μ hT
  unfold zD188_83
  refine zK_x (fun j41 h42 h43 h44 => ?_)
  refine zK_sI (a := 256) (g := (fun x => x)) rfl rfl hT h42 h43 h44 rfl (fun m45 T46 => ?_)
  refine zK_op rfl rfl ?_
  refine zK_op rfl rfl ?_
  exact hc30 v1 v2 (v3 + (1)) _ m45 T46
theorem zD188_56_ok {μ0 : xe_Mem} {δ : xe_Dy} {d : Nat} (hd : 0 ≤ d) {c30 : Int32 → Int32 → Int32 → xe_Mem → zO} (hc30 : ∀ (v1 : Int32) (v2 : Int32) (v3 : Int32) (l4 : Option Value) (μ : xe_Mem), zT zPr μ0 μ → zK zPr μ0 δ d 188 30 [some (.ref 203), some (.int v1), some (.int v2), some (.int v3), l4] [] μ (c30 v1 v2 v3 μ)) : ∀ (v1 : Int32) (v2 : Int32) (v3 : Int32) (s0 : Int32) (l4 : Option Value) (μ : xe_Mem), zT zPr μ0 μ → zK zPr μ0 δ d 188 56 [some (.ref 203), some (.int v1), some (.int v2), some (.int v3), l4] [.int s0] μ (zD188_56  c30 v1 v2 v3 s0 μ) := by
  intro v1 v2 v3 s0 l4 μ hT
  unfold zD188_56
  refine zK_op rfl rfl ?_
  refine zK_op rfl rfl ?_
  refine zK_gRl (b := 256) rfl rfl rfl hT ?_
  refine zK_op rfl rfl ?_
  refine zK_op rfl rfl ?_
  refine zK_op rfl rfl ?_
  refine zK_op rfl rfl ?_
  refine zK_op rfl rfl ?_
  refine zK_op rfl rfl ?_
  refine zK_ifeq rfl (fun _ => ?_) (fun _ => ?_)
  · refine zK_op rfl rfl ?_
    refine zK_gRl (b := 256) rfl rfl rfl hT ?_
    refine zK_op rfl rfl ?_
    refine zK_op rfl rfl ?_
    refine zK_op rfl rfl ?_
    refine zK_op rfl rfl ?_
    refine zK_op rfl rfl ?_
    refine zK_x (fun j37 h38 h39 h40 => ?_)
    refine zK_aI rfl rfl hT h38 h39 h40 ?_
    exact zD188_83_ok hd hc30 v1 v2 v3 ((12 * v3) + v2) (xe_I μ 256 j37) _ μ hT
  refine zK_op rfl rfl ?_
  refine zK_gRl (b := 261) rfl rfl rfl hT ?_
  refine zK_op rfl rfl ?_
  refine zK_op rfl rfl ?_
  refine zK_op rfl rfl ?_
  refine zK_op rfl rfl ?_
  refine zK_op rfl rfl ?_
  refine zK_x (fun j47 h48 h49 h50 => ?_)
  refine zK_aI rfl rfl hT h48 h49 h50 ?_
  refine zK_op rfl rfl ?_
  exact zD188_83_ok hd hc30 v1 v2 v3 ((12 * v3) + v2) (xe_I μ 261 j47) _ μ hT
theorem zD188_53_ok {μ0 : xe_Mem} {δ : xe_Dy} {d : Nat} (hd : 0 ≤ d) {c30 : Int32 → Int32 → Int32 → xe_Mem → zO} (hc30 : ∀ (v1 : Int32) (v2 : Int32) (v3 : Int32) (l4 : Option Value) (μ : xe_Mem), zT zPr μ0 μ → zK zPr μ0 δ d 188 30 [some (.ref 203), some (.int v1), some (.int v2), some (.int v3), l4] [] μ (c30 v1 v2 v3 μ)) : ∀ (v1 : Int32) (v2 : Int32) (v3 : Int32) (l4 : Option Value) (μ : xe_Mem), zT zPr μ0 μ → zK zPr μ0 δ d 188 53 [some (.ref 203), some (.int v1), some (.int v2), some (.int v3), l4] [] μ (zD188_53  c30 v1 v2 v3 μ) := by
  intro v1 v2 v3 l4 μ hT
  unfold zD188_53
  refine zK_op rfl rfl ?_
  refine zK_op rfl rfl ?_
  exact zD188_56_ok hd hc30 v1 v2 v3 1 _ μ hT
theorem zD188_55_ok {μ0 : xe_Mem} {δ : xe_Dy} {d : Nat} (hd : 0 ≤ d) {c30 : Int32 → Int32 → Int32 → xe_Mem → zO} (hc30 : ∀ (v1 : Int32) (v2 : Int32) (v3 : Int32) (l4 : Option Value) (μ : xe_Mem), zT zPr μ0 μ → zK zPr μ0 δ d 188 30 [some (.ref 203), some (.int v1), some (.int v2), some (.int v3), l4] [] μ (c30 v1 v2 v3 μ)) : ∀ (v1 : Int32) (v2 : Int32) (v3 : Int32) (l4 : Option Value) (μ : xe_Mem), zT zPr μ0 μ → zK zPr μ0 δ d 188 55 [some (.ref 203), some (.int v1), some (.int v2), some (.int v3), l4] [] μ (zD188_55  c30 v1 v2 v3 μ) := by
  intro v1 v2 v3 l4 μ hT
  unfold zD188_55
  refine zK_op rfl rfl ?_
  exact zD188_56_ok hd hc30 v1 v2 v3 0 _ μ hT
theorem zD188_30_bok {μ0 : xe_Mem} {δ : xe_Dy} {d : Nat} (hd : 0 ≤ d) {c2 : Int32 → Int32 → xe_Mem → zO} (hc2 : ∀ (v1 : Int32) (v2 : Int32) (l3 : Option Value) (l4 : Option Value) (μ : xe_Mem), zT zPr μ0 μ → zK zPr μ0 δ d 188 2 [some (.ref 203), some (.int v1), some (.int v2), l3, l4] [] μ (c2 v1 v2 μ)) {c30 : Int32 → Int32 → Int32 → xe_Mem → zO} (hc30 : ∀ (v1 : Int32) (v2 : Int32) (v3 : Int32) (l4 : Option Value) (μ : xe_Mem), zT zPr μ0 μ → zK zPr μ0 δ d 188 30 [some (.ref 203), some (.int v1), some (.int v2), some (.int v3), l4] [] μ (c30 v1 v2 v3 μ)) : ∀ (v1 : Int32) (v2 : Int32) (v3 : Int32) (l4 : Option Value) (μ : xe_Mem), zT zPr μ0 μ → zK zPr μ0 δ d 188 30 [some (.ref 203), some (.int v1), some (.int v2), some (.int v3), l4] [] μ (zD188_30_b  c2 c30 v1 v2 v3 μ) := by
  intro v1 v2 v3 l4 μ hT
  unfold zD188_30_b
  refine zK_op rfl rfl ?_
  refine zK_op rfl rfl ?_
  refine zK_icge rfl (fun _ => ?_) (fun _ => ?_)
  · exact zD188_86_ok hd hc2 v1 v2 _ _ μ hT
  refine zK_op rfl rfl ?_
  refine zK_gRl (b := 259) rfl rfl rfl hT ?_
  refine zK_op rfl rfl ?_
  refine zK_x (fun j29 h30 h31 h32 => ?_)
  refine zK_aI rfl rfl hT h30 h31 h32 ?_
  refine zK_ifne rfl (fun _ => ?_) (fun _ => ?_)
  · refine zK_op rfl rfl ?_
    refine zK_op rfl rfl ?_
    refine zK_gRl (b := 219) rfl rfl rfl hT ?_
    refine zK_op rfl rfl ?_
    refine zK_x (fun j33 h34 h35 h36 => ?_)
    refine zK_aI rfl rfl hT h34 h35 h36 ?_
    refine zK_iceq rfl (fun _ => ?_) (fun _ => ?_)
    · exact zD188_53_ok hd hc30 v1 v2 v3 _ μ hT
    refine zK_op rfl rfl ?_
    refine zK_gRl (b := 263) rfl rfl rfl hT ?_
    refine zK_op rfl rfl ?_
    refine zK_op rfl rfl ?_
    refine zK_op rfl rfl ?_
    refine zK_op rfl rfl ?_
    refine zK_op rfl rfl ?_
    refine zK_x (fun j51 h52 h53 h54 => ?_)
    refine zK_aI rfl rfl hT h52 h53 h54 ?_
    refine zK_ifeq rfl (fun _ => ?_) (fun _ => ?_)
    · exact zD188_55_ok hd hc30 v1 v2 v3 _ μ hT
    exact zD188_53_ok hd hc30 v1 v2 v3 _ μ hT
  exact zD188_55_ok hd hc30 v1 v2 v3 _ μ hT
theorem zD188_30_ok {μ0 : xe_Mem} {δ : xe_Dy} {d : Nat} (hd : 0 ≤ d) {c2 : Int32 → Int32 → xe_Mem → zO} (hc2 : ∀ (v1 : Int32) (v2 : Int32) (l3 : Option Value) (l4 : Option Value) (μ : xe_Mem), zT zPr μ0 μ → zK zPr μ0 δ d 188 2 [some (.ref 203), some (.int v1), some (.int v2), l3, l4] [] μ (c2 v1 v2 μ)) : ∀ n : Nat, ∀ (v1 : Int32) (v2 : Int32) (v3 : Int32) (l4 : Option Value) (μ : xe_Mem), zT zPr μ0 μ → zK zPr μ0 δ d 188 30 [some (.ref 203), some (.int v1), some (.int v2), some (.int v3), l4] [] μ (zD188_30  c2 n v1 v2 v3 μ) := by
  intro n
  induction n with
  | zero => exact fun _ _ _ _ _ _  => fun o μ' h => by cases h
  | succ n ih => exact zD188_30_bok hd  hc2 ih
theorem zD188_2_bok {μ0 : xe_Mem} {δ : xe_Dy} {d : Nat} (hd : 0 ≤ d)  {c2 : Int32 → Int32 → xe_Mem → zO} (hc2 : ∀ (v1 : Int32) (v2 : Int32) (l3 : Option Value) (l4 : Option Value) (μ : xe_Mem), zT zPr μ0 μ → zK zPr μ0 δ d 188 2 [some (.ref 203), some (.int v1), some (.int v2), l3, l4] [] μ (c2 v1 v2 μ)) : ∀ (v1 : Int32) (v2 : Int32) (l3 : Option Value) (l4 : Option Value) (μ : xe_Mem), zT zPr μ0 μ → zK zPr μ0 δ d 188 2 [some (.ref 203), some (.int v1), some (.int v2), l3, l4] [] μ (zD188_2_b  c2 v1 v2 μ) := by
  intro v1 v2 l3 l4 μ hT
  unfold zD188_2_b
  refine zK_op rfl rfl ?_
  refine zK_op rfl rfl ?_
  refine zK_gI rfl rfl hT ?_
  refine zK_icge rfl (fun _ => ?_) (fun _ => ?_)
  · refine zK_op rfl rfl ?_
    refine zK_gRl (b := 259) rfl rfl rfl hT ?_
    refine zK_op rfl rfl ?_
    refine zK_x (fun j1 h2 h3 h4 => ?_)
    refine zK_aI rfl rfl hT h2 h3 h4 ?_
    refine zK_ifne rfl (fun _ => ?_) (fun _ => ?_)
    · exact zK_ret0 rfl hT
    refine zK_op rfl rfl ?_
    refine zK_op rfl rfl ?_
    refine zK_gI rfl rfl hT ?_
    refine zK_op rfl rfl ?_
    refine zK_op rfl rfl ?_
    refine zK_pI rfl rfl hT rfl (fun m5 T6 => ?_)
    refine zK_op rfl rfl ?_
    refine zK_op rfl rfl ?_
    refine zK_pI rfl rfl T6 rfl (fun m7 T8 => ?_)
    refine zK_op rfl rfl ?_
    refine zK_gRl (b := 259) rfl rfl rfl T8 ?_
    refine zK_op rfl rfl ?_
    refine zK_op rfl rfl ?_
    refine zK_x (fun j9 h10 h11 h12 => ?_)
    refine zK_sI (a := 259) (g := (fun x => x)) rfl rfl T8 h10 h11 h12 rfl (fun m13 T14 => ?_)
    exact zK_ret0 rfl T14
  refine zK_op rfl rfl ?_
  refine zK_gRl (b := 227) rfl rfl rfl hT ?_
  refine zK_op rfl rfl ?_
  refine zK_op rfl rfl ?_
  refine zK_op rfl rfl ?_
  refine zK_op rfl rfl ?_
  refine zK_op rfl rfl ?_
  refine zK_x (fun j15 h16 h17 h18 => ?_)
  refine zK_aI rfl rfl hT h16 h17 h18 ?_
  refine zK_ifne rfl (fun _ => ?_) (fun _ => ?_)
  · refine zK_op rfl rfl ?_
    exact zD188_86_ok hd hc2 v1 v2 _ _ μ hT
  refine zK_op rfl rfl ?_
  refine zK_gRl (b := 255) rfl rfl rfl hT ?_
  refine zK_op rfl rfl ?_
  refine zK_op rfl rfl ?_
  refine zK_gRl (b := 262) rfl rfl rfl hT ?_
  refine zK_op rfl rfl ?_
  refine zK_op rfl rfl ?_
  refine zK_op rfl rfl ?_
  refine zK_op rfl rfl ?_
  refine zK_op rfl rfl ?_
  refine zK_x (fun j19 h20 h21 h22 => ?_)
  refine zK_aI rfl rfl hT h20 h21 h22 ?_
  refine zK_x (fun j23 h24 h25 h26 => ?_)
  refine zK_sI (a := 255) (g := (fun x => x)) rfl rfl hT h24 h25 h26 rfl (fun m27 T28 => ?_)
  refine zK_op rfl rfl ?_
  refine zK_op rfl rfl ?_
  exact zD188_30_ok hd hc2 zfu v1 v2 0 _ m27 T28
theorem zD188_2_ok {μ0 : xe_Mem} {δ : xe_Dy} {d : Nat} (hd : 0 ≤ d)  : ∀ n : Nat, ∀ (v1 : Int32) (v2 : Int32) (l3 : Option Value) (l4 : Option Value) (μ : xe_Mem), zT zPr μ0 μ → zK zPr μ0 δ d 188 2 [some (.ref 203), some (.int v1), some (.int v2), l3, l4] [] μ (zD188_2  n v1 v2 μ) := by
  intro n
  induction n with
  | zero => exact fun _ _ _ _ _ _  => fun o μ' h => by cases h
  | succ n ih => exact zD188_2_bok hd   ih
theorem zD188_ok {μ0 : xe_Mem} {δ : xe_Dy} {d : Nat} (hd : 0 ≤ d) (a1 : Int32) (μ : xe_Mem) (hT : zT zPr μ0 μ) : zK zPr μ0 δ d 188 0 (xe_init [.ref 203, .int a1] (xM_L 188)) [] μ (zD188 a1 μ) := by
  unfold zD188
  show zK zPr μ0 δ d 188 0 [some (.ref 203), some (.int a1), none, none, none] [] μ _
  refine zK_op rfl rfl ?_
  refine zK_op rfl rfl ?_
  exact zD188_2_ok hd zfu a1 0 _ _ μ hT
