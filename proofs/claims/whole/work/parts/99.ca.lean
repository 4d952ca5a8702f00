/-! running: the steps of both -/
/-- two values put together -/
def zop2 (q : Nat) (x y : Int32) : Int32 := if q = 18 then (if y ≤ x then 0 else 1) else if q = 19 then (if x ≤ y then 0 else 1) else if q = 20 then x + y else if q = 21 then x - y else if q = 22 then x * y else if q = 23 then (if y = 0 then 0 else x / y) else (if y = 0 then 0 else x - x / y * y)
theorem z114 {q : Nat} {x y : Int32} {μ ν : xe_Mem} (h1 : 18 ≤ q) (h2 : q ≤ 24) : zD114 (zac q) x y μ = zint (zop2 q x y) μ ∧ zD191 (nI (zsc q)) x y ν = zint (zop2 q x y) ν := by
  have : q = 18 ∨ q = 19 ∨ q = 20 ∨ q = 21 ∨ q = 22 ∨ q = 23 ∨ q = 24 := by omega
  rcases this with rfl | rfl | rfl | rfl | rfl | rfl | rfl
  · show zD114 11 x y μ = _ ∧ zD191 60 x y ν = _
    unfold zD114 zD191 zop2 zD114_21 zD114_29 zD114_36 zD114_43 zD191_29 zD191_21 zD191_36 zD191_43
    simp (config := { decide := true }) only [↓reduceIte]
    constructor <;> split <;> rfl
  · show zD114 12 x y μ = _ ∧ zD191 62 x y ν = _
    unfold zD114 zD191 zop2 zD114_21 zD114_29 zD114_36 zD114_43 zD191_29 zD191_21 zD191_36 zD191_43
    simp (config := { decide := true }) only [↓reduceIte]
    constructor <;> split <;> rfl
  · show zD114 6 x y μ = _ ∧ zD191 43 x y ν = _
    unfold zD114 zD191 zop2 zD114_21 zD114_29 zD114_36 zD114_43 zD191_29 zD191_21 zD191_36 zD191_43
    simp (config := { decide := true }) only [↓reduceIte]
    first | done | exact ⟨rfl, rfl⟩
  · show zD114 7 x y μ = _ ∧ zD191 45 x y ν = _
    unfold zD114 zD191 zop2 zD114_21 zD114_29 zD114_36 zD114_43 zD191_29 zD191_21 zD191_36 zD191_43
    simp (config := { decide := true }) only [↓reduceIte]
    first | done | exact ⟨rfl, rfl⟩
  · show zD114 8 x y μ = _ ∧ zD191 42 x y ν = _
    unfold zD114 zD191 zop2 zD114_21 zD114_29 zD114_36 zD114_43 zD191_29 zD191_21 zD191_36 zD191_43
    simp (config := { decide := true }) only [↓reduceIte]
    first | done | exact ⟨rfl, rfl⟩
  · show zD114 9 x y μ = _ ∧ zD191 47 x y ν = _
    unfold zD114 zD191 zop2 zD114_21 zD114_29 zD114_36 zD114_43 zD191_29 zD191_21 zD191_36 zD191_43
    simp (config := { decide := true }) only [↓reduceIte]
    constructor <;> split <;> first | rfl | (rw [zd_ok (by assumption)])
  · show zD114 10 x y μ = _ ∧ zD191 37 x y ν = _
    unfold zD114 zD191 zop2 zD114_21 zD114_29 zD114_36 zD114_43 zD191_29 zD191_21 zD191_36 zD191_43
    simp (config := { decide := true }) only [↓reduceIte]
    constructor <;> split <;> first | rfl | (rw [zd_ok (by assumption)])
theorem zqa1 (a : Nat) : nI (a + 1) + (-1) = nI a := by
  rw [← nI_1, Int32.add_assoc, show (1 : Int32) + (-1) = 0 by decide, Int32.add_zero]
theorem zqs1 (a : Nat) : nI (a + 1) - 1 = nI a := by
  rw [← nI_1, Int32.add_sub_cancel]
theorem zqr1 (x : Int32) : x - 1 + 1 = x := Int32.sub_add_cancel x 1
section
variable {μ ν : xe_Mem} {x v1 : Int32} {i b0 n g G h rd off v3 v5 U : Nat}
theorem z111 (hh : xe_I μ 8 4 = nI h) (h6 : h < 60) : zD111 x μ = some (.inl none, xe_setI (xe_setI μ 11 h x) 8 4 (nI (h + 1))) := by
  unfold zD111
  rw [hh, zx_nI h6 (by decide)]
  simp only [zq_m]
  rw [xu_In (by omega), hh, nI_1]
theorem z112 (hh : xe_I μ 8 4 = nI (h + 1)) (h6 : h < 60) : zD112 μ = zint (xe_I μ 11 h) (xe_setI μ 8 4 (nI h)) := by
  unfold zD112
  rw [hh, zqs1]
  simp only [zq_m]
  rw [xu_I, zx_nI h6 (by decide), xu_In (by omega)]
theorem zc_1 (hi : i < b0) (hb : b0 ≤ 3000) (hn : n < 1000000) (hx : xe_I μ 9 i = 1) : zD110_14 (g + 1) (nI b0) v3 v5 (nI i) (nI n) μ = zq_cV (zD111 (xe_I μ 10 i) μ) fun m => zD110_14 g (nI b0) v3 v5 (nI (i + 1)) (nI (n + 1)) m := by
  show zD110_14_b (zD110_14 g) _ _ _ _ _ _ = _
  unfold zD110_14_b
  rw [if_neg (show ¬ (1000000 : Int32) ≤ nI n from nI_ge (b := 1000000) hn (by decide)), if_neg (nI_ge hi (by omega)), zx_nI (show i < 3000 by omega) (by decide)]
  simp only [zq_vI]
  rw [zx_nI (show i < 3000 by omega) (by decide)]
  simp (config := { decide := true }) only [zq_vI, hx, ↓reduceIte, zD110_123, zD110_93, zD110_108, nI_1]

theorem zc_2 (hi : i < b0) (hb : b0 ≤ 3000) (hn : n < 1000000) (hx : xe_I μ 9 i = 2) (h3 : xv_S[v3]? = some (.inr (0, 12))) (h3b : v3 < 203) {p : Nat} (hp : p < 12) (hy : xe_I μ 10 i = nI p) : zD110_14 (g + 1) (nI b0) v3 v5 (nI i) (nI n) μ = zq_cV (zD111 (xe_I μ v3 p) μ) fun m => zD110_14 g (nI b0) v3 v5 (nI (i + 1)) (nI (n + 1)) m := by
  show zD110_14_b (zD110_14 g) _ _ _ _ _ _ = _
  unfold zD110_14_b
  rw [if_neg (show ¬ (1000000 : Int32) ≤ nI n from nI_ge (b := 1000000) hn (by decide)), if_neg (nI_ge hi (by omega)), zx_nI (show i < 3000 by omega) (by decide)]
  simp only [zq_vI]
  rw [zx_nI (show i < 3000 by omega) (by decide)]
  simp (config := { decide := true }) only [zq_vI, hx, ↓reduceIte, zD110_123, zD110_93, zD110_108, nI_1]
  rw [za_in h3 h3b, hy, zx_nI hp (by decide)]
theorem zc_3 (hi : i < b0) (hb : b0 ≤ 3000) (hn : n < 1000000) (hx : xe_I μ 9 i = 3) {p : Nat} (hp : p < 4) (hy : xe_I μ 10 i = nI p) : zD110_14 (g + 1) (nI b0) v3 v5 (nI i) (nI n) μ = zq_cV (zD111 (xe_I μ 201 p) μ) fun m => zD110_14 g (nI b0) v3 v5 (nI (i + 1)) (nI (n + 1)) m := by
  show zD110_14_b (zD110_14 g) _ _ _ _ _ _ = _
  unfold zD110_14_b
  rw [if_neg (show ¬ (1000000 : Int32) ≤ nI n from nI_ge (b := 1000000) hn (by decide)), if_neg (nI_ge hi (by omega)), zx_nI (show i < 3000 by omega) (by decide)]
  simp only [zq_vI]
  rw [zx_nI (show i < 3000 by omega) (by decide)]
  simp (config := { decide := true }) only [zq_vI, hx, ↓reduceIte, zD110_123, zD110_93, zD110_108, nI_1]
  rw [hy, zx_nI hp (by decide)]
theorem zc_4 (hi : i < b0) (hb : b0 ≤ 3000) (hn : n < 1000000) (hx : xe_I μ 9 i = 4) {p : Nat} (hp : p < 6) (hy : xe_I μ 10 i = nI p) : zD110_14 (g + 1) (nI b0) v3 v5 (nI i) (nI n) μ = zq_cV (zD111 (xe_I μ 13 p) μ) fun m => zD110_14 g (nI b0) v3 v5 (nI (i + 1)) (nI (n + 1)) m := by
  show zD110_14_b (zD110_14 g) _ _ _ _ _ _ = _
  unfold zD110_14_b
  rw [if_neg (show ¬ (1000000 : Int32) ≤ nI n from nI_ge (b := 1000000) hn (by decide)), if_neg (nI_ge hi (by omega)), zx_nI (show i < 3000 by omega) (by decide)]
  simp only [zq_vI]
  rw [zx_nI (show i < 3000 by omega) (by decide)]
  simp (config := { decide := true }) only [zq_vI, hx, ↓reduceIte, zD110_123, zD110_93, zD110_108, nI_1]
  rw [hy, zx_nI hp (by decide)]
theorem zc_5 (hi : i < b0) (hb : b0 ≤ 3000) (hn : n < 1000000) (hx : xe_I μ 9 i = 5) : zD110_14 (g + 1) (nI b0) v3 v5 (nI i) (nI n) μ = zq_cI (zD112 μ) fun x m1 => zq_cV (zD111 (-x) m1) fun m => zD110_14 g (nI b0) v3 v5 (nI (i + 1)) (nI (n + 1)) m := by
  show zD110_14_b (zD110_14 g) _ _ _ _ _ _ = _
  unfold zD110_14_b
  rw [if_neg (show ¬ (1000000 : Int32) ≤ nI n from nI_ge (b := 1000000) hn (by decide)), if_neg (nI_ge hi (by omega)), zx_nI (show i < 3000 by omega) (by decide)]
  simp only [zq_vI]
  rw [zx_nI (show i < 3000 by omega) (by decide)]
  simp (config := { decide := true }) only [zq_vI, hx, ↓reduceIte, zD110_123, zD110_93, zD110_108, nI_1]

theorem zc_13 (hi : i < b0) (hb : b0 ≤ 3000) (hn : n < 1000000) (hx : xe_I μ 9 i = 13) (h5 : xv_S[v5]? = some (.inr (0, 12))) (h5b : v5 < 203) {p : Nat} (hp : p < 12) (hy : xe_I μ 10 i = nI p) : zD110_14 (g + 1) (nI b0) v3 v5 (nI i) (nI n) μ = zq_cI (zD112 μ) fun x m => zD110_14 g (nI b0) v3 v5 (nI (i + 1)) (nI (n + 1)) (xe_setI m v5 p x) := by
  show zD110_14_b (zD110_14 g) _ _ _ _ _ _ = _
  unfold zD110_14_b
  rw [if_neg (show ¬ (1000000 : Int32) ≤ nI n from nI_ge (b := 1000000) hn (by decide)), if_neg (nI_ge hi (by omega)), zx_nI (show i < 3000 by omega) (by decide)]
  simp only [zq_vI]
  rw [zx_nI (show i < 3000 by omega) (by decide)]
  simp (config := { decide := true }) only [zq_vI, hx, ↓reduceIte, zD110_123, zD110_93, zD110_108, nI_1]
  simp only [za_in h5 h5b, hy, zx_nI hp (show 12 < 2147483648 by decide), zq_m]
theorem zc_14 (hi : i < b0) (hb : b0 ≤ 3000) (hn : n < 1000000) (hx : xe_I μ 9 i = 14) {p : Nat} (hp : p < 6) (hy : xe_I μ 10 i = nI p) : zD110_14 (g + 1) (nI b0) v3 v5 (nI i) (nI n) μ = zq_cI (zD112 μ) fun x m => zD110_14 g (nI b0) v3 v5 (nI (i + 1)) (nI (n + 1)) (xe_setI m 13 p x) := by
  show zD110_14_b (zD110_14 g) _ _ _ _ _ _ = _
  unfold zD110_14_b
  rw [if_neg (show ¬ (1000000 : Int32) ≤ nI n from nI_ge (b := 1000000) hn (by decide)), if_neg (nI_ge hi (by omega)), zx_nI (show i < 3000 by omega) (by decide)]
  simp only [zq_vI]
  rw [zx_nI (show i < 3000 by omega) (by decide)]
  simp (config := { decide := true }) only [zq_vI, hx, ↓reduceIte, zD110_123, zD110_93, zD110_108, nI_1]
  simp only [hy, zx_nI hp (show 6 < 2147483648 by decide), zq_m]
theorem zc_15 (hi : i < b0) (hb : b0 ≤ 3000) (hn : n < 1000000) (hx : xe_I μ 9 i = 15) : zD110_14 (g + 1) (nI b0) v3 v5 (nI i) (nI n) μ = zq_cI (zD112 μ) fun x m => if x = 0 then zD110_14 g (nI b0) v3 v5 (xe_I μ 10 i) (nI (n + 1)) m else zD110_14 g (nI b0) v3 v5 (nI (i + 1)) (nI (n + 1)) m := by
  show zD110_14_b (zD110_14 g) _ _ _ _ _ _ = _
  unfold zD110_14_b
  rw [if_neg (show ¬ (1000000 : Int32) ≤ nI n from nI_ge (b := 1000000) hn (by decide)), if_neg (nI_ge hi (by omega)), zx_nI (show i < 3000 by omega) (by decide)]
  simp only [zq_vI]
  rw [zx_nI (show i < 3000 by omega) (by decide)]
  simp (config := { decide := true }) only [zq_vI, hx, ↓reduceIte, zD110_123, zD110_93, zD110_108, nI_1]
  simp only [zqr1]
theorem zc_16 (hi : i < b0) (hb : b0 ≤ 3000) (hn : n < 1000000) (hx : xe_I μ 9 i = 16) : zD110_14 (g + 1) (nI b0) v3 v5 (nI i) (nI n) μ = zD110_14 g (nI b0) v3 v5 (xe_I μ 10 i) (nI (n + 1)) μ := by
  show zD110_14_b (zD110_14 g) _ _ _ _ _ _ = _
  unfold zD110_14_b
  rw [if_neg (show ¬ (1000000 : Int32) ≤ nI n from nI_ge (b := 1000000) hn (by decide)), if_neg (nI_ge hi (by omega)), zx_nI (show i < 3000 by omega) (by decide)]
  simp only [zq_vI]
  rw [zx_nI (show i < 3000 by omega) (by decide)]
  simp (config := { decide := true }) only [zq_vI, hx, ↓reduceIte, zD110_123, zD110_93, zD110_108, nI_1]
  simp only [zqr1]
theorem zc_17 (hi : i < b0) (hb : b0 ≤ 3000) (hn : n < 1000000) (hx : xe_I μ 9 i = 17) (hr : xe_I μ 8 6 = nI rd) (hr5 : rd < 5) : zD110_14 (g + 1) (nI b0) v3 v5 (nI i) (nI n) μ = zD110_14 g (nI b0) v3 v5 (nI (i + 1)) (nI (n + 1)) (xe_setI (xe_setI μ 12 rd (xe_I μ 10 i)) 8 6 (nI (rd + 1))) := by
  show zD110_14_b (zD110_14 g) _ _ _ _ _ _ = _
  unfold zD110_14_b
  rw [if_neg (show ¬ (1000000 : Int32) ≤ nI n from nI_ge (b := 1000000) hn (by decide)), if_neg (nI_ge hi (by omega)), zx_nI (show i < 3000 by omega) (by decide)]
  simp only [zq_vI]
  rw [zx_nI (show i < 3000 by omega) (by decide)]
  simp (config := { decide := true }) only [zq_vI, hx, ↓reduceIte, zD110_123, zD110_93, zD110_108, nI_1]
  rw [hr, zx_nI hr5 (by decide)]
  simp only [zq_m]
  rw [xu_In (by omega), hr, nI_1]
theorem zc_18 (hi : i < b0) (hb : b0 ≤ 3000) (hn : n < 1000000) (hx : xe_I μ 9 i = 18) : zD110_14 (g + 1) (nI b0) v3 v5 (nI i) (nI n) μ = zq_cI (zD113 μ) fun x m => if x = 0 then zD110_14 g (nI b0) v3 v5 (xe_I μ 10 i) (nI (n + 1)) m else zD110_14 g (nI b0) v3 v5 (nI (i + 1)) (nI (n + 1)) m := by
  show zD110_14_b (zD110_14 g) _ _ _ _ _ _ = _
  unfold zD110_14_b
  rw [if_neg (show ¬ (1000000 : Int32) ≤ nI n from nI_ge (b := 1000000) hn (by decide)), if_neg (nI_ge hi (by omega)), zx_nI (show i < 3000 by omega) (by decide)]
  simp only [zq_vI]
  rw [zx_nI (show i < 3000 by omega) (by decide)]
  simp (config := { decide := true }) only [zq_vI, hx, ↓reduceIte, zD110_123, zD110_93, zD110_108, nI_1]
  simp only [zqr1]
theorem zc_6 {q : Nat} (hi : i < b0) (hb : b0 ≤ 3000) (hn : n < 1000000) (hq : 18 ≤ q) (hq2 : q ≤ 24) (hx : xe_I μ 9 i = zac q) : zD110_14 (g + 1) (nI b0) v3 v5 (nI i) (nI n) μ = zq_cI (zD112 μ) fun y m1 => zq_cI (zD112 m1) fun x m2 => zq_cI (zD114 (xe_I m1 9 i) x y m2) fun z m3 => zq_cV (zD111 z m3) fun m => zD110_14 g (nI b0) v3 v5 (nI (i + 1)) (nI (n + 1)) m := by
  show zD110_14_b (zD110_14 g) _ _ _ _ _ _ = _
  unfold zD110_14_b
  rw [if_neg (show ¬ (1000000 : Int32) ≤ nI n from nI_ge (b := 1000000) hn (by decide)), if_neg (nI_ge hi (by omega)), zx_nI (show i < 3000 by omega) (by decide)]
  simp only [zq_vI]
  rw [zx_nI (show i < 3000 by omega) (by decide)]
  have hz : ∀ z : Int32, (z = 1 ∨ z = 2 ∨ z = 3 ∨ z = 4 ∨ z = 5 ∨ z = 13 ∨ z = 14 ∨ z = 15 ∨ z = 16 ∨ z = 17 ∨ z = 18) → ¬ xe_I μ 9 i = z := fun z hz w => by
    have hq3 : q = 18 ∨ q = 19 ∨ q = 20 ∨ q = 21 ∨ q = 22 ∨ q = 23 ∨ q = 24 := by omega
    rw [hx] at w
    subst w
    revert hz
    rcases hq3 with rfl | rfl | rfl | rfl | rfl | rfl | rfl <;> decide
  rw [if_neg (hz 1 (by decide)), if_neg (hz 2 (by decide)), if_neg (hz 3 (by decide)), if_neg (hz 4 (by decide)), if_neg (hz 5 (by decide)), if_neg (hz 13 (by decide)), if_neg (hz 14 (by decide)), if_neg (hz 15 (by decide)), if_neg (hz 16 (by decide)), if_neg (hz 17 (by decide)), if_neg (hz 18 (by decide))]
  simp only [zD110_110, zD110_123, nI_1, zx_nI (show i < 3000 by omega) (show 3000 < 2147483648 by decide)]
theorem zc_end (hn : n ≤ 1000000) (hb : b0 ≤ 3000) : zD110_14 (g + 1) (nI b0) v3 v5 (nI b0) (nI n) μ = zint (xe_I μ 11 0) μ := by
  show zD110_14_b (zD110_14 g) _ _ _ _ _ _ = _
  unfold zD110_14_b
  by_cases e : n = 1000000
  · rw [if_pos (show (1000000 : Int32) ≤ nI n from nI_le (a := 1000000) (by omega) (by omega))]
    rfl
  · rw [if_neg (show ¬ (1000000 : Int32) ≤ nI n from nI_ge (b := 1000000) (by omega) (by decide)), if_pos (nI_le (Nat.le_refl _) (by omega))]
    rfl
theorem z113 (hr : xe_I μ 8 6 = nI (rd + 1)) (hr5 : rd < 5) {k : Nat} (hk : xe_I μ 12 rd = nI (k + 1)) (hk9 : k < 9) : zD113 μ = if k = 0 then zint 1 (xe_setI (xe_setI μ 12 rd (nI 0)) 8 6 (nI rd)) else zint 0 (xe_setI (xe_setI μ 12 rd (nI k)) 8 6 (nI (rd + 1))) := by
  unfold zD113
  rw [hr, zqs1, zx_nI hr5 (by decide), zx_nI hr5 (by decide), hk, zqs1]
  simp only [zq_m]
  rw [xu_In (by omega), hr, zqs1, zx_nI hr5 (by decide), xu_I]
  unfold zD113_22 zD113_31
  by_cases e : k = 0
  · subst e
    rw [if_pos (show nI 0 = 0 by decide), if_pos rfl, if_neg (show ¬ (1 : Int32) = 0 by decide)]
    simp only [zq_m]
    rw [xu_In (by omega), hr, zqs1, zz_1]
  · rw [if_neg (nI_ne0 (by omega) (by omega)), if_neg e, if_pos rfl]
    simp only [zq_m]
    rw [xu_In (by omega), hr, zz_0, Int32.sub_zero]
theorem zr_1 (hU : U < 6000) (hx : xe_I ν 239 U = 1) (h6 : h < 70) : zD190_33 (G + 1) v1 (nI h) (nI rd) (nI U) ν = zD190_33 G v1 (nI (h + 1)) (nI rd) (nI (U + 1)) (xe_setI ν 253 h (xe_I ν 240 U)) := by
  show zD190_33_b (zD190_33 G) _ _ _ _ _ = _
  unfold zD190_33_b
  rw [zx_nI hU (by decide)]
  simp (config := { decide := true }) only [zx_nI hU (show 6000 < 2147483648 by decide), zq_vI, hx, ↓reduceIte, zD190_62, zD190_90, zD190_139, zD190_173, zD190_212, nI_1, zqa1, zqs1]
  rw [zx_nI h6 (by decide)]
  rfl
theorem zr_2 (hU : U < 6000) (hx : xe_I ν 239 U = 2) (h6 : h < 70) {p : Nat} (hp : p < 12) (hy : xe_I ν 240 U = nI p) : zD190_33 (G + 1) v1 (nI h) (nI rd) (nI U) ν = zD190_33 G v1 (nI (h + 1)) (nI rd) (nI (U + 1)) (xe_setI ν 253 h (xe_I ν 250 p)) := by
  show zD190_33_b (zD190_33 G) _ _ _ _ _ = _
  unfold zD190_33_b
  rw [zx_nI hU (by decide)]
  simp (config := { decide := true }) only [zx_nI hU (show 6000 < 2147483648 by decide), zq_vI, hx, ↓reduceIte, zD190_62, zD190_90, zD190_139, zD190_173, zD190_212, nI_1, zqa1, zqs1]
  rw [hy, zx_nI hp (by decide), zx_nI h6 (by decide)]
  rfl
theorem zr_3 (hU : U < 6000) (hx : xe_I ν 239 U = 3) (h6 : h < 70) {p : Nat} (hp : p < 4) (hy : xe_I ν 240 U = nI p) : zD190_33 (G + 1) v1 (nI h) (nI rd) (nI U) ν = zD190_33 G v1 (nI (h + 1)) (nI rd) (nI (U + 1)) (xe_setI ν 253 h (xe_I ν 257 p)) := by
  show zD190_33_b (zD190_33 G) _ _ _ _ _ = _
  unfold zD190_33_b
  rw [zx_nI hU (by decide)]
  simp (config := { decide := true }) only [zx_nI hU (show 6000 < 2147483648 by decide), zq_vI, hx, ↓reduceIte, zD190_62, zD190_90, zD190_139, zD190_173, zD190_212, nI_1, zqa1, zqs1]
  rw [hy, zx_nI hp (by decide), zx_nI h6 (by decide)]
  rfl
theorem zr_4 (hU : U < 6000) (hx : xe_I ν 239 U = 4) (h6 : h < 70) {p : Nat} (hp : p < 6) (hy : xe_I ν 240 U = nI p) : zD190_33 (G + 1) v1 (nI h) (nI rd) (nI U) ν = zD190_33 G v1 (nI (h + 1)) (nI rd) (nI (U + 1)) (xe_setI ν 253 h (xe_I ν 251 p)) := by
  show zD190_33_b (zD190_33 G) _ _ _ _ _ = _
  unfold zD190_33_b
  rw [zx_nI hU (by decide)]
  simp (config := { decide := true }) only [zx_nI hU (show 6000 < 2147483648 by decide), zq_vI, hx, ↓reduceIte, zD190_62, zD190_90, zD190_139, zD190_173, zD190_212, nI_1, zqa1, zqs1]
  rw [hy, zx_nI hp (by decide), zx_nI h6 (by decide)]
  rfl
theorem zr_5 (hU : U < 6000) (hx : xe_I ν 239 U = 5) (h6 : h < 70) : zD190_33 (G + 1) v1 (nI (h + 1)) (nI rd) (nI U) ν = zD190_33 G v1 (nI (h + 1)) (nI rd) (nI (U + 1)) (xe_setI ν 253 h (-(xe_I ν 253 h))) := by
  show zD190_33_b (zD190_33 G) _ _ _ _ _ = _
  unfold zD190_33_b
  rw [zx_nI hU (by decide)]
  simp (config := { decide := true }) only [zx_nI hU (show 6000 < 2147483648 by decide), zq_vI, hx, ↓reduceIte, zD190_62, zD190_90, zD190_139, zD190_173, zD190_212, nI_1, zqa1, zqs1]
  rw [zx_nI h6 (by decide), zx_nI h6 (by decide)]
  rfl
theorem zr_6 (hU : U < 6000) (hx : xe_I ν 239 U = 6) (h6 : h + 1 < 70) {q : Nat} (hq : 18 ≤ q) (hq2 : q ≤ 24) (hy : xe_I ν 240 U = nI (zsc q)) : zD190_33 (G + 1) v1 (nI (h + 1 + 1)) (nI rd) (nI U) ν = zD190_33 G v1 (nI (h + 1)) (nI rd) (nI (U + 1)) (xe_setI ν 253 h (zop2 q (xe_I ν 253 h) (xe_I ν 253 (h + 1)))) := by
  show zD190_33_b (zD190_33 G) _ _ _ _ _ = _
  unfold zD190_33_b
  rw [zx_nI hU (by decide)]
  simp (config := { decide := true }) only [zx_nI hU (show 6000 < 2147483648 by decide), zq_vI, hx, ↓reduceIte, zD190_62, zD190_90, zD190_139, zD190_173, zD190_212, nI_1, zqa1, zqs1]
  rw [zx_nI (show h < 70 by omega) (by decide), zx_nI h6 (by decide), hy, (z114 (μ := ν) hq hq2).2, zcI_ok, zx_nI (show h < 70 by omega) (by decide)]
  rfl
theorem zr_7 (hU : U < 6000) (hx : xe_I ν 239 U = 7) (h6 : h < 70) {p : Nat} (hp : p < 12) (hy : xe_I ν 240 U = nI p) : zD190_33 (G + 1) v1 (nI (h + 1)) (nI rd) (nI U) ν = zD190_33 G v1 (nI h) (nI rd) (nI (U + 1)) (xe_setI ν 252 p (xe_I ν 253 h)) := by
  show zD190_33_b (zD190_33 G) _ _ _ _ _ = _
  unfold zD190_33_b
  rw [zx_nI hU (by decide)]
  simp (config := { decide := true }) only [zx_nI hU (show 6000 < 2147483648 by decide), zq_vI, hx, ↓reduceIte, zD190_62, zD190_90, zD190_139, zD190_173, zD190_212, nI_1, zqa1, zqs1]
  rw [zx_nI h6 (by decide), hy, zx_nI hp (by decide)]
  rfl
theorem zr_8 (hU : U < 6000) (hx : xe_I ν 239 U = 8) (h6 : h < 70) {p : Nat} (hp : p < 6) (hy : xe_I ν 240 U = nI p) : zD190_33 (G + 1) v1 (nI (h + 1)) (nI rd) (nI U) ν = zD190_33 G v1 (nI h) (nI rd) (nI (U + 1)) (xe_setI ν 251 p (xe_I ν 253 h)) := by
  show zD190_33_b (zD190_33 G) _ _ _ _ _ = _
  unfold zD190_33_b
  rw [zx_nI hU (by decide)]
  simp (config := { decide := true }) only [zx_nI hU (show 6000 < 2147483648 by decide), zq_vI, hx, ↓reduceIte, zD190_62, zD190_90, zD190_139, zD190_173, zD190_212, nI_1, zqa1, zqs1]
  rw [zx_nI h6 (by decide), hy, zx_nI hp (by decide)]
  rfl
theorem zr_9 (hU : U < 6000) (hx : xe_I ν 239 U = 9) (h6 : h < 70) : zD190_33 (G + 1) v1 (nI (h + 1)) (nI rd) (nI U) ν = if xe_I ν 253 h = 0 then zD190_33 G v1 (nI h) (nI rd) (xe_I ν 240 U) ν else zD190_33 G v1 (nI h) (nI rd) (nI (U + 1)) ν := by
  show zD190_33_b (zD190_33 G) _ _ _ _ _ = _
  unfold zD190_33_b
  rw [zx_nI hU (by decide)]
  simp (config := { decide := true }) only [zx_nI hU (show 6000 < 2147483648 by decide), zq_vI, hx, ↓reduceIte, zD190_62, zD190_90, zD190_139, zD190_173, zD190_212, nI_1, zqa1, zqs1]
  rw [zx_nI h6 (by decide)]
theorem zr_10 (hU : U < 6000) (hx : xe_I ν 239 U = 10) : zD190_33 (G + 1) v1 (nI h) (nI rd) (nI U) ν = zD190_33 G v1 (nI h) (nI rd) (xe_I ν 240 U) ν := by
  show zD190_33_b (zD190_33 G) _ _ _ _ _ = _
  unfold zD190_33_b
  rw [zx_nI hU (by decide)]
  simp (config := { decide := true }) only [zx_nI hU (show 6000 < 2147483648 by decide), zq_vI, hx, ↓reduceIte, zD190_62, zD190_90, zD190_139, zD190_173, zD190_212, nI_1, zqa1, zqs1]

theorem zr_11 (hU : U < 6000) (hx : xe_I ν 239 U = 11) (h6 : rd < 10) : zD190_33 (G + 1) v1 (nI h) (nI rd) (nI U) ν = zD190_33 G v1 (nI h) (nI (rd + 1)) (nI (U + 1)) (xe_setI ν 254 rd (xe_I ν 240 U)) := by
  show zD190_33_b (zD190_33 G) _ _ _ _ _ = _
  unfold zD190_33_b
  rw [zx_nI hU (by decide)]
  simp (config := { decide := true }) only [zx_nI hU (show 6000 < 2147483648 by decide), zq_vI, hx, ↓reduceIte, zD190_62, zD190_90, zD190_139, zD190_173, zD190_212, nI_1, zqa1, zqs1]
  rw [zx_nI h6 (by decide)]
  rfl
theorem zr_12 (hU : U < 6000) (hx : xe_I ν 239 U = 12) (h6 : rd < 10) {k : Nat} (hk : xe_I ν 254 rd = nI (k + 1)) (hk9 : k < 9) : zD190_33 (G + 1) v1 (nI h) (nI (rd + 1)) (nI U) ν = if k = 0 then zD190_33 G v1 (nI h) (nI rd) (nI (U + 1)) (xe_setI ν 254 rd (nI 0)) else zD190_33 G v1 (nI h) (nI (rd + 1)) (xe_I ν 240 U) (xe_setI ν 254 rd (nI k)) := by
  show zD190_33_b (zD190_33 G) _ _ _ _ _ = _
  unfold zD190_33_b
  rw [zx_nI hU (by decide)]
  simp (config := { decide := true }) only [zx_nI hU (show 6000 < 2147483648 by decide), zq_vI, hx, ↓reduceIte, zD190_62, zD190_90, zD190_139, zD190_173, zD190_212, nI_1, zqa1, zqs1]
  rw [zx_nI h6 (by decide), zx_nI h6 (by decide), hk, zqs1]
  simp only [zq_m]
  rw [zx_nI h6 (by decide), xu_I]
  by_cases e : k = 0
  · subst e
    rw [if_pos (show nI 0 ≤ 0 by decide), if_pos rfl]
  · rw [if_neg (show ¬ nI k ≤ 0 from nI_nle (by omega) (by omega)), if_neg e]
theorem zr_end (hU : U < 6000) (hx : xe_I ν 239 U = 13) (hh : h < 100) : zD190_33 (G + 1) v1 (nI h) (nI rd) (nI U) ν = zint (if h = 0 then 0 else xe_I ν 253 0) ν := by
  show zD190_33_b (zD190_33 G) _ _ _ _ _ = _
  unfold zD190_33_b
  rw [zx_nI hU (by decide), hx, if_pos rfl]
  by_cases e : h = 0
  · subst e
    rw [if_pos (show nI 0 ≤ 0 by decide), if_pos rfl]
    rfl
  · rw [if_neg (show ¬ nI h ≤ 0 from nI_nle (by omega) (by omega)), if_neg e]
    rfl
end
