/-! reading a task: it is made by both, up to its block -/
def zc51 (μ : xe_Mem) (b : Nat) (a1 a2 a3 : Int32) : xe_Mem := xe_setI (xe_setI (xe_setI (xe_setI (xe_setI (xe_setI (xe_setI μ b 1 a1) b 2 a2) b 3 a3) b 5 0) b 6 0) b 11 0) b 13 a3
def zc6k (μ : xe_Mem) (T m n : Nat) (nd sp : Int32) : xe_Mem := xe_setI (xe_setR (xe_setI (zc51 μ (61 + 5 * T) (nI m) nd sp) 7 7 (nI (T + 1))) (18 + 11 * m) n (some (61 + 5 * T))) (17 + 11 * m) 3 (nI (n + 1))
def zc7 (μ : xe_Mem) (T m n : Nat) (nd sp : Int32) (PS L : Nat) : xe_Mem := xe_setI (xe_setI (xe_setI (xe_setR (zc6k μ T m n nd sp) 181 11 (some (61 + 5 * T))) 182 3 (nI PS)) 181 9 0) (61 + 5 * T) 8 (nI L)
section
variable {N P S m T p n nd L U : Nat} {μ ν : xe_Mem} {x : Int64} {v1 v5 a1 a2 a3 sp : Int32} {b c j : Nat}
theorem zc51_o (h : c ≠ b) : xe_I (zc51 μ b a1 a2 a3) c j = xe_I μ c j := by
  unfold zc51
  rw [xu_In (by omega), xu_In (by omega), xu_In (by omega), xu_In (by omega), xu_In (by omega), xu_In (by omega), xu_In (by omega)]
theorem zc51_v : xe_I (zc51 μ b a1 a2 a3) b 1 = a1 ∧ xe_I (zc51 μ b a1 a2 a3) b 2 = a2 ∧ xe_I (zc51 μ b a1 a2 a3) b 3 = a3 ∧ xe_I (zc51 μ b a1 a2 a3) b 5 = 0 ∧ xe_I (zc51 μ b a1 a2 a3) b 6 = 0 ∧ xe_I (zc51 μ b a1 a2 a3) b 11 = 0 ∧ xe_I (zc51 μ b a1 a2 a3) b 13 = a3 := by
  unfold zc51
  refine ⟨?_, ?_, ?_, ?_, ?_, ?_, ?_⟩
  · rw [xu_In (by omega), xu_In (by omega), xu_In (by omega), xu_In (by omega), xu_In (by omega), xu_In (by omega)]; exact xu_I
  · rw [xu_In (by omega), xu_In (by omega), xu_In (by omega), xu_In (by omega), xu_In (by omega)]; exact xu_I
  · rw [xu_In (by omega), xu_In (by omega), xu_In (by omega), xu_In (by omega)]; exact xu_I
  · rw [xu_In (by omega), xu_In (by omega), xu_In (by omega)]; exact xu_I
  · rw [xu_In (by omega), xu_In (by omega)]; exact xu_I
  · rw [xu_In (by omega)]; exact xu_I
  · exact xu_I
theorem z51 (hT : T < 24) : zD51 (61 + 5 * T) a1 a2 a3 μ = some (.inl none, zc51 μ (61 + 5 * T) a1 a2 a3) := by
  unfold zD51
  rw [zo_in (zS_task T hT) (by omega)]
  rfl
theorem z50 (hR : zRt μ) (hm : m < 4) (hT : T < 24) (h7 : xe_I μ 7 7 = nI T) (h0 : xe_I μ (17 + 11 * m) 0 = nI m) (hs : xe_I μ (17 + 11 * m) 3 = nI n) (hn : n < 6) : zD50 (17 + 11 * m) a2 sp μ = some (.inl (some (.ref (61 + 5 * T))), zc6k μ T m n a2 sp) := by
  have k0 : xe_R μ 16 T = some (61 + 5 * T) := hR 16 T _ (zR_16 T hT)
  have k1 : xe_I (zc51 μ (61 + 5 * T) (nI m) a2 sp) 7 7 = nI T := (zc51_o (by omega)).trans h7
  have k2 : xe_R (xe_setI (zc51 μ (61 + 5 * T) (nI m) a2 sp) 7 7 (nI (T + 1))) (17 + 11 * m) 2 = some (18 + 11 * m) := hR _ _ _ (zR_m m hm).1
  have k3 : xe_I (xe_setI (zc51 μ (61 + 5 * T) (nI m) a2 sp) 7 7 (nI (T + 1))) (17 + 11 * m) 3 = nI n := (xu_In (by omega)).trans ((zc51_o (by omega)).trans hs)
  unfold zD50
  rw [h7, zx_nI hT (by decide), k0, zs_some, zo_in (zS_mode m hm) (by omega), zo_in (zS_task T hT) (by omega), h0, z51 hT, zcV_ok]
  simp only [zq_m]
  rw [k1, nI_1, k2, zs_some, za_in (zS_18 m hm).1 (by omega), k3, zx_nI hn (by decide)]
  unfold zq_w
  rw [if_pos (zR_18 m hm n hn), show xe_I (xe_setR (xe_setI (zc51 μ (61 + 5 * T) (nI m) a2 sp) 7 7 (nI (T + 1))) (18 + 11 * m) n (some (61 + 5 * T))) (17 + 11 * m) 3 = nI n from k3, nI_1]
  rfl
theorem zc7_o (hm : m < 4) (h1 : c ≠ 61 + 5 * T) (h2 : c ≠ 7 ∨ j ≠ 7) (h3 : c ≠ 17 + 11 * m ∨ j ≠ 3) (h4 : c ≠ 182 ∨ j ≠ 3) (h5 : c ≠ 181 ∨ j ≠ 9) : xe_I (zc7 μ T m n a2 sp P L) c j = xe_I μ c j := by
  unfold zc7 zc6k
  rw [xu_In (by omega), xu_In (by omega), xu_In (by omega)]
  show xe_I (xe_setI (xe_setR (xe_setI (zc51 μ (61 + 5 * T) (nI m) a2 sp) 7 7 (nI (T + 1))) (18 + 11 * m) n (some (61 + 5 * T))) (17 + 11 * m) 3 (nI (n + 1))) c j = _
  rw [xu_In (by omega)]
  show xe_I (xe_setI (zc51 μ (61 + 5 * T) (nI m) a2 sp) 7 7 (nI (T + 1))) c j = _
  rw [xu_In (by omega), zc51_o h1]
theorem zc7_t (hm : m < 4) (hT : T < 24) (hj : j ≠ 8) : xe_I (zc7 μ T m n a2 sp P L) (61 + 5 * T) j = xe_I (zc51 μ (61 + 5 * T) (nI m) a2 sp) (61 + 5 * T) j := by
  unfold zc7 zc6k
  rw [xu_In (by omega), xu_In (by omega), xu_In (by omega)]
  show xe_I (xe_setI (xe_setR (xe_setI (zc51 μ (61 + 5 * T) (nI m) a2 sp) 7 7 (nI (T + 1))) (18 + 11 * m) n (some (61 + 5 * T))) (17 + 11 * m) 3 (nI (n + 1))) (61 + 5 * T) j = _
  rw [xu_In (by omega)]
  show xe_I (xe_setI (zc51 μ (61 + 5 * T) (nI m) a2 sp) 7 7 (nI (T + 1))) (61 + 5 * T) j = _
  rw [xu_In (by omega)]
theorem zc7_v (hm : m < 4) : xe_I (zc7 μ T m n a2 sp P L) 7 7 = nI (T + 1) ∧ xe_I (zc7 μ T m n a2 sp P L) (17 + 11 * m) 3 = nI (n + 1) ∧ xe_I (zc7 μ T m n a2 sp P L) 182 3 = nI P ∧ xe_I (zc7 μ T m n a2 sp P L) 181 9 = 0 ∧ xe_I (zc7 μ T m n a2 sp P L) (61 + 5 * T) 8 = nI L ∧ xe_R (zc7 μ T m n a2 sp P L) 181 11 = some (61 + 5 * T) ∧ xe_R (zc7 μ T m n a2 sp P L) (18 + 11 * m) n = some (61 + 5 * T) := by
  unfold zc7 zc6k
  refine ⟨?_, ?_, ?_, ?_, xu_I, ?_, ?_⟩
  · rw [xu_In (by omega), xu_In (by omega), xu_In (by omega)]
    show xe_I (xe_setI (xe_setR (xe_setI (zc51 μ (61 + 5 * T) (nI m) a2 sp) 7 7 (nI (T + 1))) (18 + 11 * m) n (some (61 + 5 * T))) (17 + 11 * m) 3 (nI (n + 1))) 7 7 = _
    rw [xu_In (by omega)]
    show xe_I (xe_setI (zc51 μ (61 + 5 * T) (nI m) a2 sp) 7 7 (nI (T + 1))) 7 7 = _
    exact xu_I
  · rw [xu_In (by omega), xu_In (by omega), xu_In (by omega)]
    exact xu_I
  · rw [xu_In (by omega), xu_In (by omega)]
    exact xu_I
  · rw [xu_In (by omega)]
    exact xu_I
  · show xe_R (xe_setR (xe_setI (xe_setR (xe_setI (zc51 μ (61 + 5 * T) (nI m) a2 sp) 7 7 (nI (T + 1))) (18 + 11 * m) n (some (61 + 5 * T))) (17 + 11 * m) 3 (nI (n + 1))) 181 11 (some (61 + 5 * T))) 181 11 = _
    rw [zu_R, if_pos ⟨rfl, rfl⟩]
  · show xe_R (xe_setR (xe_setI (xe_setR (xe_setI (zc51 μ (61 + 5 * T) (nI m) a2 sp) 7 7 (nI (T + 1))) (18 + 11 * m) n (some (61 + 5 * T))) (17 + 11 * m) 3 (nI (n + 1))) 181 11 (some (61 + 5 * T))) (18 + 11 * m) n = _
    rw [zu_R, if_neg (by omega)]
    show xe_R (xe_setR (xe_setI (zc51 μ (61 + 5 * T) (nI m) a2 sp) 7 7 (nI (T + 1))) (18 + 11 * m) n (some (61 + 5 * T))) (18 + 11 * m) n = _
    rw [zu_R, if_pos ⟨rfl, rfl⟩]
theorem zR_181 : (xv_rt.getD 181 []).lookup 11 = none ∧ (xv_rt.getD 181 []).lookup 10 = none := by decide +kernel
theorem zRt_c7 (hm : m < 4) (hn : n < 6) (h : zRt μ) : zRt (zc7 μ T m n a2 sp P L) := zRt_sI (zRt_sI (zRt_sI (zRt_sR (zRt_sI (zRt_sR h (zR_18 m hm n hn))) zR_181.1)))
theorem z47d (hR : zRt μ) (hm : m < 4) (hT : T < 24) (h7 : xe_I μ 7 7 = nI T) (h0 : xe_I μ (17 + 11 * m) 0 = nI m) (hs : xe_I μ (17 + 11 * m) 3 = nI n) (hn : n < 6) (h4 : xe_I μ 7 4 = nI P) (h5 : xe_I μ 7 5 = nI S) (h8 : xe_I μ 8 2 = nI L) : zc47d (17 + 11 * m) a2 sp μ = zc47e (zc7 μ T m n a2 sp (P + S) L) := by
  have k : ∀ c j, c = 7 ∧ (j = 4 ∨ j = 5) ∨ c = 8 → xe_I (zc6k μ T m n a2 sp) c j = xe_I μ c j := fun c j h => by
    unfold zc6k
    rw [xu_In (by omega)]
    show xe_I (xe_setI (zc51 μ (61 + 5 * T) (nI m) a2 sp) 7 7 (nI (T + 1))) c j = _
    rw [xu_In (by omega), zc51_o (by omega)]
  unfold zc47d zD52
  rw [z50 hR hm hT h7 h0 hs hn, zcR_ok]
  simp only [zq_m]
  rw [zcV_ok, show xe_I (xe_setR (zc6k μ T m n a2 sp) 181 11 (some (61 + 5 * T))) 7 4 = nI P from (k 7 4 (by omega)).trans h4, show xe_I (xe_setR (zc6k μ T m n a2 sp) 181 11 (some (61 + 5 * T))) 7 5 = nI S from (k 7 5 (by omega)).trans h5, nI_add, show xe_R (xe_setI (xe_setI (xe_setR (zc6k μ T m n a2 sp) 181 11 (some (61 + 5 * T))) 182 3 (nI (P + S))) 181 9 0) 181 11 = some (61 + 5 * T) from (zu_R (μ := zc6k μ T m n a2 sp)).trans (if_pos ⟨rfl, rfl⟩), zs_some, zo_in (zS_task T hT) (by omega), show xe_I (xe_setI (xe_setI (xe_setR (zc6k μ T m n a2 sp) 181 11 (some (61 + 5 * T))) 182 3 (nI (P + S))) 181 9 0) 8 2 = nI L from (xu_In (by omega)).trans ((xu_In (by omega)).trans ((k 8 2 (by omega)).trans h8))]
  rfl
/-! the reference -/
def zr7 (ν : xe_Mem) (T m : Nat) (x : Int64) (nd U : Nat) : xe_Mem := xe_setI (xe_setI (xe_setI (xe_setI (xe_setL ν 217 T x) 218 T (nI m)) 219 T (nI nd)) 223 T 0) 224 T (nI U)
theorem z86c (hT : T < 24) (hp : xe_I ν 203 10 = nI (p + 1)) (h : p < 3001) (hv : xe_L ν 209 p = nL nd) (hnd : nd ≤ 3) (hU : xe_I ν 203 47 = nI U) : zr86c (nI m) x (nI T) ν = zD153_149 zfu (nI m) (nI T) 0 (zr7 ν T m x nd U) := by
  have k1 : zD149 (xe_setI (xe_setL ν 217 T x) 218 T (nI m)) = zint (nI nd) (xe_setI (xe_setL ν 217 T x) 218 T (nI m)) := z149 (p := p) ((xu_In (by omega)).trans hp) h (by
    show xe_L (xe_setL ν 217 T x) 209 p = _
    rw [zu_L, if_neg (by omega)]
    exact hv) (by omega)
  unfold zr86c
  rw [zx_nI hT (by decide)]
  simp only [zq_m]
  rw [zx_nI hT (by decide), k1, zcI_ok, zx_nI hT (by decide), zx_nI hT (by decide), zx_nI hT (by decide), show xe_I (xe_setI (xe_setI (xe_setI (xe_setL ν 217 T x) 218 T (nI m)) 219 T (nI nd)) 223 T 0) 203 47 = nI U from (xu_In (by omega)).trans ((xu_In (by omega)).trans ((xu_In (by omega)).trans hU))]
  rfl
def zc12 (ν : xe_Mem) (T : Nat) : Nat → xe_Mem
  | 0 => ν
  | i + 1 => xe_setI (xe_setI (zc12 ν T i) 226 (12 * T + i) 0) 227 (12 * T + i) 0
theorem z149l (hT : T < 24) : ∀ r f i : Nat, i + r = 12 → r < f → zD153_149 f v1 (nI T) (nI i) (zc12 ν T i) = zD153_174 zfu v1 (nI T) 0 (zc12 ν T 12) := by
  intro r
  induction r with
  | zero =>
    intro f i hi hf
    obtain ⟨f, rfl⟩ : ∃ g, f = g + 1 := ⟨f - 1, by omega⟩
    have : i = 12 := by omega
    subst this
    show zD153_149_b (zD153_149 f) v1 (nI T) (nI 12) (zc12 ν T 12) = _
    unfold zD153_149_b
    rw [if_pos (show (12 : Int32) ≤ nI 12 by decide)]
  | succ r ih =>
    intro f i hi hf
    obtain ⟨f, rfl⟩ : ∃ g, f = g + 1 := ⟨f - 1, by omega⟩
    show zD153_149_b (zD153_149 f) v1 (nI T) (nI i) (zc12 ν T i) = _
    unfold zD153_149_b
    rw [if_neg (show ¬ (12 : Int32) ≤ nI i from nI_ge (b := 12) (by omega) (by decide)), show (12 * nI T + nI i : Int32) = nI (12 * T + i) from by rw [show (12 : Int32) = nI 12 from rfl, zn_mul, nI_add], zx_nI (show 12 * T + i < 288 by omega) (by decide)]
    simp only [zq_m]
    rw [zx_nI (show 12 * T + i < 288 by omega) (by decide), nI_1]
    exact ih f (i + 1) (by omega) (by omega)
theorem zc12_v : ∀ i, xe_I (zc12 ν T i) c j = if (c = 226 ∨ c = 227) ∧ 12 * T ≤ j ∧ j < 12 * T + i then 0 else xe_I ν c j := by
  intro i
  induction i with
  | zero => rw [if_neg (by omega)]; rfl
  | succ i ih =>
    show xe_I (xe_setI (xe_setI (zc12 ν T i) 226 (12 * T + i) 0) 227 (12 * T + i) 0) c j = _
    by_cases h1 : c = 227 ∧ j = 12 * T + i
    · rw [h1.1, h1.2, if_pos (by omega)]
      exact xu_I
    · rw [xu_In h1]
      by_cases h2 : c = 226 ∧ j = 12 * T + i
      · rw [h2.1, h2.2, if_pos (by omega)]
        exact xu_I
      · rw [xu_In h2, ih]
        by_cases h3 : (c = 226 ∨ c = 227) ∧ 12 * T ≤ j ∧ j < 12 * T + i
        · rw [if_pos h3, if_pos (by omega)]
        · rw [if_neg h3, if_neg (by omega)]
theorem zc12_L : ∀ i, xe_L (zc12 ν T i) = xe_L ν ∧ xe_R (zc12 ν T i) = xe_R ν := by
  intro i
  induction i with
  | zero => exact ⟨rfl, rfl⟩
  | succ i ih => exact ih
def zc6 (ν : xe_Mem) : Nat → xe_Mem
  | 0 => ν
  | i + 1 => xe_setI (zc6 ν i) 242 i 0
def zr174 (v1 v5 : Int32) (ν : xe_Mem) : zO := zq_cI (zD146 123 ν) fun x92 m90 => if x92 = 0 then some (.inl (some (.int 0)), m90) else zq_m (xe_setI m90 203 53 0) fun m93 => zq_cV (zD155 0 m93) fun m95 => zD153_196 zfu v1 v5 m95
theorem z174l : ∀ r f i : Nat, i + r = 6 → r < f → zD153_174 f v1 v5 (nI i) (zc6 ν i) = zr174 v1 v5 (zc6 ν 6) := by
  intro r
  induction r with
  | zero =>
    intro f i hi hf
    obtain ⟨f, rfl⟩ : ∃ g, f = g + 1 := ⟨f - 1, by omega⟩
    have : i = 6 := by omega
    subst this
    show zD153_174_b (zD153_174 f) v1 v5 (nI 6) (zc6 ν 6) = _
    unfold zD153_174_b
    rw [if_pos (show (6 : Int32) ≤ nI 6 by decide)]
    rfl
  | succ r ih =>
    intro f i hi hf
    obtain ⟨f, rfl⟩ : ∃ g, f = g + 1 := ⟨f - 1, by omega⟩
    show zD153_174_b (zD153_174 f) v1 v5 (nI i) (zc6 ν i) = _
    unfold zD153_174_b
    rw [if_neg (show ¬ (6 : Int32) ≤ nI i from nI_ge (b := 6) (by omega) (by decide)), zx_nI (show i < 6 by omega) (by decide)]
    simp only [zq_m]
    rw [nI_1]
    exact ih f (i + 1) (by omega) (by omega)
theorem zc6_v : ∀ i, xe_I (zc6 ν i) c j = if c = 242 ∧ j < i then 0 else xe_I ν c j := by
  intro i
  induction i with
  | zero => rw [if_neg (by omega)]; rfl
  | succ i ih =>
    show xe_I (xe_setI (zc6 ν i) 242 i 0) c j = _
    by_cases h1 : c = 242 ∧ j = i
    · rw [h1.1, h1.2, if_pos (by omega)]
      exact xu_I
    · rw [xu_In h1, ih]
      by_cases h3 : c = 242 ∧ j < i
      · rw [if_pos h3, if_pos (by omega)]
      · rw [if_neg h3, if_neg (by omega)]
theorem zc6_L : ∀ i, xe_L (zc6 ν i) = xe_L ν ∧ xe_R (zc6 ν i) = xe_R ν := by
  intro i
  induction i with
  | zero => exact ⟨rfl, rfl⟩
  | succ i ih => exact ih
/-- the reference's memory ahead of a task's block -/
def zr8 (ν : xe_Mem) (T m : Nat) (x : Int64) (nd U : Nat) : xe_Mem := zc6 (zc12 (zr7 ν T m x nd U) T 12) 6
theorem z86d (hT : T < 24) (hp : xe_I ν 203 10 = nI (p + 1)) (h : p < 3001) (hv : xe_L ν 209 p = nL nd) (hnd : nd ≤ 3) (hU : xe_I ν 203 47 = nI U) : zr86c (nI m) x (nI T) ν = zr174 (nI m) (nI T) (zr8 ν T m x nd U) := by
  rw [z86c hT hp h hv hnd hU]
  exact (z149l hT (ν := zr7 ν T m x nd U) 12 zfu 0 (by omega) (zfu_lt (by omega))).trans (z174l (ν := zc12 (zr7 ν T m x nd U) T 12) 6 zfu 0 (by omega) (zfu_lt (by omega)))
theorem zr8_o (h1 : (218 ≤ c ∧ c ≤ 224 → j ≠ T)) (h2 : c ≠ 226 ∨ j < 12 * T ∨ 12 * T + 12 ≤ j) (h3 : c ≠ 227 ∨ j < 12 * T ∨ 12 * T + 12 ≤ j) (h4 : c ≠ 242) : xe_I (zr8 ν T m x nd U) c j = xe_I ν c j := by
  unfold zr8
  rw [zc6_v, if_neg (by omega), zc12_v, if_neg (by omega)]
  unfold zr7
  rw [xu_In (by omega), xu_In (by omega), xu_In (by omega), xu_In (by omega)]
theorem zr8_v : xe_I (zr8 ν T m x nd U) 218 T = nI m ∧ xe_I (zr8 ν T m x nd U) 219 T = nI nd ∧ xe_I (zr8 ν T m x nd U) 223 T = 0 ∧ xe_I (zr8 ν T m x nd U) 224 T = nI U ∧ xe_I (zr8 ν T m x nd U) 220 T = xe_I ν 220 T ∧ xe_I (zr8 ν T m x nd U) 221 T = xe_I ν 221 T ∧ (∀ p, p < 12 → xe_I (zr8 ν T m x nd U) 226 (12 * T + p) = 0 ∧ xe_I (zr8 ν T m x nd U) 227 (12 * T + p) = 0) ∧ (∀ l, l < 6 → xe_I (zr8 ν T m x nd U) 242 l = 0) := by
  unfold zr8
  refine ⟨?_, ?_, ?_, ?_, ?_, ?_, fun p hp => ⟨?_, ?_⟩, fun l hl => ?_⟩
  · rw [zc6_v, if_neg (by omega), zc12_v, if_neg (by omega)]
    unfold zr7
    rw [xu_In (by omega), xu_In (by omega), xu_In (by omega)]
    exact xu_I
  · rw [zc6_v, if_neg (by omega), zc12_v, if_neg (by omega)]
    unfold zr7
    rw [xu_In (by omega), xu_In (by omega)]
    exact xu_I
  · rw [zc6_v, if_neg (by omega), zc12_v, if_neg (by omega)]
    unfold zr7
    rw [xu_In (by omega)]
    exact xu_I
  · rw [zc6_v, if_neg (by omega), zc12_v, if_neg (by omega)]
    exact xu_I
  · rw [zc6_v, if_neg (by omega), zc12_v, if_neg (by omega)]
    unfold zr7
    rw [xu_In (by omega), xu_In (by omega), xu_In (by omega), xu_In (by omega)]
  · rw [zc6_v, if_neg (by omega), zc12_v, if_neg (by omega)]
    unfold zr7
    rw [xu_In (by omega), xu_In (by omega), xu_In (by omega), xu_In (by omega)]
  · rw [zc6_v, if_neg (by omega), zc12_v, if_pos (by omega)]
  · rw [zc6_v, if_neg (by omega), zc12_v, if_pos (by omega)]
  · rw [zc6_v, if_pos (by omega)]
theorem zr8_L (h : c ≠ 217 ∨ j ≠ T) : xe_L (zr8 ν T m x nd U) c j = xe_L ν c j := by
  unfold zr8
  rw [(zc6_L 6).1, (zc12_L 12).1]
  show xe_L (xe_setL ν 217 T x) c j = _
  rw [zu_L, if_neg (by omega)]
theorem zr8_N : xe_L (zr8 ν T m x nd U) 217 T = x := by
  unfold zr8
  rw [(zc6_L 6).1, (zc12_L 12).1]
  show xe_L (xe_setL ν 217 T x) 217 T = _
  rw [zu_L, if_pos ⟨rfl, rfl⟩]
end
