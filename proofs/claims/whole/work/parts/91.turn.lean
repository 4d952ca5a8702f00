/-! numbers; the turn of a token in the class and in the reference -/
def zdv (tb : Nat → Nat) : Nat → Nat → Nat → Nat
  | 0, _, v => v
  | m + 1, k, v => zdv tb m (k + 1) (v * 10 + (tb k - 48))
theorem zDi_c : ∀ b, b < 256 → zDi b = true → (zcB b - 48).toInt64 = nL (b - 48) ∧ 48 ≤ b ∧ b ≤ 57 := by decide +kernel
theorem nL_add (a b : Nat) : nL a + nL b = nL (a + b) := (Int64.ofNat_add a b).symm
theorem nL_mul (a b : Nat) : nL a * nL b = nL (a * b) := (Int64.ofNat_mul a b).symm
theorem nL_sub {a b : Nat} (h : b ≤ a) : nL a - nL b = nL (a - b) := by
  have e : nL a = nL (a - b) + nL b := by rw [nL_add, Nat.sub_add_cancel h]
  rw [e, Int64.add_sub_cancel]
theorem znum_ok (tb : Nat → Nat) : ∀ m k v j, v < 10 ^ j → j + m ≤ 6 → (∀ i, k ≤ i → i < k + m → tb i < 256 ∧ zDi (tb i) = true) → znum tb m k (nL v) = nL (zdv tb m k v) ∧ zcap tb m k (nL v) = nL (zdv tb m k v) ∧ zdv tb m k v < 10 ^ (j + m) := by
  intro m
  induction m with
  | zero => intro k v j hv hj h; exact ⟨rfl, rfl, hv⟩
  | succ m ih =>
    intro k v j hv hj h
    obtain ⟨h1, h2⟩ := h k (by omega) (by omega)
    obtain ⟨h3, h4, h5⟩ := zDi_c _ h1 h2
    have hp : (10 : Nat) ^ j ≤ 10 ^ 5 := Nat.pow_le_pow_right (by decide) (by omega)
    have hv2 : v * 10 + (tb k - 48) < 10 ^ (j + 1) := by
      rw [Nat.pow_succ]
      omega
    obtain ⟨g1, g2, g3⟩ := ih (k + 1) (v * 10 + (tb k - 48)) (j + 1) hv2 (by omega) (fun i q1 q2 => h i (by omega) (by omega))
    refine ⟨?_, ?_, ?_⟩
    · show znum tb m (k + 1) ((nL v * 10) + (zcB (tb k) - 48).toInt64) = _
      rw [h3, show (10 : Int64) = nL 10 from rfl, nL_mul, nL_add]
      exact g1
    · show zcap tb m (k + 1) (if lg_cmp (nL v) 999999 ≤ 0 then ((10 * nL v) + (nI (tb k)).toInt64) - 48 else nL v) = _
      rw [if_pos ((lg_cmp_le _ _).mpr (by
        rw [show (999999 : Int64) = nL 999999 from rfl, zL_le (by omega) (by decide)]
        omega)), zn_64 (by omega), show (10 : Int64) = nL 10 from rfl, nL_mul, nL_add, show (48 : Int64) = nL 48 from rfl, nL_sub (by omega), show 10 * v + tb k - 48 = v * 10 + (tb k - 48) by omega]
      exact g2
    · rw [show j + (m + 1) = j + 1 + m by omega]
      exact g3
section
variable {μ ν : xe_Mem} {tb : Nat → Nat} {n s k k1 k2 q : Nat}
/-- a turn of the class's loop -/
theorem z16b {c : Int32 → Int32 → Int32 → xe_Mem → zO} {m8 : xe_Mem} (hn : n ≤ 3000) (hsn : s ≤ n) (h17 : zD17 (nI k) (nI n) μ = zint (nI k1) μ) (h18 : zD18 (nI k1) (nI n) μ = zint (nI k2) m8) (hs : xe_I m8 3 3 = nI (s + 1)) (hK : xe_R m8 4 s = some (1000001 + q)) (hq : q < 29) : zD16_10_b c (nI n) (nI k) (nI s) μ = if q = 27 ∨ q = 28 then some (.inl none, m8) else c (nI n) (nI k2) (nI (s + 1)) m8 := by
  unfold zD16_10_b zD16_40
  rw [if_neg (nI_nlt hsn (by omega)), h17, zcI_ok, h18, zcI_ok, hs, show (nI (s + 1) - 1 : Int32) = nI s from by rw [show (1 : Int32) = nI 1 from rfl, zn_sub (by omega)]; rfl, zx_nI (show s < 3001 by omega) (by decide), hK, zs_some, zk_ok (by omega)]
  by_cases h1 : q = 27
  · rw [if_pos (by omega), if_pos (Or.inl h1)]
  · rw [if_neg (by omega), zx_nI (show s < 3001 by omega) (by decide), hK, zs_some, zk_ok (by omega)]
    by_cases h2 : q = 28
    · rw [if_pos (by omega), if_pos (Or.inr h2)]
    · rw [if_neg (by omega), if_neg (by omega), nI_1]
/-- the end of a turn of the reference's loop -/
theorem z134e {c7 : Int32 → Int32 → xe_Mem → zO} {v1 kr : Int32} {pl : Nat} {w : Int64} (h : s ≤ 3000) : zD134_170 c7 v1 1 (zrpt ν s kr pl w) = c7 v1 (if kr = 5 then 0 else 1) (zrpt ν s kr pl w) := by
  unfold zD134_170 zD134_183 zD134_184
  have e1 : xe_I (zrpt ν s kr pl w) 207 s = kr := by
    unfold zrpt
    rw [zr_II, if_neg (by decide), zr_IL, zr_II, if_neg (by decide), zr_II, if_pos rfl, va_up_self]
  rw [if_neg (by decide), zrpt_s, show (nI (s + 1) - 1 : Int32) = nI s from by rw [show (1 : Int32) = nI 1 from rfl, zn_sub (by omega)]; rfl, zx_nI (show s < 3002 by omega) (by decide), e1]
  split <;> rfl
/-- where a number ended, as the class and as the reference know it -/
def zNe (e : Int32) (kr : Nat → Int32) (k s : Nat) : Prop := ((0 < s ∧ kr (s - 1) = 2) ∧ e = nI k) ∨ (¬ (0 < s ∧ kr (s - 1) = 2) ∧ ∀ x, k ≤ x → x ≤ 3000 → ¬ nI x = e)
theorem zNe_at {e : Int32} {kr : Nat → Int32} (h : zNe e kr k s) (h1 : k ≤ k1) (h2 : k1 ≤ 3000) : (nI k1 = e) ↔ (k1 = k ∧ 0 < s ∧ kr (s - 1) = 2) := by
  rcases h with ⟨⟨a, b⟩, c⟩ | ⟨a, b⟩
  · rw [c, zi_eq (by omega) (by omega)]
    exact ⟨fun q => ⟨q, a, b⟩, fun q => q.1⟩
  · exact ⟨fun q => absurd q (b k1 h1 h2), fun q => absurd q.2 a⟩
/-- the reference's close -/
theorem z134_51 {c7 : Int32 → Int32 → xe_Mem → zO} {x : Int32} (hs : xe_I ν 203 6 = nI s) (h : s ≤ 3000) (h1 : k1 ≤ 3000) (hk : k ≤ 3000) : zD134_51 c7 (nI k1) 1 (nI k) x ν = zD134_70 c7 (nI k1) 1 x (zb01 (decide (k1 = k ∧ 0 < s ∧ xe_I ν 207 (s - 1) = 2))) ν := by
  unfold zD134_51 zD134_69
  by_cases e1 : k1 = k
  · rw [if_pos (by rw [e1]), hs]
    by_cases e2 : 0 < s
    · rw [if_neg (show ¬ nI s ≤ (0 : Int32) from nI_ge (a := 0) e2 (by omega)), show (nI s - 1 : Int32) = nI (s - 1) from by rw [show (1 : Int32) = nI 1 from rfl, zn_sub (by omega)], zx_nI (show s - 1 < 3002 by omega) (by decide)]
      by_cases e3 : xe_I ν 207 (s - 1) = 2
      · rw [if_pos e3, decide_eq_true ⟨e1, e2, e3⟩]
        rfl
      · rw [if_neg e3, decide_eq_false (fun q => e3 q.2.2)]
        rfl
    · rw [if_pos (show nI s ≤ (0 : Int32) from nI_le (b := 0) (by omega) (by omega)), decide_eq_false (fun q => e2 q.2.1)]
      rfl
  · rw [if_neg (fun q => e1 (by
      rw [zi_eq (by omega) (by omega)] at q
      exact q)), decide_eq_false (fun q => e1 q.1)]
    rfl
end
