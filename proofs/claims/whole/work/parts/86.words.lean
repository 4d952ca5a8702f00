/-! names and numbers -/
/-- m bytes more of a name -/
def zacc (tb : Nat → Nat) : Nat → Nat → Int64 → Int64
  | 0, _, v => v
  | m + 1, k, v => zacc tb m (k + 1) ((v <<< ((8 : Int32).toInt64 &&& 63)) ||| nL (tb k))
/-- m digits more of a number -/
def znum (tb : Nat → Nat) : Nat → Nat → Int64 → Int64
  | 0, _, v => v
  | m + 1, k, v => znum tb m (k + 1) ((v * 10) + (zcB (tb k) - 48).toInt64)
theorem zAl_c : ∀ b, b < 256 → zAl b = true → (zcB b).toInt64 = nL b := by decide +kernel
theorem zAl_or {b : Nat} : (zb01 (zLe b) = 0 ∧ zb01 (zDi b) = 0) ↔ zAl b = false := by
  unfold zAl
  cases zLe b <;> cases zDi b <;> decide
section
variable {μ : xe_Mem} {tb : Nat → Nat} {n a : Nat}
/-- splitName's loop -/
theorem z21l (hB : zBc (xe_I μ 2) tb n) (hn : n ≤ 3000) : ∀ (m f k : Nat) (v : Int64), k + m = n → m < f → zD21_4 f (nI a) (nI n) (nI k) v μ = zD21_28 (nI a) (nI (zskip (fun i => zAl (tb i)) m k)) (zacc tb (zskip (fun i => zAl (tb i)) m k - k) k v) μ := by
  intro m
  induction m with
  | zero =>
    intro f k v hk hf
    obtain ⟨f, rfl⟩ : ∃ g, f = g + 1 := ⟨f - 1, by omega⟩
    show zD21_4_b (zD21_4 f) (nI a) (nI n) (nI k) v μ = _
    unfold zD21_4_b
    rw [if_pos (nI_le (by omega) (by omega))]
    unfold zskip
    rw [Nat.sub_self]
    rfl
  | succ m ih =>
    intro f k v hk hf
    obtain ⟨f, rfl⟩ : ∃ g, f = g + 1 := ⟨f - 1, by omega⟩
    show zD21_4_b (zD21_4 f) (nI a) (nI n) (nI k) v μ = _
    unfold zD21_4_b
    have hb := hB k (by omega)
    rw [if_neg (nI_ge (by omega) (by omega))]
    simp only [zx_nI (show k < 3000 by omega) (show 3000 < 2147483648 by decide)]
    rw [hb.2, z20 hb.1, zcI_ok]
    have hgo : zAl (tb k) = true → zD21_17 (zD21_4 f) (nI a) (nI n) (nI k) v μ = zD21_28 (nI a) (nI (zskip (fun i => zAl (tb i)) (m + 1) k)) (zacc tb (zskip (fun i => zAl (tb i)) (m + 1) k - k) k v) μ := by
      intro hal
      unfold zD21_17
      rw [zx_nI (show k < 3000 by omega) (show 3000 < 2147483648 by decide), hb.2, zAl_c _ hb.1 hal]
      show zD21_4 f (nI a) (nI n) (nI k + 1) ((v <<< ((8 : Int32).toInt64 &&& 63)) ||| nL (tb k)) μ = _
      rw [nI_1, ih f (k + 1) _ (by omega) (by omega)]
      have e : zskip (fun i => zAl (tb i)) (m + 1) k = zskip (fun i => zAl (tb i)) m (k + 1) := by
        conv => lhs; unfold zskip
        rw [if_pos hal]
      have g := (zskip_ge (fun i => zAl (tb i)) m (k + 1)).1
      rw [e, show zskip (fun i => zAl (tb i)) m (k + 1) - k = (zskip (fun i => zAl (tb i)) m (k + 1) - (k + 1)) + 1 by omega]
      rfl
    by_cases h1 : zb01 (zLe (tb k)) = 0
    · rw [if_pos h1, hb.2, z22 hb.1, zcI_ok]
      by_cases h2 : zb01 (zDi (tb k)) = 0
      · rw [if_pos h2]
        have hal := zAl_or.mp ⟨h1, h2⟩
        have e : zskip (fun i => zAl (tb i)) (m + 1) k = k := by
          unfold zskip
          rw [if_neg (fun q => by rw [hal] at q; cases q)]
        rw [e, Nat.sub_self]
        rfl
      · rw [if_neg h2]
        refine hgo ?_
        cases e : zAl (tb k) with
        | true => rfl
        | false => exact absurd (zAl_or.mpr e).2 h2
    · rw [if_neg h1]
      refine hgo ?_
      cases e : zAl (tb k) with
      | true => rfl
      | false => exact absurd (zAl_or.mpr e).1 h1
theorem z21 (hB : zBc (xe_I μ 2) tb n) (hn : n ≤ 3000) (ha : a ≤ n) : zD21 (nI a) (nI n) μ = zD21_28 (nI a) (nI (zskip (fun i => zAl (tb i)) (n - a) a)) (zacc tb (zskip (fun i => zAl (tb i)) (n - a) a - a) a 0) μ := z21l hB hn (n - a) zfu a 0 (by omega) (zfu_lt (by omega))
/-- splitNumber's loop -/
theorem z32l (hB : zBc (xe_I μ 2) tb n) (hn : n ≤ 3000) : ∀ (m f k : Nat) (v : Int64), k + m = n → m < f → zD32_4 f (nI a) (nI n) (nI k) v μ = zD32_25 (nI a) (nI (zskip (fun i => zDi (tb i)) m k)) (znum tb (zskip (fun i => zDi (tb i)) m k - k) k v) μ := by
  intro m
  induction m with
  | zero =>
    intro f k v hk hf
    obtain ⟨f, rfl⟩ : ∃ g, f = g + 1 := ⟨f - 1, by omega⟩
    show zD32_4_b (zD32_4 f) (nI a) (nI n) (nI k) v μ = _
    unfold zD32_4_b
    rw [if_pos (nI_le (by omega) (by omega))]
    unfold zskip
    rw [Nat.sub_self]
    rfl
  | succ m ih =>
    intro f k v hk hf
    obtain ⟨f, rfl⟩ : ∃ g, f = g + 1 := ⟨f - 1, by omega⟩
    show zD32_4_b (zD32_4 f) (nI a) (nI n) (nI k) v μ = _
    unfold zD32_4_b
    have hb := hB k (by omega)
    rw [if_neg (nI_ge (by omega) (by omega))]
    simp only [zx_nI (show k < 3000 by omega) (show 3000 < 2147483648 by decide)]
    rw [hb.2, z22 hb.1, zcI_ok]
    cases hd : zDi (tb k) with
    | false =>
      rw [if_pos (by decide)]
      have e : zskip (fun i => zDi (tb i)) (m + 1) k = k := by
        unfold zskip
        rw [if_neg (fun q => by rw [hd] at q; cases q)]
      rw [e, Nat.sub_self]
      rfl
    | true =>
      rw [if_neg (by decide), hb.2]
      show zD32_4 f (nI a) (nI n) (nI k + 1) ((v * 10) + (zcB (tb k) - 48).toInt64) μ = _
      rw [nI_1, ih f (k + 1) _ (by omega) (by omega)]
      have e : zskip (fun i => zDi (tb i)) (m + 1) k = zskip (fun i => zDi (tb i)) m (k + 1) := by
        conv => lhs; unfold zskip
        rw [if_pos hd]
      have g := (zskip_ge (fun i => zDi (tb i)) m (k + 1)).1
      rw [e, show zskip (fun i => zDi (tb i)) m (k + 1) - k = (zskip (fun i => zDi (tb i)) m (k + 1) - (k + 1)) + 1 by omega]
      rfl
theorem z32 (hB : zBc (xe_I μ 2) tb n) (hn : n ≤ 3000) (ha : a ≤ n) : zD32 (nI a) (nI n) μ = zD32_25 (nI a) (nI (zskip (fun i => zDi (tb i)) (n - a) a)) (znum tb (zskip (fun i => zDi (tb i)) (n - a) a - a) a 0) μ := z32l hB hn (n - a) zfu a 0 (by omega) (zfu_lt (by omega))
/-- the reference's letters and digits of a name -/
theorem z134_86 (hs : xe_I μ 203 3 = nI n) (hB : zBr (xe_I μ 205) tb n) (hn : n ≤ 3000) {c7 : Int32 → Int32 → xe_Mem → zO} {v2 v5 v6 : Int32} : ∀ m f k : Nat, k + m = n → m < f → zD134_86 c7 f (nI k) v2 v5 v6 μ = zD134_104 c7 (nI (zskip (fun i => zAl (tb i)) m k)) v2 v5 v6 μ := by
  intro m
  induction m with
  | zero =>
    intro f k hk hf
    obtain ⟨f, rfl⟩ : ∃ g, f = g + 1 := ⟨f - 1, by omega⟩
    show zD134_86_b c7 (zD134_86 c7 f) (nI k) v2 v5 v6 μ = _
    unfold zD134_86_b
    rw [hs, if_pos (nI_le (by omega) (by omega))]
    rfl
  | succ m ih =>
    intro f k hk hf
    obtain ⟨f, rfl⟩ : ∃ g, f = g + 1 := ⟨f - 1, by omega⟩
    show zD134_86_b c7 (zD134_86 c7 f) (nI k) v2 v5 v6 μ = _
    unfold zD134_86_b
    have hb := hB k (by omega)
    rw [hs, if_neg (nI_ge (by omega) (by omega))]
    simp only [zx_nI (show k < 3000 by omega) (show 3000 < 2147483648 by decide)]
    rw [hb.2, z136 hb.1, zcI_ok, hb.2, z137 hb.1, zcI_ok]
    have hgo : zAl (tb k) = true → zD134_102 (zD134_86 c7 f) (nI k) v2 v5 v6 μ = zD134_104 c7 (nI (zskip (fun i => zAl (tb i)) (m + 1) k)) v2 v5 v6 μ := by
      intro hal
      unfold zD134_102
      rw [nI_1, ih f (k + 1) (by omega) (by omega)]
      conv => rhs; unfold zskip
      rw [if_pos hal]
    by_cases h1 : zb01 (zLe (tb k)) = 0
    · rw [if_pos h1]
      by_cases h2 : zb01 (zDi (tb k)) = 0
      · rw [if_pos h2]
        have hal := zAl_or.mp ⟨h1, h2⟩
        unfold zskip
        rw [if_neg (fun q => by rw [hal] at q; cases q)]
      · rw [if_neg h2]
        refine hgo ?_
        cases e : zAl (tb k) with
        | true => rfl
        | false => exact absurd (zAl_or.mpr e).2 h2
    · rw [if_neg h1]
      refine hgo ?_
      cases e : zAl (tb k) with
      | true => rfl
      | false => exact absurd (zAl_or.mpr e).1 h1
/-- the reference's digits: as long as they are six at most the value is the class's -/
def zcap (tb : Nat → Nat) : Nat → Nat → Int64 → Int64
  | 0, _, v => v
  | m + 1, k, v => zcap tb m (k + 1) (if lg_cmp v 999999 ≤ 0 then ((10 * v) + (nI (tb k)).toInt64) - 48 else v)
theorem z134_115 (hs : xe_I μ 203 3 = nI n) (hB : zBr (xe_I μ 205) tb n) (hn : n ≤ 3000) {c7 : Int32 → Int32 → xe_Mem → zO} {v2 v6 : Int32} : ∀ (m f k : Nat) (v : Int64), k + m = n → m < f → zD134_115 c7 f (nI k) v2 v6 v μ = zD134_145 c7 (nI (zskip (fun i => zDi (tb i)) m k)) v2 v6 (zcap tb (zskip (fun i => zDi (tb i)) m k - k) k v) μ := by
  intro m
  induction m with
  | zero =>
    intro f k v hk hf
    obtain ⟨f, rfl⟩ : ∃ g, f = g + 1 := ⟨f - 1, by omega⟩
    show zD134_115_b c7 (zD134_115 c7 f) (nI k) v2 v6 v μ = _
    unfold zD134_115_b
    rw [hs, if_pos (nI_le (by omega) (by omega))]
    unfold zskip
    rw [Nat.sub_self]
    rfl
  | succ m ih =>
    intro f k v hk hf
    obtain ⟨f, rfl⟩ : ∃ g, f = g + 1 := ⟨f - 1, by omega⟩
    show zD134_115_b c7 (zD134_115 c7 f) (nI k) v2 v6 v μ = _
    unfold zD134_115_b
    have hb := hB k (by omega)
    rw [hs, if_neg (nI_ge (by omega) (by omega))]
    simp only [zx_nI (show k < 3000 by omega) (show 3000 < 2147483648 by decide)]
    rw [hb.2, z137 hb.1, zcI_ok]
    cases hd : zDi (tb k) with
    | false =>
      rw [if_pos (by decide)]
      have e : zskip (fun i => zDi (tb i)) (m + 1) k = k := by
        unfold zskip
        rw [if_neg (fun q => by rw [hd] at q; cases q)]
      rw [e, Nat.sub_self]
      rfl
    | true =>
      rw [if_neg (by decide), hb.2]
      have e : zskip (fun i => zDi (tb i)) (m + 1) k = zskip (fun i => zDi (tb i)) m (k + 1) := by
        conv => lhs; unfold zskip
        rw [if_pos hd]
      have g := (zskip_ge (fun i => zDi (tb i)) m (k + 1)).1
      have hz : ∀ w, zD134_142 (zD134_115 c7 f) (nI k) v2 v6 w μ = zD134_145 c7 (nI (zskip (fun i => zDi (tb i)) m (k + 1))) v2 v6 (zcap tb (zskip (fun i => zDi (tb i)) m (k + 1) - (k + 1)) (k + 1) w) μ := by
        intro w
        unfold zD134_142
        rw [nI_1, ih f (k + 1) _ (by omega) (by omega)]
      rw [hz, hz, e, show zskip (fun i => zDi (tb i)) m (k + 1) - k = (zskip (fun i => zDi (tb i)) m (k + 1) - (k + 1)) + 1 by omega]
      show _ = zD134_145 c7 _ v2 v6 (zcap tb (zskip (fun i => zDi (tb i)) m (k + 1) - (k + 1)) (k + 1) (if lg_cmp v 999999 ≤ 0 then ((10 * v) + (nI (tb k)).toInt64) - 48 else v)) μ
      split
      · rfl
      · rfl
end
