/-! the text's bytes, and what both make of them -/
def zcB (b : Nat) : Int32 := if b < 128 then nI b else nI b - nI 256
def zBl (b : Nat) : Bool := b == 32 || b == 9 || b == 10 || b == 13
def zLe (b : Nat) : Bool := (Nat.ble 97 b && Nat.ble b 122) || (Nat.ble 65 b && Nat.ble b 90)
def zDi (b : Nat) : Bool := Nat.ble 48 b && Nat.ble b 57
def zAl (b : Nat) : Bool := zLe b || zDi b
/-- n bytes of the class's row r and of the reference's row s -/
def zBc (r : Nat → Int32) (tb : Nat → Nat) (n : Nat) : Prop := ∀ i, i < n → tb i < 256 ∧ r i = zcB (tb i)
def zBr (s : Nat → Int32) (tb : Nat → Nat) (n : Nat) : Prop := ∀ i, i < n → tb i < 256 ∧ s i = nI (tb i)
def zskip (p : Nat → Bool) : Nat → Nat → Nat
  | 0, k => k
  | m + 1, k => if p k = true then zskip p m (k + 1) else k
theorem zskip_ge (p : Nat → Bool) : ∀ m k, k ≤ zskip p m k ∧ zskip p m k ≤ k + m := by
  intro m
  induction m with
  | zero => intro k; exact ⟨Nat.le_refl k, Nat.le_refl k⟩
  | succ m ih =>
    intro k
    unfold zskip
    split
    · have := ih (k + 1)
      omega
    · omega
theorem zskip_all (p : Nat → Bool) : ∀ m k i, k ≤ i → i < zskip p m k → p i = true := by
  intro m
  induction m with
  | zero => intro k i h1 h2; exact absurd h2 (Nat.not_lt.mpr h1)
  | succ m ih =>
    intro k i h1 h2
    unfold zskip at h2
    split at h2
    · rename_i hp
      by_cases hk : i = k
      · rw [hk]; exact hp
      · exact ih (k + 1) i (by omega) h2
    · omega
theorem zskip_end (p : Nat → Bool) : ∀ m k, zskip p m k < k + m → p (zskip p m k) = false := by
  intro m
  induction m with
  | zero => intro k h; exact absurd h (Nat.lt_irrefl k)
  | succ m ih =>
    intro k h
    unfold zskip at h ⊢
    split
    · rename_i hp
      rw [if_pos hp] at h
      exact ih (k + 1) (by omega)
    · rename_i hp
      exact Bool.eq_false_iff.mpr hp
theorem zif4 {α : Type} {p q r s : Prop} [Decidable p] [Decidable q] [Decidable r] [Decidable s] {X Y : α} : (if p then X else if q then X else if r then X else if s then X else Y) = if p ∨ q ∨ r ∨ s then X else Y := by
  by_cases hp : p
  · rw [if_pos hp, if_pos (Or.inl hp)]
  · rw [if_neg hp]
    by_cases hq : q
    · rw [if_pos hq, if_pos (Or.inr (Or.inl hq))]
    · rw [if_neg hq]
      by_cases hr : r
      · rw [if_pos hr, if_pos (Or.inr (Or.inr (Or.inl hr)))]
      · rw [if_neg hr]
        by_cases hs : s
        · rw [if_pos hs, if_pos (Or.inr (Or.inr (Or.inr hs)))]
        · rw [if_neg hs, if_neg (fun h => h.elim hp (fun h => h.elim hq (fun h => h.elim hr hs)))]
theorem zBl_c : ∀ b, b < 256 → ((zcB b = 32 ∨ zcB b = 9 ∨ zcB b = 10 ∨ zcB b = 13) ↔ zBl b = true) := by decide +kernel
theorem zBl_r : ∀ b, b < 256 → ((nI b = 32 ∨ nI b = 9 ∨ nI b = 10 ∨ nI b = 13) ↔ zBl b = true) := by decide +kernel
section
variable {μ : xe_Mem} {tb : Nat → Nat} {n : Nat}
/-- pastBlanks -/
theorem z17l (hB : zBc (xe_I μ 2) tb n) (hn : n ≤ 3000) : ∀ m f k : Nat, k + m = n → m < f → zD17_2 f (nI n) (nI k) μ = zint (nI (zskip (fun i => zBl (tb i)) m k)) μ := by
  intro m
  induction m with
  | zero =>
    intro f k hk hf
    obtain ⟨f, rfl⟩ : ∃ g, f = g + 1 := ⟨f - 1, by omega⟩
    show zD17_2_b (zD17_2 f) (nI n) (nI k) μ = _
    unfold zD17_2_b
    rw [if_pos (nI_le (by omega) (by omega))]
    rfl
  | succ m ih =>
    intro f k hk hf
    obtain ⟨f, rfl⟩ : ∃ g, f = g + 1 := ⟨f - 1, by omega⟩
    show zD17_2_b (zD17_2 f) (nI n) (nI k) μ = _
    unfold zD17_2_b
    have hb := hB k (by omega)
    rw [if_neg (nI_ge (by omega) (by omega))]
    simp only [zx_nI (show k < 3000 by omega) (show 3000 < 2147483648 by decide)]
    rw [hb.2, zif4]
    unfold zskip
    by_cases hl : zBl (tb k) = true
    · rw [if_pos ((zBl_c _ hb.1).mpr hl), if_pos hl]
      unfold zD17_25
      rw [nI_1]
      exact ih f (k + 1) (by omega) (by omega)
    · rw [if_neg (fun q => hl ((zBl_c _ hb.1).mp q)), if_neg hl]
      rfl
theorem zfu_lt {m : Nat} (h : m ≤ 3000) : m < zfu := Nat.lt_of_le_of_lt h (by decide)
theorem z17 (hB : zBc (xe_I μ 2) tb n) (hn : n ≤ 3000) {k : Nat} (hk : k ≤ n) : zD17 (nI k) (nI n) μ = zint (nI (zskip (fun i => zBl (tb i)) (n - k) k)) μ := z17l hB hn (n - k) zfu k (by omega) (zfu_lt (by omega))
/-- the reference's blanks -/
theorem z134_11 (hs : xe_I μ 203 3 = nI n) (hB : zBr (xe_I μ 205) tb n) (hn : n ≤ 3000) {c7 : Int32 → Int32 → xe_Mem → zO} {v2 v3 : Int32} : ∀ m f k : Nat, k + m = n → m < f → zD134_11 c7 f (nI k) v2 v3 μ = zD134_41 c7 (nI (zskip (fun i => zBl (tb i)) m k)) v2 v3 μ := by
  intro m
  induction m with
  | zero =>
    intro f k hk hf
    obtain ⟨f, rfl⟩ : ∃ g, f = g + 1 := ⟨f - 1, by omega⟩
    show zD134_11_b c7 (zD134_11 c7 f) (nI k) v2 v3 μ = _
    unfold zD134_11_b
    rw [hs, if_pos (nI_le (by omega) (by omega))]
    rfl
  | succ m ih =>
    intro f k hk hf
    obtain ⟨f, rfl⟩ : ∃ g, f = g + 1 := ⟨f - 1, by omega⟩
    show zD134_11_b c7 (zD134_11 c7 f) (nI k) v2 v3 μ = _
    unfold zD134_11_b
    have hb := hB k (by omega)
    rw [hs, if_neg (nI_ge (by omega) (by omega))]
    simp only [zx_nI (show k < 3000 by omega) (show 3000 < 2147483648 by decide)]
    rw [hb.2, zif4]
    unfold zskip
    by_cases hl : zBl (tb k) = true
    · rw [if_pos ((zBl_r _ hb.1).mpr hl), if_pos hl]
      unfold zD134_39
      rw [nI_1]
      exact ih f (k + 1) (by omega) (by omega)
    · rw [if_neg (fun q => hl ((zBl_r _ hb.1).mp q)), if_neg hl]
end
/-! letters and digits -/
def zb01 (b : Bool) : Int32 := if b = true then 1 else 0
theorem zb01_0 {b : Bool} : (zb01 b = 0) = (b = false) := by cases b <;> decide
def zL32 (x : Int32) : Int32 := if x < 97 then (if x < 65 then 0 else if 90 < x then 0 else 1) else if x ≤ 122 then 1 else (if x < 65 then 0 else if 90 < x then 0 else 1)
def zD32' (x : Int32) : Int32 := if x < 48 then 0 else if 57 < x then 0 else 1
section
variable {μ : xe_Mem}
theorem z20' {x : Int32} : zD20 x μ = zint (zL32 x) μ := by
  unfold zD20 zD20_6 zD20_14 zD20_12 zD20_15 zL32
  split
  · split
    · exact zz_0
    · split
      · exact zz_0
      · exact zz_1
  · split
    · exact zz_1
    · split
      · exact zz_0
      · split
        · exact zz_0
        · exact zz_1
theorem z22' {x : Int32} : zD22 x μ = zint (zD32' x) μ := by
  unfold zD22 zD22_8 zD22_9 zD32'
  split
  · exact zz_0
  · split
    · exact zz_0
    · exact zz_1
theorem zL_c : ∀ b, b < 256 → zL32 (zcB b) = zb01 (zLe b) := by decide +kernel
theorem zD_c : ∀ b, b < 256 → zD32' (zcB b) = zb01 (zDi b) := by decide +kernel
theorem z20 {b : Nat} (h : b < 256) : zD20 (zcB b) μ = zint (zb01 (zLe b)) μ := by rw [z20', zL_c b h]
theorem z22 {b : Nat} (h : b < 256) : zD22 (zcB b) μ = zint (zb01 (zDi b)) μ := by rw [z22', zD_c b h]
theorem z136 {b : Nat} (h : b < 256) : zD136 (nI b) μ = zint (zb01 (zLe b)) μ := by
  unfold zD136 zD136_12 zD136_15
  rw [zn_64 (by omega), z132, zcI_ok, z132]
  simp only [zlitL, zL_le (show 97 < 9223372036854775808 by decide) (show b < 9223372036854775808 by omega), zL_le (show b < 9223372036854775808 by omega) (show 122 < 9223372036854775808 by decide), zL_le (show 65 < 9223372036854775808 by decide) (show b < 9223372036854775808 by omega), zL_le (show b < 9223372036854775808 by omega) (show 90 < 9223372036854775808 by decide)]
  by_cases h1 : 97 ≤ b ∧ b ≤ 122
  · rw [if_pos h1, if_neg (by decide)]
    have : zLe b = true := by
      unfold zLe
      rw [Nat.ble_eq_true_of_le h1.1, Nat.ble_eq_true_of_le h1.2]
      rfl
    rw [this]
    exact zz_1
  · rw [if_neg h1, if_pos rfl, zcI_ok]
    have e1 : (Nat.ble 97 b && Nat.ble b 122) = false := by
      cases e : (Nat.ble 97 b && Nat.ble b 122) with
      | false => rfl
      | true =>
        rw [Bool.and_eq_true] at e
        exact absurd ⟨Nat.le_of_ble_eq_true e.1, Nat.le_of_ble_eq_true e.2⟩ h1
    by_cases h2 : 65 ≤ b ∧ b ≤ 90
    · rw [if_pos h2, if_neg (by decide)]
      have : zLe b = true := by
        unfold zLe
        rw [e1, Nat.ble_eq_true_of_le h2.1, Nat.ble_eq_true_of_le h2.2]
        rfl
      rw [this]
      exact zz_1
    · rw [if_neg h2, if_pos rfl]
      have : zLe b = false := by
        unfold zLe
        rw [e1]
        cases e : (Nat.ble 65 b && Nat.ble b 90) with
        | false => rfl
        | true =>
          rw [Bool.and_eq_true] at e
          exact absurd ⟨Nat.le_of_ble_eq_true e.1, Nat.le_of_ble_eq_true e.2⟩ h2
      rw [this]
      exact zz_0
theorem z137 {b : Nat} (h : b < 256) : zD137 (nI b) μ = zint (zb01 (zDi b)) μ := by
  unfold zD137
  rw [zn_64 (by omega), z132, zcI_ok]
  simp only [zlitL, zL_le (show 48 < 9223372036854775808 by decide) (show b < 9223372036854775808 by omega), zL_le (show b < 9223372036854775808 by omega) (show 57 < 9223372036854775808 by decide)]
  by_cases h1 : 48 ≤ b ∧ b ≤ 57
  · rw [if_pos h1]
    have : zDi b = true := by
      unfold zDi
      rw [Nat.ble_eq_true_of_le h1.1, Nat.ble_eq_true_of_le h1.2]
      rfl
    rw [this]
    exact zz_1
  · rw [if_neg h1]
    have : zDi b = false := by
      unfold zDi
      cases e : (Nat.ble 48 b && Nat.ble b 57) with
      | false => rfl
      | true =>
        rw [Bool.and_eq_true] at e
        exact absurd ⟨Nat.le_of_ble_eq_true e.1, Nat.le_of_ble_eq_true e.2⟩ h1
    rw [this]
    exact zz_0
end
