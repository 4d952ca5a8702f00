/-! words by their values; signs -/
def zNv (tb : Nat → Nat) : Nat → Nat → Nat → Nat
  | 0, _, v => v
  | m + 1, k, v => zNv tb m (k + 1) (v * 256 + tb k)
theorem zor8 {x b : Nat} (hb : b < 256) : (((x % 2 ^ 64) <<< 8) % 2 ^ 64) ||| (b % 2 ^ 64) = (x * 256 + b) % 2 ^ 64 := by
  have h1 : x * 256 + b = (x * 256) ||| b := by
    have := Nat.two_pow_add_eq_or_of_lt (i := 8) (show b < 2 ^ 8 by omega) x
    rw [show x * 256 = 2 ^ 8 * x by omega]
    exact this
  rw [h1, Nat.or_mod_two_pow, Nat.shiftLeft_eq, Nat.mod_mul_mod]
theorem zsh {v b : Nat} (hb : b < 256) : (nL v <<< ((8 : Int32).toInt64 &&& 63)) ||| nL b = nL (v * 256 + b) := by
  rw [show ((8 : Int32).toInt64 &&& 63) = 8 from by decide]
  apply Int64.toBitVec_inj.mp
  apply BitVec.eq_of_toNat_eq
  show ((BitVec.ofNat 64 v <<< (8#64 : BitVec 64).smod 64) ||| BitVec.ofNat 64 b).toNat = (BitVec.ofNat 64 (v * 256 + b)).toNat
  rw [show ((8#64 : BitVec 64).smod 64) = 8#64 from by decide, BitVec.toNat_or]
  show ((BitVec.ofNat 64 v).toNat <<< 8) % 2 ^ 64 ||| (BitVec.ofNat 64 b).toNat = _
  rw [BitVec.toNat_ofNat, BitVec.toNat_ofNat, BitVec.toNat_ofNat]
  exact zor8 hb
theorem zacc_N (tb : Nat → Nat) : ∀ m k v, (∀ i, k ≤ i → i < k + m → tb i < 256) → zacc tb m k (nL v) = nL (zNv tb m k v) := by
  intro m
  induction m with
  | zero => intro k v h; rfl
  | succ m ih =>
    intro k v h
    show zacc tb m (k + 1) ((nL v <<< ((8 : Int32).toInt64 &&& 63)) ||| nL (tb k)) = nL (zNv tb m (k + 1) (v * 256 + tb k))
    rw [zsh (h k (by omega) (by omega)), ih _ _ (fun i h1 h2 => h i (by omega) (by omega))]
/-- the value of digits of base 256, the last one first -/
def zlr : List Nat → Nat
  | [] => 0
  | b :: t => zlr t * 256 + b
theorem zlr_inj : ∀ l s : List Nat, (∀ b ∈ l, 0 < b ∧ b < 256) → (∀ b ∈ s, 0 < b ∧ b < 256) → zlr l = zlr s → l = s := by
  intro l
  induction l with
  | nil =>
    intro s _ hs h
    cases s with
    | nil => rfl
    | cons c s =>
      have := hs c List.mem_cons_self
      simp only [zlr] at h
      omega
  | cons b l ih =>
    intro s hl hs h
    have hb := hl b List.mem_cons_self
    cases s with
    | nil => simp only [zlr] at h; omega
    | cons c s =>
      have hc := hs c List.mem_cons_self
      simp only [zlr] at h
      have e1 : b = c := by omega
      have e2 : zlr l = zlr s := by omega
      rw [e1, ih s (fun x hx => hl x (List.mem_cons_of_mem _ hx)) (fun x hx => hs x (List.mem_cons_of_mem _ hx)) e2]
theorem zlr_lt : ∀ l : List Nat, (∀ b ∈ l, b < 256) → zlr l < 256 ^ l.length := by
  intro l
  induction l with
  | nil => intro _; exact (by decide : 0 < 1)
  | cons b l ih =>
    intro h
    have h1 := ih (fun x hx => h x (List.mem_cons_of_mem _ hx))
    have h2 := h b List.mem_cons_self
    show zlr l * 256 + b < 256 ^ (l.length + 1)
    rw [Nat.pow_succ]
    omega
theorem zNv_l (tb : Nat → Nat) : ∀ m k (l : List Nat), zNv tb m k (zlr l) = zlr ((ztx tb k m).reverse ++ l) := by
  intro m
  induction m with
  | zero => intro k l; rfl
  | succ m ih =>
    intro k l
    show zNv tb m (k + 1) (zlr (tb k :: l)) = _
    rw [ih]
    show _ = zlr ((tb k :: ztx tb (k + 1) m).reverse ++ l)
    rw [List.reverse_cons, List.append_assoc]
    rfl
def zwords : List (List Nat) := [[112, 111, 114, 116], [115, 101, 110, 115, 111, 114], [109, 111, 100, 101], [116, 97, 115, 107], [111, 110], [105, 102], [101, 108, 115, 101], [114, 101, 112, 101, 97, 116], [115, 119, 105, 116, 99, 104], [116, 111], [115, 108, 111, 116, 115]]
def zwd (w : Nat) : List Nat := zwords.getD w []
theorem zwd_sq : ∀ w, w < 11 → zsq w = (zwd w).map zcB := by decide +kernel
theorem zwd_in : ∀ w, w < 11 → ∀ b ∈ zwd w, 0 < b ∧ b < 256 := by decide +kernel
theorem zwd_ne : ∀ w, w < 11 → ∀ x, x < 11 → zwd w = zwd x → w = x := by decide +kernel
theorem zwd_len : ∀ w, w < 11 → (zwd w).length ≤ 8 := by decide +kernel
theorem zcB_inj : ∀ b, b < 256 → ∀ c, c < 256 → zcB b = zcB c → b = c := by
  intro b hb c hc h
  have h1 := congrArg Int32.toInt h
  unfold zcB at h1
  have e : ∀ x, x < 256 → (if x < 128 then nI x else nI x - nI 256).toInt = if x < 128 then (x : Int) else (x : Int) - 256 := by decide +kernel
  rw [e b hb, e c hc] at h1
  split at h1 <;> split at h1 <;> omega
theorem zmap_inj : ∀ l s : List Nat, (∀ b ∈ l, b < 256) → (∀ b ∈ s, b < 256) → l.map zcB = s.map zcB → l = s := by
  intro l
  induction l with
  | nil =>
    intro s _ _ h
    cases s with
    | nil => rfl
    | cons c s => cases h
  | cons b l ih =>
    intro s hl hs h
    cases s with
    | nil => cases h
    | cons c s =>
      rw [List.map_cons, List.map_cons] at h
      obtain ⟨h1, h2⟩ := List.cons.inj h
      rw [zcB_inj b (hl b List.mem_cons_self) c (hs c List.mem_cons_self) h1, ih s (fun x hx => hl x (List.mem_cons_of_mem _ hx)) (fun x hx => hs x (List.mem_cons_of_mem _ hx)) h2]
theorem ztx_mem (tb : Nat → Nat) : ∀ m a b, b ∈ ztx tb a m → ∃ i, a ≤ i ∧ i < a + m ∧ b = tb i := by
  intro m
  induction m with
  | zero => intro a b h; cases h
  | succ m ih =>
    intro a b h
    rcases List.mem_cons.mp h with h | h
    · exact ⟨a, by omega, by omega, h⟩
    · obtain ⟨i, h1, h2, h3⟩ := ih _ _ h
      exact ⟨i, by omega, by omega, h3⟩
theorem zAl_in : ∀ b, b < 256 → zAl b = true → 0 < b := by decide +kernel
theorem zAl_sg : ∀ b, b < 256 → zAl b = true → ∀ q, q < 29 → 11 ≤ q → ¬ zsq q = [zcB b] := by decide +kernel
theorem zsq_1 : ∀ q, q < 29 → 11 ≤ q → (zsq q).length ≤ 1 := by decide +kernel
/-- which word m bytes at a are: of the eleven, or none -/
def zwi (l : List Nat) : Nat → Nat → Nat
  | 0, _ => 25
  | r + 1, w => if l = zwd w then w else zwi l r (w + 1)
theorem zwi_lt (l : List Nat) : ∀ r w, w + r = 11 → (zwi l r w < 11 ∧ l = zwd (zwi l r w)) ∨ (zwi l r w = 25 ∧ ∀ x, w ≤ x → x < 11 → ¬ l = zwd x) := by
  intro r
  induction r with
  | zero => intro w h; exact Or.inr ⟨rfl, fun x h1 h2 => by omega⟩
  | succ r ih =>
    intro w h
    unfold zwi
    split
    · rename_i e
      exact Or.inl ⟨by omega, e⟩
    · rename_i e
      rcases ih (w + 1) (by omega) with h1 | h1
      · exact Or.inl h1
      · refine Or.inr ⟨h1.1, fun x h2 h3 => ?_⟩
        by_cases hx : x = w
        · rw [hx]; exact e
        · exact h1.2 x (by omega) h3
section
variable {tb : Nat → Nat} {a m : Nat}
theorem zis_w (hA : ∀ i, a ≤ i → i < a + m → tb i < 256 ∧ zAl (tb i) = true) {w : Nat} (hw : w < 11) : zis tb a m w = decide (ztx tb a m = zwd w) := by
  unfold zis
  rw [zwd_sq w hw]
  by_cases h : ztx tb a m = zwd w
  · rw [decide_eq_true h, decide_eq_true (by rw [h])]
  · rw [decide_eq_false h, decide_eq_false (fun e => h (zmap_inj _ _ (fun b hb => ?_) (fun b hb => (zwd_in w hw b hb).2) e.symm))]
    obtain ⟨i, h1, h2, h3⟩ := ztx_mem tb m a b hb
    rw [h3]
    exact (hA i h1 h2).1
theorem zis_s (hA : ∀ i, a ≤ i → i < a + m → tb i < 256 ∧ zAl (tb i) = true) (hm : 0 < m) {q : Nat} (h1 : 11 ≤ q) (h2 : q < 29) : zis tb a m q = false := by
  refine decide_eq_false (fun e => ?_)
  have hl := zsq_1 q h2 h1
  obtain ⟨m, rfl⟩ : ∃ g, m = g + 1 := ⟨m - 1, by omega⟩
  rw [e, List.length_map, ztx_len] at hl
  have hm0 : m = 0 := by omega
  subst hm0
  have := hA a (by omega) (by omega)
  exact zAl_sg _ this.1 this.2 q h2 h1 e
theorem zfk_sg (hA : ∀ i, a ≤ i → i < a + m → tb i < 256 ∧ zAl (tb i) = true) (hm : 0 < m) {oth : Nat} : ∀ r q, 11 ≤ q → q + r = 29 → zfk (zis tb a m) oth r q = oth := by
  intro r
  induction r with
  | zero => intro q _ _; rfl
  | succ r ih =>
    intro q h1 h2
    unfold zfk
    rw [if_neg (by rw [zis_s hA hm h1 (by omega)]; decide)]
    exact ih (q + 1) (by omega) (by omega)
theorem zfk_w (hA : ∀ i, a ≤ i → i < a + m → tb i < 256 ∧ zAl (tb i) = true) (hm : 0 < m) : ∀ r w, w + r = 11 → zfk (zis tb a m) 1000026 (r + 18) w = 1000001 + zwi (ztx tb a m) r w := by
  intro r
  induction r with
  | zero => intro w h; exact zfk_sg hA hm 18 w (by omega) (by omega)
  | succ r ih =>
    intro w h
    rw [show r + 1 + 18 = (r + 18) + 1 by omega]
    unfold zfk zwi
    rw [zis_w hA (by omega)]
    by_cases e : ztx tb a m = zwd w
    · rw [if_pos (decide_eq_true e), if_pos e]
    · rw [if_neg (by rw [decide_eq_false e]; decide), if_neg e]
      exact ih (w + 1) (by omega)
/-- the value is a word's where the bytes are -/
theorem zval_w (hA : ∀ i, a ≤ i → i < a + m → tb i < 256 ∧ zAl (tb i) = true) (hm : m ≤ 8) {w : Nat} (hw : w < 11) : (nL (zlr (zwd w).reverse) = zacc tb m a 0) ↔ ztx tb a m = zwd w := by
  have hI : ∀ b ∈ (ztx tb a m).reverse, 0 < b ∧ b < 256 := by
    intro b hb
    obtain ⟨i, h1, h2, h3⟩ := ztx_mem tb m a b (List.mem_reverse.mp hb)
    have := hA i h1 h2
    rw [h3]
    exact ⟨zAl_in _ this.1 this.2, this.1⟩
  have hW : ∀ b ∈ (zwd w).reverse, 0 < b ∧ b < 256 := fun b hb => zwd_in w hw b (List.mem_reverse.mp hb)
  have e : zacc tb m a 0 = nL (zlr (ztx tb a m).reverse) := by
    have h0 := zacc_N tb m a 0 (fun i h1 h2 => (hA i h1 h2).1)
    have h1 := zNv_l tb m a []
    rw [List.append_nil] at h1
    rw [← h1]
    exact h0
  have p8 : ∀ l : List Nat, l.length ≤ 8 → (256 : Nat) ^ l.length ≤ 256 ^ 8 := fun l hl => Nat.pow_le_pow_right (by decide) hl
  have b1 := zlr_lt _ (fun b hb => (hI b hb).2)
  have b2 := zlr_lt _ (fun b hb => (hW b hb).2)
  have c1 := p8 (ztx tb a m).reverse (by rw [List.length_reverse, ztx_len]; exact hm)
  have c2 := p8 (zwd w).reverse (by rw [List.length_reverse]; exact zwd_len w hw)
  have d : (256 : Nat) ^ 8 = 18446744073709551616 := by decide
  rw [e]
  constructor
  · intro h
    have h1 : (zlr (zwd w).reverse) % 18446744073709551616 = (zlr (ztx tb a m).reverse) % 18446744073709551616 := by
      have h2 := congrArg (fun x : Int64 => x.toBitVec.toNat) h
      exact h2
    rw [Nat.mod_eq_of_lt (by omega), Nat.mod_eq_of_lt (by omega)] at h1
    have := zlr_inj _ _ hW hI h1
    exact (List.reverse_inj.mp this).symm
  · intro h
    rw [h]
end
/-! signs -/
def zsg (b : Nat) : Nat := if b = 123 then 11 else if b = 125 then 12 else if b = 59 then 13 else if b = 44 then 14 else if b = 61 then 15 else if b = 40 then 16 else if b = 41 then 17 else if b = 60 then 18 else if b = 62 then 19 else if b = 43 then 20 else if b = 45 then 21 else if b = 42 then 22 else if b = 47 then 23 else if b = 37 then 24 else 28
def zsc (q : Nat) : Nat := [123, 125, 59, 44, 61, 40, 41, 60, 62, 43, 45, 42, 47, 37].getD (q - 11) 0
theorem zsg_k : ∀ b, b < 256 → zfk (fun q => decide (zsq q = [zcB b])) 1000029 29 0 = 1000001 + zsg b := by decide +kernel
theorem zsg_l : ∀ b, b < 256 → zLe b = true → zsg b = 28 := by decide +kernel
theorem zsg_c : ∀ b, b < 256 → zsg b = 28 ∨ (11 ≤ zsg b ∧ zsg b ≤ 24 ∧ zsc (zsg b) = b) := by decide +kernel
def zsn (x : Int32) : Int32 := if x = 123 then 1 else if x = 125 then 1 else if x = 59 then 1 else if x = 44 then 1 else if x = 61 then 1 else if x = 43 then 1 else if x = 45 then 1 else if x = 42 then 1 else if x = 47 then 1 else if x = 37 then 1 else if x = 60 then 1 else if x = 62 then 1 else if x = 40 then 1 else if x = 41 then 1 else 0
theorem zsn_r : ∀ b, b < 256 → zsn (nI b) = zb01 (decide (zsg b ≠ 28)) := by decide +kernel
theorem zif_s {μ : xe_Mem} {p : Prop} [Decidable p] {A B : zO} {x y : Int32} (hA : A = zint x μ) (hB : B = zint y μ) : (if p then A else B) = zint (if p then x else y) μ := by
  by_cases h : p
  · rw [if_pos h, if_pos h]; exact hA
  · rw [if_neg h, if_neg h]; exact hB
theorem z139 {μ : xe_Mem} {b : Nat} (hb : b < 256) : zD139 (nI b) μ = zint (zb01 (decide (zsg b ≠ 28))) μ := by
  rw [← zsn_r b hb]
  unfold zD139 zD139_42 zD139_45 zsn
  exact zif_s zz_1 (zif_s zz_1 (zif_s zz_1 (zif_s zz_1 (zif_s zz_1 (zif_s zz_1 (zif_s zz_1 (zif_s zz_1 (zif_s zz_1 (zif_s zz_1 (zif_s zz_1 (zif_s zz_1 (zif_s zz_1 (zif_s zz_1 zz_0)))))))))))))
