/-! statements: what an assignment may change -/
def zfJ (X : Nat → Nat → Bool) (y : Nat) (μ μ' : xe_Mem) : Prop := ∀ a, a < 265 → (∀ j, X a j = false → xe_I μ' a j = xe_I μ a j) ∧ (a ≠ y → xe_L μ' a = xe_L μ a) ∧ xe_R μ' a = xe_R μ a
section
variable {X Y : Nat → Nat → Bool} {y : Nat} {μ μ1 μ2 : xe_Mem}
theorem zfJ_I (h : zfI X μ μ1) : zfJ X y μ μ1 := fun a ha => ⟨(h a ha).1, fun _ => (h a ha).2.1, (h a ha).2.2⟩
theorem zfJ_t (h1 : zfJ X y μ μ1) (h2 : zfJ X y μ1 μ2) : zfJ X y μ μ2 := fun a ha => by
  obtain ⟨p1, p2, p3⟩ := h1 a ha
  obtain ⟨q1, q2, q3⟩ := h2 a ha
  exact ⟨fun j hj => (q1 j hj).trans (p1 j hj), fun h => (q2 h).trans (p2 h), q3.trans p3⟩
theorem zfJ_w (h1 : zfJ X y μ μ1) (h : ∀ a j, Y a j = false → X a j = false) : zfJ Y y μ μ1 := fun a ha => by
  obtain ⟨p1, p2, p3⟩ := h1 a ha
  exact ⟨fun j hj => p1 j (h a j hj), p2, p3⟩
theorem zfJ_L {j : Nat} {v : Int64} : zfJ X y μ (xe_setL μ y j v) := fun a _ => ⟨fun _ _ => rfl, fun h => by rw [zr_LL, if_neg h], rfl⟩
end
/-- the class: an expression, the locals' names, the task at hand -/
def zXct (t L a j : Nat) : Bool := zXc L a j || ((a == 182 && j == 3) || (a == 184 || (a == 185 || (a == 61 + 5 * t && (j == 5 || j == 6)))))
/-- the reference: an expression, the locals, what the task at hand touches and assigns, the cost of the block at hand -/
def zXra (t U o a j : Nat) : Bool := zXr U t a j || ((a == 223 && j == t) || ((a == 227 && (Nat.ble (12 * t) j && Nat.ble (j + 1) (12 * t + 12))) || (a == 242 || (a == 245 && j == o))))
theorem zXct_c {t L : Nat} : ∀ a j, zXct t L a j = false → zXc L a j = false := fun a j q => by
  unfold zXct at q
  rw [Bool.or_eq_false_iff] at q
  exact q.1
theorem zXra_r {t U o : Nat} : ∀ a j, zXra t U o a j = false → zXr U t a j = false := fun a j q => by
  unfold zXra at q
  rw [Bool.or_eq_false_iff] at q
  exact q.1
theorem zXct_w {t U V : Nat} (h : U ≤ V) : ∀ a j, zXct t U a j = false → zXct t V a j = false := by
  intro a j q
  unfold zXct at q ⊢
  rw [Bool.or_eq_false_iff] at q ⊢
  exact ⟨zXc_w h a j q.1, q.2⟩
theorem zXra_w {t o U V : Nat} (h : U ≤ V) : ∀ a j, zXra t U o a j = false → zXra t V o a j = false := by
  intro a j q
  unfold zXra at q ⊢
  rw [Bool.or_eq_false_iff] at q ⊢
  exact ⟨zXr_w h a j q.1, q.2⟩
/-- what neither touches before it refuses -/
def zG (μ μ' : xe_Mem) : Prop := (∀ a, a ≤ 6 → xe_I μ' a = xe_I μ a ∧ xe_L μ' a = xe_L μ a ∧ xe_R μ' a = xe_R μ a) ∧ (∀ t, t < 24 → xe_I μ' (61 + 5 * t) 0 = xe_I μ (61 + 5 * t) 0) ∧ (∀ m, m < 4 → xe_I μ' (17 + 11 * m) 0 = xe_I μ (17 + 11 * m) 0) ∧ ∀ j, xe_I μ' 194 j = xe_I μ 194 j
def zGr (ν ν' : xe_Mem) : Prop := (∀ a, 204 ≤ a → a ≤ 209 → xe_I ν' a = xe_I ν a ∧ xe_L ν' a = xe_L ν a) ∧ ∀ j, j ≤ 9 → xe_I ν' 203 j = xe_I ν 203 j
theorem zG_t {μ μ1 μ2 : xe_Mem} (h1 : zG μ μ1) (h2 : zG μ1 μ2) : zG μ μ2 := ⟨fun a ha => by
  obtain ⟨p1, p2, p3⟩ := h1.1 a ha
  obtain ⟨q1, q2, q3⟩ := h2.1 a ha
  exact ⟨q1.trans p1, q2.trans p2, q3.trans p3⟩, fun t ht => (h2.2.1 t ht).trans (h1.2.1 t ht), fun m hm => (h2.2.2.1 m hm).trans (h1.2.2.1 m hm), fun j => (h2.2.2.2 j).trans (h1.2.2.2 j)⟩
theorem zGr_t {ν ν1 ν2 : xe_Mem} (h1 : zGr ν ν1) (h2 : zGr ν1 ν2) : zGr ν ν2 := ⟨fun a h3 h4 => by
  obtain ⟨p1, p2⟩ := h1.1 a h3 h4
  obtain ⟨q1, q2⟩ := h2.1 a h3 h4
  exact ⟨q1.trans p1, q2.trans p2⟩, fun j hj => (h2.2 j hj).trans (h1.2 j hj)⟩
/-- the class has thrown, the reference has refused, at the same token -/
def zFx (N : Nat) (μ ν : xe_Mem) (A B : zO) : Prop := ∃ μ1 ν' p', A = some (.inr (xe_sh μ1).length, xe_add μ1 (.inl 12) 6) ∧ B = zint 0 ν' ∧ (p' < N ∧ ∃ u, u < 4096 ∧ xe_I μ1 181 9 = nI u) ∧ xe_I μ1 181 6 = nI p' ∧ xe_I ν' 203 10 = nI p' ∧ zG μ μ1 ∧ zGr ν ν' ∧ xe_sh μ1 = xe_sh μ ∧ xe_sl μ1 = xe_sl μ
section
variable {N L U t o : Nat} {μ ν μ1 ν1 : xe_Mem} {A B B' : zO}
theorem zG_J (h : zfJ (zXct t L) 183 μ μ1) : zG μ μ1 := by
  have k : ∀ a j, a < 265 → zXct t L a j = false → xe_I μ1 a j = xe_I μ a j := fun a j ha hj => (h a ha).1 j hj
  refine ⟨fun a ha => ?_, fun t' ht => k _ _ (by omega) ?_, fun m hm => k _ _ (by omega) ?_, fun j => k _ _ (by omega) ?_⟩
  · obtain ⟨h1, h2, h3⟩ := h a (by omega)
    refine ⟨funext fun j => h1 j ?_, h2 (by omega), h3⟩
    unfold zXct zXc
    simp only [Bool.or_eq_false_iff, Bool.and_eq_false_iff, beq_eq_false_iff_ne, ne_eq]
    omega
  · unfold zXct zXc
    simp only [Bool.or_eq_false_iff, Bool.and_eq_false_iff, beq_eq_false_iff_ne, ne_eq]
    omega
  · unfold zXct zXc
    simp only [Bool.or_eq_false_iff, Bool.and_eq_false_iff, beq_eq_false_iff_ne, ne_eq]
    omega
  · unfold zXct zXc
    simp only [Bool.or_eq_false_iff, Bool.and_eq_false_iff, beq_eq_false_iff_ne, ne_eq]
    omega
theorem zG_I (h : zfI (zXc L) μ μ1) (hL : 7 ≤ L ∨ True) : zG μ μ1 := zG_J (t := 0) (L := L) (zfJ_w (zfJ_I h) zXct_c)
theorem zGr_f (h : zfI (zXf U t) ν ν1) : zGr ν ν1 := ⟨fun a h3 h4 => by
  obtain ⟨h1, h2, -⟩ := h a (by omega)
  refine ⟨funext fun j => h1 j ?_, h2⟩
  unfold zXf zXr
  simp only [Bool.or_eq_false_iff, Bool.and_eq_false_iff, beq_eq_false_iff_ne, ne_eq]
  omega, fun j hj => (h 203 (by decide)).1 j (by
  unfold zXf zXr
  simp only [Bool.or_eq_false_iff, Bool.and_eq_false_iff, beq_eq_false_iff_ne, ne_eq]
  omega)⟩
theorem zGr_J (h : zfJ (zXra t U o) 241 ν ν1) : zGr ν ν1 := ⟨fun a h3 h4 => by
  obtain ⟨h1, h2, -⟩ := h a (by omega)
  refine ⟨funext fun j => h1 j ?_, h2 (by omega)⟩
  unfold zXra zXr
  simp only [Bool.or_eq_false_iff, Bool.and_eq_false_iff, beq_eq_false_iff_ne, ne_eq]
  omega, fun j hj => (h 203 (by decide)).1 j (by
  unfold zXra zXr
  simp only [Bool.or_eq_false_iff, Bool.and_eq_false_iff, beq_eq_false_iff_ne, ne_eq]
  omega)⟩
theorem zFx_l (h : zFl N L U t μ ν A B) : zFx N μ ν A B := by
  obtain ⟨μ2, ν2, p2, w1, w2, w3, w4, w5, w6, w7, w8, w9⟩ := h
  exact ⟨μ2, ν2, p2, w1, w2, w3, w4, w5, zG_I w6 (Or.inr trivial), zGr_f w7, w8, w9⟩
theorem zFx_f (h : zFx N μ1 ν1 A B) (h1 : zG μ μ1) (h2 : zGr ν ν1) (h3 : xe_sh μ1 = xe_sh μ) (h4 : xe_sl μ1 = xe_sl μ) : zFx N μ ν A B := by
  obtain ⟨μ2, ν2, p2, w1, w2, w3, w4, w5, w6, w7, w8, w9⟩ := h
  exact ⟨μ2, ν2, p2, w1, w2, w3, w4, w5, zG_t h1 w6, zGr_t h2 w7, w8.trans h3, w9.trans h4⟩
theorem zFx_cV {f : xe_Mem → zO} (h : zFx N μ ν A B) : zFx N μ ν (zq_cV A f) B := by
  obtain ⟨μ2, ν2, p2, w1, w2⟩ := h
  exact ⟨μ2, ν2, p2, by rw [w1, zcV_no], w2⟩
theorem zFx_cI {f : Int32 → xe_Mem → zO} (h : zFx N μ ν A B) : zFx N μ ν (zq_cI A f) B := by
  obtain ⟨μ2, ν2, p2, w1, w2⟩ := h
  exact ⟨μ2, ν2, p2, by rw [w1, zcI_no], w2⟩
theorem zFx_r (h : zFx N μ ν A B) (e : ∀ ν', B = zint 0 ν' → B' = zint 0 ν') : zFx N μ ν A B' := by
  obtain ⟨μ2, ν2, p2, w1, w2, w3⟩ := h
  exact ⟨μ2, ν2, p2, w1, e _ w2, w3⟩
end
/-- the task at hand, t of the mode m: its locals, what it assigns (abn), what its mode's tasks ahead assign (mb) -/
def zTa (μ ν : xe_Mem) (t m Lc abn mb : Nat) : Prop := t < 24 ∧ m < 4 ∧ xe_R μ 181 11 = some (61 + 5 * t) ∧ xe_R μ 181 10 = some (17 + 11 * m) ∧ xe_I μ (61 + 5 * t) 5 = nI Lc ∧ xe_I ν 223 t = nI Lc ∧ xe_I μ (61 + 5 * t) 6 = nI abn ∧ abn < 4096 ∧ (∀ p, p < 12 → xe_I ν 227 (12 * t + p) = zb01 (Nat.testBit abn p)) ∧ xe_I μ (17 + 11 * m) 4 = nI mb ∧ mb < 4096 ∧ xe_I ν 203 22 = nI t ∧ (∀ p, p < 12 → ((∃ k, k < t ∧ xe_I ν 218 k = nI m ∧ ¬ xe_I ν 227 (12 * k + p) = 0) ↔ Nat.testBit mb p = true))
theorem zXc_t {L t j : Nat} (ht : t < 24) : zXc L (61 + 5 * t) j = false := by
  unfold zXc
  simp only [Bool.or_eq_false_iff, Bool.and_eq_false_iff, beq_eq_false_iff_ne, ne_eq]
  omega
theorem zXc_m {L m j : Nat} (hm : m < 4) : zXc L (17 + 11 * m) j = false := by
  unfold zXc
  simp only [Bool.or_eq_false_iff, Bool.and_eq_false_iff, beq_eq_false_iff_ne, ne_eq]
  omega
theorem zTa_f {μ ν μ' ν' : xe_Mem} {t m Lc abn mb L U : Nat} (h : zTa μ ν t m Lc abn mb) (hf : zfI (zXc L) μ μ') (hg : zfI (zXr U t) ν ν') : zTa μ' ν' t m Lc abn mb := by
  obtain ⟨h1, h2, h3, h4, h5, h6, h7, h8, h9, h10, h11, h12, h13⟩ := h
  have a1 : xe_I ν' 227 = xe_I ν 227 := funext fun j => (hg 227 (by decide)).1 j rfl
  have a2 : xe_I ν' 218 = xe_I ν 218 := funext fun j => (hg 218 (by decide)).1 j rfl
  refine ⟨h1, h2, ?_, ?_, ?_, ?_, ?_, h8, ?_, ?_, h11, ?_, ?_⟩
  · rw [(hf 181 (by decide)).2.2]; exact h3
  · rw [(hf 181 (by decide)).2.2]; exact h4
  · rw [(hf (61 + 5 * t) (by omega)).1 5 (zXc_t h1)]; exact h5
  · rw [(hg 223 (by decide)).1 t rfl]; exact h6
  · rw [(hf (61 + 5 * t) (by omega)).1 6 (zXc_t h1)]; exact h7
  · rw [a1]; exact h9
  · rw [(hf (17 + 11 * m) (by omega)).1 4 (zXc_m h2)]; exact h10
  · rw [(hg 203 (by decide)).1 22 rfl]; exact h12
  · rw [a1, a2]; exact h13
