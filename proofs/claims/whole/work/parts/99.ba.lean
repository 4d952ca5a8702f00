/-! messages: which ports a task sends, and their numbers -/
def zn (x : Int32) : Nat := x.toNatClampNeg
theorem zn_n {a : Nat} (h : a < 2147483648) : zn (nI a) = a := nI_clamp h
def zSn (ν : xe_Mem) (T t p : Nat) : Bool := (!(zall (fun k => decide (xe_I ν 219 k = xe_I ν 219 t ∨ xe_I ν 226 (12 * k + p) = 0)) T 0)) && decide (¬ xe_I ν 227 (12 * t + p) = 0)
def zct (g : Nat → Bool) : Nat → Nat
  | 0 => 0
  | k + 1 => zct g k + (if g k = true then 1 else 0)
theorem zct_le {g : Nat → Bool} : ∀ k, zct g k ≤ k := by
  intro k
  induction k with
  | zero => exact Nat.le_refl _
  | succ k ih =>
    unfold zct
    split <;> omega
theorem zct_s {g : Nat → Bool} {k : Nat} : zct g k ≤ zct g (k + 1) ∧ (g k = true → zct g (k + 1) = zct g k + 1) ∧ (g k = false → zct g (k + 1) = zct g k) := by
  refine ⟨?_, fun h => ?_, fun h => ?_⟩
  · show zct g k ≤ zct g k + _
    omega
  · show zct g k + (if g k = true then 1 else 0) = _
    rw [if_pos h]
  · show zct g k + (if g k = true then 1 else 0) = _
    rw [if_neg (by rw [h]; decide)]
    omega
theorem zct_m {g : Nat → Bool} {j : Nat} : ∀ k, j ≤ k → zct g j ≤ zct g k := by
  intro k
  induction k with
  | zero => intro h; rw [show j = 0 by omega]; exact Nat.le_refl _
  | succ k ih =>
    intro h
    by_cases e : j = k + 1
    · rw [e]; exact Nat.le_refl _
    · exact Nat.le_trans (ih (by omega)) zct_s.1
theorem zct_l {g : Nat → Bool} {j k : Nat} (h : j < k) (hg : g j = true) : zct g j < zct g k := by
  have h1 := zct_m (g := g) (j := j + 1) k (by omega)
  rw [zct_s.2.1 hg] at h1
  omega
theorem zct_g {g : Nat → Bool} : ∀ k i, i < zct g k → ∃ j, j < k ∧ g j = true ∧ zct g j = i := by
  intro k
  induction k with
  | zero => intro i h; exact absurd h (Nat.not_lt_zero _)
  | succ k ih =>
    intro i h
    cases hg : g k with
    | true =>
      rw [zct_s.2.1 hg] at h
      by_cases e : i = zct g k
      · exact ⟨k, by omega, hg, e.symm⟩
      · obtain ⟨j, h1, h2⟩ := ih i (by omega)
        exact ⟨j, by omega, h2⟩
    | false =>
      rw [zct_s.2.2 hg] at h
      obtain ⟨j, h1, h2⟩ := ih i h
      exact ⟨j, by omega, h2⟩
def zsm (h : Nat → Nat) : Nat → Nat
  | 0 => 0
  | k + 1 => zsm h k + h k
theorem zsm_c {h h' : Nat → Nat} : ∀ k, (∀ i, i < k → h i = h' i) → zsm h k = zsm h' k := by
  intro k
  induction k with
  | zero => intro _; rfl
  | succ k ih =>
    intro hh
    show zsm h k + h k = zsm h' k + h' k
    rw [ih (fun i hi => hh i (by omega)), hh k (by omega)]
def zNs (ν : xe_Mem) (T P t : Nat) : Nat := zct (zSn ν T t) P
def zFm (ν : xe_Mem) (T P t : Nat) : Nat := zsm (fun k => if xe_I ν 218 k = xe_I ν 218 t then zn (xe_I ν 220 k) * zNs ν T P k else 0) t
theorem z12 {t p : Nat} : (12 * nI t + nI p : Int32) = nI (12 * t + p) := by rw [show (12 : Int32) = nI 12 from rfl, zn_mul, nI_add]
section
variable {μ ν ν' : xe_Mem} {T P t p : Nat} {v2 : Int32}
theorem zSn_k (h1 : ∀ k, xe_I ν' 219 k = xe_I ν 219 k) (h2 : ∀ k, xe_I ν' 226 k = xe_I ν 226 k) (h3 : ∀ k, xe_I ν' 227 k = xe_I ν 227 k) : zSn ν' T t p = zSn ν T t p := by
  unfold zSn
  rw [h3]
  simp only [h1, h2]
theorem z170 (hT : xe_I ν 203 22 = nI T) (hT2 : T ≤ 24) (ht : t < 24) (hp : p < 12) : zD170 (nI t) (nI p) ν = zint (zb01 (zSn ν T t p)) ν := by
  have hl : ∀ (r f k : Nat) (b : Bool), k + r = T → r < f → zD170_4 f (nI t) (nI p) (zb01 b) (nI k) ν = zint (zb01 ((b || !(zall (fun k => decide (xe_I ν 219 k = xe_I ν 219 t ∨ xe_I ν 226 (12 * k + p) = 0)) r k)) && decide (¬ xe_I ν 227 (12 * t + p) = 0))) ν := by
    intro r
    induction r with
    | zero =>
      intro f k b hk hf
      obtain ⟨f, rfl⟩ : ∃ g, f = g + 1 := ⟨f - 1, by omega⟩
      show zD170_4_b (zD170_4 f) (nI t) (nI p) (zb01 b) (nI k) ν = _
      unfold zD170_4_b zall zD170_47 zD170_48
      rw [hT, if_pos (nI_le (by omega) (by omega)), z12, zx_nI (show 12 * t + p < 288 by omega) (by decide), Bool.not_true, Bool.or_false]
      cases b
      · rw [if_pos (by decide), Bool.false_and, zz_0]
        rfl
      · rw [if_neg (by decide), Bool.true_and]
        by_cases h : xe_I ν 227 (12 * t + p) = 0
        · rw [if_pos h, decide_eq_false (fun w => w h), zz_0]
          rfl
        · rw [if_neg h, decide_eq_true h, zz_1]
          rfl
    | succ r ih =>
      intro f k b hk hf
      obtain ⟨f, rfl⟩ : ∃ g, f = g + 1 := ⟨f - 1, by omega⟩
      show zD170_4_b (zD170_4 f) (nI t) (nI p) (zb01 b) (nI k) ν = _
      unfold zD170_4_b zall zD170_30 zD170_28 zD170_31
      rw [hT, if_neg (nI_ge (by omega) (by omega)), nI_1]
      have e0 := ih f (k + 1) false (by omega) (by omega)
      have e1 := ih f (k + 1) true (by omega) (by omega)
      rw [Bool.false_or] at e0
      rw [Bool.true_or] at e1
      cases b
      · rw [if_pos (by decide), zx_nI (show k < 24 by omega) (by decide), zx_nI ht (by decide), Bool.false_or]
        by_cases h1 : xe_I ν 219 k = xe_I ν 219 t
        · rw [if_pos h1, decide_eq_true (Or.inl h1), Bool.true_and]
          exact e0
        · rw [if_neg h1, z12, zx_nI (show 12 * k + p < 288 by omega) (by decide)]
          by_cases h2 : xe_I ν 226 (12 * k + p) = 0
          · rw [if_pos h2, decide_eq_true (Or.inr h2), Bool.true_and]
            exact e0
          · rw [if_neg h2, decide_eq_false (fun w => w.elim h1 h2), Bool.false_and, Bool.not_false]
            exact e1
      · rw [if_neg (by decide), Bool.true_or]
        exact e1
  have := hl T zfu 0 false (by omega) (zfu_lt (by omega))
  rw [Bool.false_or] at this
  exact this
/-- what both know of every task -/
def zTc (T : Nat) (μ ν : xe_Mem) : Prop := ∀ t, t < T → xe_I μ (61 + 5 * t) 2 = xe_I ν 219 t ∧ ∀ p, p < 12 → ((((xe_I μ (61 + 5 * t) 7 ||| xe_I μ (61 + 5 * t) 6) >>> (nI p &&& 31)) &&& 1 = 0) ↔ xe_I ν 226 (12 * t + p) = 0) ∧ (((xe_I μ (61 + 5 * t) 6 >>> (nI p &&& 31)) &&& 1 = 0) ↔ xe_I ν 227 (12 * t + p) = 0)
theorem zb01_f {b : Bool} : zb01 b = 0 ↔ b = false := by cases b <;> decide
theorem zTc_s {S L U m per : Nat} (hP : P ≤ 12) (h : zTs P S L U μ ν m per t) : xe_I μ (61 + 5 * t) 2 = xe_I ν 219 t ∧ ∀ p, p < 12 → ((((xe_I μ (61 + 5 * t) 7 ||| xe_I μ (61 + 5 * t) 6) >>> (nI p &&& 31)) &&& 1 = 0) ↔ xe_I ν 226 (12 * t + p) = 0) ∧ (((xe_I μ (61 + 5 * t) 6 >>> (nI p &&& 31)) &&& 1 = 0) ↔ xe_I ν 227 (12 * t + p) = 0) := by
  obtain ⟨nd, tm, sp, w, lc, ab, ub, a, b, off, ⟨q1, q2, q3, q4, q5, q6, q7, q8, q9, q10⟩, ⟨c1, c2, c3, c4, c5, c6, c7, -⟩, ⟨r1, r2, -⟩, hbs, -⟩ := h
  have hab : ab < 4096 := Nat.lt_of_lt_of_le q6 (show 2 ^ P ≤ 2 ^ 12 from Nat.pow_le_pow_right (by decide) hP)
  refine ⟨c2.trans r2.symm, fun p hp => ?_⟩
  rw [c6, c7, zn_or, zbit (Nat.or_lt_two_pow (n := 12) q7 hab) hp, zbit hab hp, (hbs p hp).1, (hbs p hp).2, zb01_f, zb01_f, Nat.testBit_or]
  exact ⟨Iff.rfl, Iff.rfl⟩
theorem z70 (hR : zRt μ) (h7 : xe_I μ 7 7 = nI T) (hT2 : T ≤ 24) (hc : zTc T μ ν) (hp : p < 12) (hv : v2 = xe_I ν 219 t) : zD70 (nI p) v2 μ = zint (zb01 (!(zall (fun k => decide (xe_I ν 219 k = xe_I ν 219 t ∨ xe_I ν 226 (12 * k + p) = 0)) T 0))) μ := by
  subst hv
  have hl : ∀ (r f k : Nat), k + r = T → r < f → zD70_2 f (nI p) (xe_I ν 219 t) (nI k) μ = zint (zb01 (!(zall (fun k => decide (xe_I ν 219 k = xe_I ν 219 t ∨ xe_I ν 226 (12 * k + p) = 0)) r k))) μ := by
    intro r
    induction r with
    | zero =>
      intro f k hk hf
      obtain ⟨f, rfl⟩ : ∃ g, f = g + 1 := ⟨f - 1, by omega⟩
      show zD70_2_b (zD70_2 f) (nI p) (xe_I ν 219 t) (nI k) μ = _
      unfold zD70_2_b zall
      rw [h7, if_pos (nI_le (by omega) (by omega))]
      rfl
    | succ r ih =>
      intro f k hk hf
      obtain ⟨f, rfl⟩ : ∃ g, f = g + 1 := ⟨f - 1, by omega⟩
      show zD70_2_b (zD70_2 f) (nI p) (xe_I ν 219 t) (nI k) μ = _
      unfold zD70_2_b zall zD70_31
      have hk24 : k < 24 := by omega
      obtain ⟨q1, q2⟩ := hc k (by omega)
      rw [h7, if_neg (nI_ge (by omega) (by omega)), nI_1, zx_nI hk24 (by decide), hR 16 k _ (zR_16 k hk24), zs_some, zo_in (zS_task k hk24) (by omega), q1]
      by_cases h1 : xe_I ν 219 k = xe_I ν 219 t
      · rw [if_pos h1, decide_eq_true (Or.inl h1), Bool.true_and]
        exact ih f (k + 1) (by omega) (by omega)
      · rw [if_neg h1, zx_nI hk24 (by decide), hR 16 k _ (zR_16 k hk24), zs_some, zo_in (zS_task k hk24) (by omega), zx_nI hk24 (by decide), hR 16 k _ (zR_16 k hk24), zs_some, zo_in (zS_task k hk24) (by omega)]
        by_cases h2 : xe_I ν 226 (12 * k + p) = 0
        · rw [if_pos (((q2 p hp).1).mpr h2), decide_eq_true (Or.inr h2), Bool.true_and]
          exact ih f (k + 1) (by omega) (by omega)
        · rw [if_neg (fun w => h2 (((q2 p hp).1).mp w)), decide_eq_false (fun w => w.elim h1 h2), Bool.false_and]
          rfl
  exact hl T zfu 0 (by omega) (zfu_lt (by omega))
end
