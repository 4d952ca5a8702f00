/-! an expression: what both hold of it -/
def zXc (L a j : Nat) : Bool := (a == 181 && (j == 6 || (j == 8 || j == 9))) || ((a == 8 && j == 2) || ((a == 9 || a == 10) && Nat.ble L j))
def zXr (U t a j : Nat) : Bool := (a == 203 && (j == 10 || (j == 59 || (j == 60 || (j == 61 || (j == 64 || j == 47)))))) || (a == 248 || (a == 249 || (((a == 239 || a == 240) && Nat.ble U j) || (a == 226 && (Nat.ble (12 * t) j && Nat.ble (j + 1) (12 * t + 12))))))
/-- where the reference refuses, bad is set too -/
def zXf (U t a j : Nat) : Bool := zXr U t a j || (a == 203 && j == 11)
theorem zXf_of {U t : Nat} {ν ν' : xe_Mem} (h : zfI (zXr U t) ν ν') : zfI (zXf U t) ν ν' := zfI_w h (fun a j q => by
  unfold zXf at q
  rw [Bool.or_eq_false_iff] at q
  exact q.1)
theorem zble_w {U V j : Nat} (h : U ≤ V) (hj : Nat.ble U j = false) : Nat.ble V j = false := by
  cases hb : Nat.ble V j with
  | false => rfl
  | true =>
    have := Nat.le_of_ble_eq_true hb
    rw [Nat.ble_eq_true_of_le (show U ≤ j by omega)] at hj
    cases hj
theorem zXc_w {U V : Nat} (h : U ≤ V) : ∀ a j, zXc U a j = false → zXc V a j = false := by
  intro a j q
  unfold zXc at q ⊢
  simp only [Bool.or_eq_false_iff, Bool.and_eq_false_iff] at q ⊢
  exact ⟨q.1, q.2.1, q.2.2.imp id (zble_w h)⟩
theorem zXr_w {U V t : Nat} (h : U ≤ V) : ∀ a j, zXr U t a j = false → zXr V t a j = false := by
  intro a j q
  unfold zXr at q ⊢
  simp only [Bool.or_eq_false_iff, Bool.and_eq_false_iff] at q ⊢
  exact ⟨q.1, q.2.1, q.2.2.1, q.2.2.2.1.imp id (zble_w h), q.2.2.2.2⟩
theorem zXf_w {U V t : Nat} (h : U ≤ V) : ∀ a j, zXf U t a j = false → zXf V t a j = false := by
  intro a j q
  unfold zXf at q ⊢
  rw [Bool.or_eq_false_iff] at q ⊢
  exact ⟨zXr_w h a j q.1, q.2⟩
theorem zXs_r {U t : Nat} : ∀ a j, zXr U t a j = false → zXs U a j = false := by
  intro a j q
  unfold zXr at q
  unfold zXs
  simp only [Bool.or_eq_false_iff, Bool.and_eq_false_iff] at q ⊢
  exact ⟨q.1.imp id (fun h => ⟨h.2.2.2.1, h.2.2.2.2.2⟩), q.2.2.2.1⟩
section
variable {μ ν μ' ν' : xe_Mem} {N P S Lc L U t : Nat} {tk : Bool}
theorem zTE_f (h : zTE μ ν N) (hf : zfI (zXc L) μ μ') (hg : zfI (zXr U t) ν ν') : zTE μ' ν' N := by
  refine ⟨h.1, h.2.1, fun i hi => ?_⟩
  obtain ⟨q, pl, h1, h2, h3, h4, h5, h6, h7⟩ := h.2.2 i hi
  refine ⟨q, pl, h1, h2, ?_, ?_, ?_, h6, ?_⟩
  · rw [(hf 4 (by decide)).2.2]; exact h3
  · rw [(hf 5 (by decide)).1 i rfl]; exact h4
  · rw [(hg 208 (by decide)).1 i rfl]; exact h5
  · rw [(hg 207 (by decide)).1 i rfl, (hg 209 (by decide)).2.1, (hf 6 (by decide)).2.1]; exact h7
theorem zNm_f (h : zNm μ ν P S Lc tk) (hf : zfI (zXc L) μ μ') (hg : zfI (zXr U t) ν ν') : zNm μ' ν' P S Lc tk := by
  obtain ⟨h1, h2, h3, h4, h5, h6, h7, h8, h9, h10, h11, h12⟩ := h
  have a1 : xe_I μ' 184 = xe_I μ 184 := funext fun j => (hf 184 (by decide)).1 j rfl
  have a2 : xe_I μ' 185 = xe_I μ 185 := funext fun j => (hf 185 (by decide)).1 j rfl
  have a3 := (hf 183 (by decide)).2.1
  have a4 := (hg 210 (by decide)).2.1
  have a5 := (hg 212 (by decide)).2.1
  have a6 := (hg 241 (by decide)).2.1
  have a7 : xe_I ν' 242 = xe_I ν 242 := funext fun j => (hg 242 (by decide)).1 j rfl
  refine ⟨h1, h2, h3, ?_, ?_, ?_, ?_, ?_, ?_, ?_, ?_, ?_⟩
  · rw [(hf 182 (by decide)).1 3 rfl]; exact h4
  · rw [(hg 203 (by decide)).1 12 rfl]; exact h5
  · rw [(hg 203 (by decide)).1 15 rfl]; exact h6
  · rw [a1, a2, a3, a4, a5]; exact h7
  · rw [a1, a2, a3, a4]; exact h8
  · rw [a1, a2, a3, a5]; exact h9
  · rw [a3]; exact h10
  · rw [a1, a2, a3, a6, a7]; exact h11
  · rw [a7]; exact h12
/-- what stays as it is while an expression is read -/
def zCx (μ ν : xe_Mem) (N P S Lc : Nat) (tk : Bool) : Prop := zTE μ ν N ∧ zNm μ ν P S Lc tk ∧ xe_R μ 182 0 = some 183 ∧ (265 ≤ (xe_sh μ).length ∧ xe_I ν 203 11 = 0) ∧ (xe_sh μ).length < xg_CT ∧ xe_sl μ + 6 ≤ xg_ST
theorem zCx_f (h : zCx μ ν N P S Lc tk) (hf : zfI (zXc L) μ μ') (hg : zfI (zXr U t) ν ν') (h1 : xe_sh μ' = xe_sh μ) (h2 : xe_sl μ' = xe_sl μ) : zCx μ' ν' N P S Lc tk := by
  obtain ⟨a1, a2, a3, a4, a5, a6⟩ := h
  exact ⟨zTE_f a1 hf hg, zNm_f a2 hf hg, by rw [(hf 182 (by decide)).2.2]; exact a3, ⟨by rw [h1]; exact a4.1, by rw [(hg 203 (by decide)).1 11 rfl]; exact a4.2⟩, by rw [h1]; exact a5, by rw [h2]; exact a6⟩
end
/-! code -/
def zJ (off : Nat) (y v : Int32) : Prop := (y = 0 ∧ v = 0) ∨ ∃ j, j ≤ 3000 ∧ y = nI j ∧ v = nI (j + off)
def zac (q : Nat) : Int32 := List.getD xg_ka q 0
/-- an instruction of the class, and the reference's -/
def zOp (off : Nat) (x y u v : Int32) : Prop := ((x = 1 ∨ x = 2 ∨ x = 3 ∨ x = 4) ∧ u = x ∧ v = y) ∨ (x = 5 ∧ u = 5) ∨ (∃ q, 18 ≤ q ∧ q ≤ 24 ∧ x = zac q ∧ u = 6 ∧ v = nI (zsc q)) ∨ (x = 13 ∧ u = 7 ∧ v = y) ∨ (x = 14 ∧ u = 8 ∧ v = y) ∨ (x = 15 ∧ u = 9 ∧ zJ off y v) ∨ (x = 16 ∧ u = 10 ∧ zJ off y v) ∨ (x = 17 ∧ u = 11 ∧ v = y) ∨ (x = 18 ∧ u = 12 ∧ zJ off y v)
def zCd (μ ν : xe_Mem) (off a b : Nat) : Prop := ∀ i, a ≤ i → i < b → zOp off (xe_I μ 9 i) (xe_I μ 10 i) (xe_I ν 239 (i + off)) (xe_I ν 240 (i + off))
/-- what the class has written and the reference has not yet -/
def zPd (μ : xe_Mem) : Nat → List Nat → Prop
  | _, [] => True
  | L, q :: P => xe_I μ 9 L = zac q ∧ xe_I μ 10 L = 0 ∧ zPd μ (L + 1) P
/-- an operand's own instruction -/
def zlf (P S : Nat) (x y : Int32) : Prop := x = 1 ∨ (x = 2 ∧ ∃ p, p < P ∧ y = nI p) ∨ (x = 3 ∧ ∃ s, s < S ∧ y = nI s) ∨ (x = 4 ∧ ∃ l, l < 6 ∧ y = nI l)
/-- the instructions from a to b are an expression's -/
def zEx (P S : Nat) (r s : Nat → Int32) : Nat → Nat → Nat → Prop
  | 0, _, _ => False
  | k + 1, a, b => (b = a + 1 ∧ zlf P S (r a) (s a)) ∨ (∃ m, a < m ∧ b = m + 1 ∧ r m = 5 ∧ zEx P S r s k a m) ∨ (∃ m1 m2 q, a < m1 ∧ m1 < m2 ∧ b = m2 + 1 ∧ 18 ≤ q ∧ q ≤ 24 ∧ r m2 = zac q ∧ zEx P S r s k a m1 ∧ zEx P S r s k m1 m2)
def zEp (P S : Nat) (μ : xe_Mem) (a b : Nat) : Prop := ∃ k, zEx P S (xe_I μ 9) (xe_I μ 10) k a b
theorem zEx_up {P S : Nat} {r s : Nat → Int32} : ∀ k a b, zEx P S r s k a b → zEx P S r s (k + 1) a b := by
  intro k
  induction k with
  | zero => intro a b h; exact h.elim
  | succ k ih =>
    intro a b h
    rcases h with h | ⟨m, h1, h2, h3, h4⟩ | ⟨m1, m2, q, h1, h2, h3, h4, h5, h6, h7, h8⟩
    · exact Or.inl h
    · exact Or.inr (Or.inl ⟨m, h1, h2, h3, ih _ _ h4⟩)
    · exact Or.inr (Or.inr ⟨m1, m2, q, h1, h2, h3, h4, h5, h6, ih _ _ h7, ih _ _ h8⟩)
theorem zEx_le {P S : Nat} {r s : Nat → Int32} {k l a b : Nat} (h : k ≤ l) (hk : zEx P S r s k a b) : zEx P S r s l a b := by
  induction l with
  | zero =>
    have : k = 0 := by omega
    rw [this] at hk
    exact hk
  | succ l ih =>
    by_cases e : k = l + 1
    · rw [e] at hk; exact hk
    · exact zEx_up _ _ _ (ih (by omega))
theorem zEx_c {P S : Nat} {r s r' s' : Nat → Int32} : ∀ k a b, zEx P S r s k a b → (∀ i, a ≤ i → i < b → r' i = r i ∧ s' i = s i) → zEx P S r' s' k a b := by
  intro k
  induction k with
  | zero => intro a b h; exact h.elim
  | succ k ih =>
    intro a b h hc
    rcases h with ⟨h1, h2⟩ | ⟨m, h1, h2, h3, h4⟩ | ⟨m1, m2, q, h1, h2, h3, h4, h5, h6, h7, h8⟩
    · refine Or.inl ⟨h1, ?_⟩
      obtain ⟨c1, c2⟩ := hc a (by omega) (by omega)
      rw [c1, c2]; exact h2
    · refine Or.inr (Or.inl ⟨m, h1, h2, ?_, ih _ _ h4 (fun i q1 q2 => hc i q1 (by omega))⟩)
      rw [(hc m (by omega) (by omega)).1]; exact h3
    · refine Or.inr (Or.inr ⟨m1, m2, q, h1, h2, h3, h4, h5, ?_, ih _ _ h7 (fun i q1 q2 => hc i q1 (by omega)), ih _ _ h8 (fun i q1 q2 => hc i (by omega) (by omega))⟩)
      rw [(hc m2 (by omega) (by omega)).1]; exact h6
section
variable {μ ν μ' ν' : xe_Mem} {P S L U t a b off : Nat}
theorem zbleF {U j : Nat} (h : j < U) : Nat.ble U j = false := by
  cases hb : Nat.ble U j with
  | false => rfl
  | true =>
    have := Nat.le_of_ble_eq_true hb
    omega
theorem zXc_9 {i : Nat} (h : i < L) : zXc L 9 i = false ∧ zXc L 10 i = false := by
  unfold zXc
  rw [zbleF h]
  exact ⟨rfl, rfl⟩
theorem zXr_9 {i : Nat} (h : i < U) : zXr U t 239 i = false ∧ zXr U t 240 i = false := by
  unfold zXr
  rw [zbleF h]
  exact ⟨rfl, rfl⟩
theorem zEp_f (h : zEp P S μ a b) (hb : b ≤ L) (hf : zfI (zXc L) μ μ') : zEp P S μ' a b := by
  obtain ⟨k, hk⟩ := h
  exact ⟨k, zEx_c k a b hk (fun i q1 q2 => ⟨(hf 9 (by decide)).1 i (zXc_9 (by omega)).1, (hf 10 (by decide)).1 i (zXc_9 (by omega)).2⟩)⟩
theorem zCd_f (h : zCd μ ν off a b) (hb : b ≤ L) (hU : b + off ≤ U) (hf : zfI (zXc L) μ μ') (hg : zfI (zXr U t) ν ν') : zCd μ' ν' off a b := by
  intro i q1 q2
  rw [(hf 9 (by decide)).1 i (zXc_9 (by omega)).1, (hf 10 (by decide)).1 i (zXc_9 (by omega)).2, (hg 239 (by decide)).1 (i + off) (zXr_9 (by omega)).1, (hg 240 (by decide)).1 (i + off) (zXr_9 (by omega)).2]
  exact h i q1 q2
theorem zCd_1 (h : zCd μ ν off a L) (ho : zOp off (xe_I μ 9 L) (xe_I μ 10 L) (xe_I ν 239 (L + off)) (xe_I ν 240 (L + off))) : zCd μ ν off a (L + 1) := by
  intro i q1 q2
  by_cases e : i = L
  · rw [e]; exact ho
  · exact h i q1 (by omega)
theorem zEp_lf (h : zlf P S (xe_I μ 9 L) (xe_I μ 10 L)) : zEp P S μ L (L + 1) := ⟨1, Or.inl ⟨rfl, h⟩⟩
theorem zEp_neg (h : zEp P S μ a L) (h5 : xe_I μ 9 L = 5) (ha : a < L) : zEp P S μ a (L + 1) := by
  obtain ⟨k, hk⟩ := h
  exact ⟨k + 1, Or.inr (Or.inl ⟨L, ha, rfl, h5, hk⟩)⟩
theorem zEp_two {q m : Nat} (h1 : zEp P S μ a m) (h2 : zEp P S μ m L) (hq : 18 ≤ q) (hq2 : q ≤ 24) (h5 : xe_I μ 9 L = zac q) (ha : a < m) (hm : m < L) : zEp P S μ a (L + 1) := by
  obtain ⟨k, hk⟩ := h1
  obtain ⟨l, hl⟩ := h2
  exact ⟨k + l + 1, Or.inr (Or.inr ⟨m, L, q, ha, hm, rfl, hq, hq2, h5, zEx_le (by omega) hk, zEx_le (by omega) hl⟩)⟩
end
