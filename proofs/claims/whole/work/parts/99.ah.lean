/-! reading a mode: what both hold, and a task whole -/
def zKn (P S : Nat) (μ ν : xe_Mem) : Prop := zRt μ ∧ zNp μ ν P S ∧ (xe_I μ 7 4 = nI P ∧ xe_I μ 7 5 = nI S ∧ xe_I ν 203 70 = 0) ∧ (∀ t, t < 24 → xe_I μ (61 + 5 * t) 0 = nI t) ∧ (∀ i, i < 4 → xe_I μ (17 + 11 * i) 0 = nI i) ∧ (∀ j, j < P → xe_I μ 14 j = xe_I ν 211 j)
/-- the ports that the task t assigns are assigned by no task of its mode ahead of it -/
def zDij (ν : xe_Mem) (t : Nat) : Prop := ∀ k, k < t → xe_I ν 218 k = xe_I ν 218 t → ∀ q, q < 12 → xe_I ν 227 (12 * k + q) = 0 ∨ xe_I ν 227 (12 * t + q) = 0
theorem zDij_k {ν ν' : xe_Mem} {t : Nat} (h : zDij ν t) (h1 : ∀ k, k ≤ t → xe_I ν' 218 k = xe_I ν 218 k) (h2 : ∀ i, i < 12 * t + 12 → xe_I ν' 227 i = xe_I ν 227 i) : zDij ν' t := fun k hk e q hq => by
  rw [h1 k (by omega), h1 t (by omega)] at e
  rw [h2 _ (by omega), h2 _ (by omega)]
  exact h k hk e q hq
def zNn (μ ν : xe_Mem) (T M : Nat) : Prop := (xe_I μ 190 3 = nI T ∧ xe_I μ 7 7 = nI T ∧ xe_I ν 203 22 = nI T ∧ ∀ t, t < T → xe_L μ 191 t = xe_L ν 217 t ∧ zDij ν t) ∧ (xe_I μ 186 3 = nI M ∧ xe_I μ 7 6 = nI M ∧ xe_I ν 203 17 = nI M ∧ ∀ i, i < M → xe_L μ 187 i = xe_L ν 213 i)
def zCc (μ ν : xe_Mem) (p L U st Sw Sl : Nat) : Prop := xe_I μ 8 2 = nI L ∧ xe_I μ 181 7 = nI st ∧ xe_I ν 203 47 = nI U ∧ xe_I ν 203 52 = nI st ∧ L ≤ p ∧ st ≤ 150 ∧ xe_I ν 203 37 = nI Sw ∧ xe_I ν 203 43 = nI Sl
def zCm (m f T mb : Nat) (μ ν : xe_Mem) : Prop := xe_R μ 181 10 = some (17 + 11 * m) ∧ xe_I μ (17 + 11 * m) 4 = nI mb ∧ mb < 4096 ∧ (∀ t, t < f → ∃ i, i < m ∧ xe_I ν 218 t = nI i) ∧ (∀ p, p < 12 → ((∃ t, f ≤ t ∧ t < T ∧ ¬ xe_I ν 227 (12 * t + p) = 0) ↔ Nat.testBit mb p = true))
def zIM (N P S m f k0 s0 : Nat) (μ ν : xe_Mem) (p T Sw Sl L st mb per : Nat) : Prop := zPo N μ ν p ∧ zKn P S μ ν ∧ zNn μ ν T (m + 1) ∧ zCc μ ν p L (L + T + Sw) st Sw Sl ∧ zCm m f T mb μ ν ∧ (m < 4 ∧ f ≤ 6 * m ∧ k0 ≤ 4 * m ∧ s0 ≤ 120 * m) ∧ zOm N P S L (L + T + Sw) μ ν m f k0 s0 ∧ zMd N P S L (L + T + Sw) μ ν m per f T k0 Sw s0 Sl
/-- the ints, longs and references that a task's reading may change -/
def zXt (m T L a j : Nat) : Prop := (a = 181 ∧ 6 ≤ j ∧ j ≤ 9) ∨ (a = 190 ∧ j = 3) ∨ (192 ≤ a ∧ a ≤ 193) ∨ (a = 182 ∧ j = 3) ∨ (184 ≤ a ∧ a ≤ 185) ∨ (a = 17 + 11 * m ∧ 3 ≤ j ∧ j ≤ 4) ∨ (a = 61 + 5 * T ∧ j ≠ 0) ∨ (a = 7 ∧ j = 7) ∨ (a = 8 ∧ j = 2) ∨ ((a = 9 ∨ a = 10) ∧ L ≤ j)
def zYt (T a j : Nat) : Prop := a = 183 ∨ (a = 191 ∧ j = T)
def zZt (m n a j : Nat) : Prop := (a = 181 ∧ j = 11) ∨ (a = 18 + 11 * m ∧ j = n)
def zXu (T U a j : Nat) : Prop := (a = 203 ∧ (j = 10 ∨ j = 22 ∨ j = 47 ∨ j = 52 ∨ j = 53 ∨ (59 ≤ j ∧ j ≤ 64))) ∨ (218 ≤ a ∧ a ≤ 224 ∧ j = T) ∨ ((a = 226 ∨ a = 227) ∧ 12 * T ≤ j ∧ j < 12 * T + 12) ∨ (242 ≤ a ∧ a ≤ 249) ∨ ((a = 239 ∨ a = 240) ∧ U ≤ j)
def zYu (T a j : Nat) : Prop := a = 241 ∨ (a = 217 ∧ j = T)
def zZu (a j : Nat) : Prop := a = 0 ∧ j ≠ j
section
variable {m T L U a j : Nat}
theorem zXt_b (hT : T < 24) (h : ¬ zXt m T L a j) : zXcb T L a j = false := by
  by_cases e : a = 9 ∨ a = 10
  · have hj : j < L := by unfold zXt at h; omega
    rcases e with rfl | rfl
    · exact (zXcb_9 hT hj).1
    · exact (zXcb_9 hT hj).2
  · unfold zXt at h
    unfold zXcb zXct zXc
    simp only [Bool.or_eq_false_iff, Bool.and_eq_false_iff, beq_eq_false_iff_ne, ne_eq]
    omega
theorem zbl3 (h : j < 12 * T ∨ 12 * T + 12 ≤ j) : (Nat.ble (12 * T) j && Nat.ble (j + 1) (12 * T + 12)) = false := by
  rcases h with h | h
  · exact zbl2 h
  · rw [zbleF (show 12 * T + 12 < j + 1 by omega), Bool.and_false]
theorem zXu_b (h : ¬ zXu T U a j) : zXrb T U 0 a j = false := by
  unfold zXu at h
  unfold zXrb zXr
  by_cases e : a = 226 ∨ a = 227
  · rw [zbl3 (show j < 12 * T ∨ 12 * T + 12 ≤ j by omega)]
    simp only [Bool.and_false, Bool.or_false, Bool.false_or, Bool.or_eq_false_iff, Bool.and_eq_false_iff, beq_eq_false_iff_ne, ne_eq]
    omega
  · by_cases e2 : a = 239 ∨ a = 240
    · rw [zbleF (show j < U by omega)]
      simp only [Bool.and_false, Bool.or_false, Bool.false_or, Bool.or_eq_false_iff, Bool.and_eq_false_iff, beq_eq_false_iff_ne, ne_eq]
      omega
    · simp only [Bool.or_eq_false_iff, Bool.and_eq_false_iff, beq_eq_false_iff_ne, ne_eq]
      omega
end
section
variable {N P S m T M Sw Sl f k0 s0 per n L U : Nat} {μ ν μ' ν' : xe_Mem}
theorem zKc_T (hm : m < 4) (hT : T < 24) (h : zfG (zXt m T L) (zYt T) (zZt m n) μ μ') : zKc m T L μ μ' := by
  refine ⟨fun a j q => ?_, fun a j q => ?_, fun a j q => ?_⟩
  · unfold zPI at q
    refine (h a (by rcases q with ⟨i, h1, h2⟩ | ⟨i, h1, h2⟩ | h1 | h1 <;> omega) j).1 (fun w => ?_)
    unfold zXt at w
    rcases q with ⟨i, h1, h2⟩ | ⟨i, h1, h2⟩ | h1 | h1 <;> omega
  · unfold zPL at q
    refine (h a (by omega) j).2.1 (fun w => ?_)
    unfold zYt at w
    omega
  · obtain ⟨i, h1, h2⟩ := q
    refine (h a (by omega) j).2.2 (fun w => ?_)
    unfold zZt at w
    omega
theorem zKd_T (h : zfG (zXu T U) (zYu T) zZu ν ν') : zKd M T Sw Sl U ν ν' := by
  refine ⟨fun a j q => ?_, fun a j q => ?_⟩
  · unfold zQI at q
    refine (h a (by omega) j).1 (fun w => ?_)
    unfold zXu at w
    omega
  · unfold zQL at q
    refine (h a (by omega) j).2.1 (fun w => ?_)
    unfold zYu at w
    omega
/-- one task more -/
theorem zMd_T {L' U' : Nat} (h : zMd N P S L U μ ν m per f T k0 Sw s0 Sl) (hm : m < 4) (hT : T < 24) (hf : T < f + 6) (hn : n = T - f) (g1 : zfG (zXt m T L) (zYt T) (zZt m n) μ μ') (g2 : zfG (zXu T U) (zYu T) zZu ν ν') (hL : L ≤ L') (hU : U ≤ U') (h3 : xe_I μ' (17 + 11 * m) 3 = nI (n + 1)) (hr : xe_R μ' (18 + 11 * m) n = some (61 + 5 * T)) (ht : zTs P S L' U' μ' ν' m per T) : zMd N P S L' U' μ' ν' m per f (T + 1) k0 Sw s0 Sl := by
  have hc := zKc_T hm hT g1
  have hd := zKd_T (M := m) (Sw := Sw) (Sl := Sl) g2
  have k1 : ∀ j, j < 3 ∨ 4 < j → xe_I μ' (17 + 11 * m) j = xe_I μ (17 + 11 * m) j := fun j q => (g1 _ (by omega) j).1 (fun w => by unfold zXt at w; omega)
  obtain ⟨⟨b1, b2, b3, b4, b5, b6, b7, b8⟩, ⟨c1, c2, c3, c4, c5, c6⟩, q1, q2, q3, q4⟩ := h
  refine ⟨⟨b1, b2, by omega, by omega, b5, b6, b7, b8⟩, ⟨(k1 1 (by omega)).trans c1, ?_, ?_, (k1 6 (by omega)).trans c4, (k1 10 (by omega)).trans c5, ?_⟩, fun i hi => ?_, fun t h1 h2 => ?_, fun e he => ?_, ?_⟩
  · exact ((g2 214 (by decide) m).1 (fun w => by unfold zXu at w; omega)).trans c2
  · rw [h3, show T + 1 - f = n + 1 by omega]
  · rw [(g1 187 (by decide) m).2.1 (fun w => by unfold zYt at w; omega), (g2 213 (by decide) m).2.1 (fun w => by unfold zYu at w; omega)]
    exact c6
  · by_cases e : i = n
    · rw [e, hr, show f + n = T by omega]
    · rw [(g1 (18 + 11 * m) (by omega) i).2.2 (fun w => by unfold zZt at w; omega)]
      exact q1 i (by omega)
  · by_cases e : t = T
    · rw [e]
      exact ht
    · exact zTs_k (q2 t h1 (by omega)) (by omega) hc hd hL hU
  · exact zEt_k (q3 e he) (by omega) (fun j => (g1 _ (by omega) j).1 (fun w => by unfold zXt at w; omega)) hc hd hL hU
  · exact zSr_k q4 (Nat.le_refl _) (fun j => (g1 _ (by omega) j).1 (fun w => by unfold zXt at w; omega)) hd
end
