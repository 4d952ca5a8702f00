/-! reading: steps of what both hold -/
section
variable {N P S L L' U U' M T Sw Sl m per t k e s s' f f' k' p q pl : Nat} {μ ν μ' ν' μ1 ν1 : xe_Mem}
theorem z_mono {F : Nat → Nat} {M : Nat} (h : ∀ m, m < M → F m ≤ F (m + 1)) : ∀ i, i ≤ M → F (M - i) ≤ F M := by
  intro i
  induction i with
  | zero => intro _; exact Nat.le_refl _
  | succ i ih =>
    intro hi
    have h1 := h (M - (i + 1)) (by omega)
    rw [show M - (i + 1) + 1 = M - i by omega] at h1
    exact Nat.le_trans h1 (ih (by omega))
theorem zOm_b (h : ∃ F K Z pr : Nat → Nat, (F 0 = 0 ∧ K 0 = 0 ∧ Z 0 = 0 ∧ F M = T ∧ K M = Sw ∧ Z M = Sl) ∧ ∀ m, m < M → zMd N P S L U μ ν m (pr m) (F m) (F (m + 1)) (K m) (K (m + 1)) (Z m) (Z (m + 1))) : ∃ F K Z pr : Nat → Nat, (F 0 = 0 ∧ K 0 = 0 ∧ Z 0 = 0 ∧ F M = T ∧ K M = Sw ∧ Z M = Sl) ∧ (∀ m, m < M → zMd N P S L U μ ν m (pr m) (F m) (F (m + 1)) (K m) (K (m + 1)) (Z m) (Z (m + 1))) ∧ ∀ m, m ≤ M → F m ≤ T ∧ K m ≤ Sw ∧ Z m ≤ Sl := by
  obtain ⟨F, K, Z, pr, h0, h1⟩ := h
  refine ⟨F, K, Z, pr, h0, h1, fun m hm => ?_⟩
  have e : m = M - (M - m) := by omega
  refine ⟨?_, ?_, ?_⟩
  · rw [← h0.2.2.2.1, e]
    exact z_mono (fun i hi => (h1 i hi).1.2.2.1) (M - m) (by omega)
  · rw [← h0.2.2.2.2.1, e]
    exact z_mono (fun i hi => (h1 i hi).1.2.2.2.2.1) (M - m) (by omega)
  · rw [← h0.2.2.2.2.2, e]
    exact z_mono (fun i hi => (h1 i hi).1.2.2.2.2.2.2.1) (M - m) (by omega)
theorem zOm_k (h : zOm N P S L U μ ν M T Sw Sl) {M' T' Sw' Sl' : Nat} (hM : M ≤ M') (hT : T ≤ T') (hK : Sw ≤ Sw') (hZ : Sl ≤ Sl') (hc : zKc M' T' L μ μ') (hd : zKd M' T' Sw' Sl' U ν ν') (hL : L ≤ L') (hU : U ≤ U') : zOm N P S L' U' μ' ν' M T Sw Sl := by
  obtain ⟨F, K, Z, pr, h0, h1, h2⟩ := zOm_b h
  refine ⟨F, K, Z, pr, h0, fun m hm => ?_⟩
  obtain ⟨a1, a2, a3⟩ := h2 (m + 1) (by omega)
  exact zMd_k (h1 m hm) (by omega) (by omega) (by omega) (by omega) hc hd hL hU
theorem zOm_0 : zOm N P S L U μ ν 0 0 0 0 := ⟨fun _ => 0, fun _ => 0, fun _ => 0, fun _ => 0, ⟨rfl, rfl, rfl, rfl, rfl, rfl⟩, fun m hm => absurd hm (by omega)⟩
theorem zOm_1 (h : zOm N P S L U μ ν M T Sw Sl) (hm : zMd N P S L U μ ν M per T f' Sw k' Sl s') : zOm N P S L U μ ν (M + 1) f' k' s' := by
  obtain ⟨F, K, Z, pr, ⟨h1, h2, h3, h4, h5, h6⟩, h7⟩ := h
  refine ⟨va_up F (M + 1) f', va_up K (M + 1) k', va_up Z (M + 1) s', va_up pr M per, ⟨?_, ?_, ?_, va_up_self _ _ _, va_up_self _ _ _, va_up_self _ _ _⟩, fun m hm2 => ?_⟩
  · rw [va_up_ne _ _ (by omega)]; exact h1
  · rw [va_up_ne _ _ (by omega)]; exact h2
  · rw [va_up_ne _ _ (by omega)]; exact h3
  · by_cases e : m = M
    · subst e
      rw [va_up_self, va_up_self, va_up_self, va_up_self, va_up_ne _ _ (by omega), va_up_ne _ _ (by omega), va_up_ne _ _ (by omega), h4, h5, h6]
      exact hm
    · rw [va_up_ne _ _ (by omega), va_up_ne _ _ (by omega), va_up_ne _ _ (by omega), va_up_ne _ _ (by omega), va_up_ne _ _ (by omega), va_up_ne _ _ (by omega), va_up_ne _ _ (by omega)]
      exact h7 m (by omega)
/-! the token at hand -/
theorem zPo_mv (h : zPo N μ ν p) (hN : p + 1 < N) : zPo N (zmv μ p) (zrmv ν p) (p + 1) := by
  obtain ⟨h1, h2, h3, h4, h5, h6, h7, h8, u, h9, h10⟩ := h
  exact ⟨zTE_k h1 (fun a ha => ⟨funext fun j => xu_In (by omega), rfl, rfl⟩) (fun a ha => ⟨funext fun j => xu_In (by omega), rfl⟩), xu_I, xu_I, hN, (xu_In (by omega)).trans h5, h6, h7, h8, u, h9, (xu_In (by omega)).trans h10⟩
theorem zPo_tok (h : zPo N μ ν p) : ∃ q pl, q < 29 ∧ (q ≤ 26 ↔ p + 1 < N) ∧ zTk μ ν p q pl ∧ p < 3001 := by
  obtain ⟨hx, e1, r1, b1, -⟩ := h
  obtain ⟨q, pl, h1, h2, h3⟩ := hx.2.2 p b1
  have := hx.2.1
  exact ⟨q, pl, h1, h2, h3, by omega⟩
theorem zPo_no (h : zPo N μ ν p) {A B : zO} (hA : A = zq_thr 12 μ) (hB : B = zint 0 (xe_setI ν 203 11 1)) : zFx N μ ν A B := by
  obtain ⟨h1, h2, h3, h4, h5, h6, h7, h8, h9⟩ := h
  exact ⟨μ, xe_setI ν 203 11 1, p, by rw [hA, zthr h7 h8], hB, ⟨h4, h9⟩, h2, (xu_In (by omega)).trans h3, ⟨fun _ _ => ⟨rfl, rfl, rfl⟩, fun _ _ => rfl, fun _ _ => rfl, fun _ => rfl⟩, ⟨fun a q1 q2 => ⟨funext fun j => xu_In (by omega), rfl⟩, fun j hj => xu_In (by omega)⟩, rfl, rfl⟩
theorem zPo_k (h : zPo N μ ν p) (k1 : ∀ a, a = 4 ∨ a = 5 ∨ a = 6 → xe_I μ' a = xe_I μ a ∧ xe_L μ' a = xe_L μ a ∧ xe_R μ' a = xe_R μ a) (k2 : ∀ a, a = 207 ∨ a = 208 ∨ a = 209 → xe_I ν' a = xe_I ν a ∧ xe_L ν' a = xe_L ν a) (k3 : xe_I μ' 181 6 = xe_I μ 181 6) (k4 : xe_I ν' 203 10 = xe_I ν 203 10 ∧ xe_I ν' 203 11 = xe_I ν 203 11) (k5 : xe_sh μ' = xe_sh μ) (k6 : xe_sl μ' = xe_sl μ) (k7 : xe_I μ' 181 9 = xe_I μ 181 9) : zPo N μ' ν' p := by
  obtain ⟨h1, h2, h3, h4, h5, h6, h7, h8, u, h9, h10⟩ := h
  exact ⟨zTE_k h1 k1 k2, k3.trans h2, k4.1.trans h3, h4, k4.2.trans h5, by rw [k5]; exact h6, by rw [k5]; exact h7, by rw [k6]; exact h8, u, h9, k7.trans h10⟩
/-! what refusals keep -/
theorem zG_r : zG μ μ := ⟨fun _ _ => ⟨rfl, rfl, rfl⟩, fun _ _ => rfl, fun _ _ => rfl, fun _ => rfl⟩
theorem zGr_r : zGr ν ν := ⟨fun _ _ _ => ⟨rfl, rfl⟩, fun _ _ => rfl⟩
/-- an int that a refusal needn't keep -/
def zgI (a j : Nat) : Prop := 6 < a ∧ a ≠ 194 ∧ ((∃ t, t < 24 ∧ a = 61 + 5 * t) ∨ (∃ m, m < 4 ∧ a = 17 + 11 * m) → j ≠ 0)
theorem zG_sI {a j : Nat} {v : Int32} (h : zgI a j) : zG μ (xe_setI μ a j v) := by
  obtain ⟨h1, h2, h3⟩ := h
  refine ⟨fun b hb => ⟨funext fun i => xu_In (by omega), rfl, rfl⟩, fun t ht => xu_In (fun e => ?_), fun m hm => xu_In (fun e => ?_), fun i => xu_In (by omega)⟩
  · exact h3 (Or.inl ⟨t, ht, e.1.symm⟩) e.2.symm
  · exact h3 (Or.inr ⟨m, hm, e.1.symm⟩) e.2.symm
theorem zG_sL {a j : Nat} {v : Int64} (h : 6 < a) : zG μ (xe_setL μ a j v) := ⟨fun b hb => ⟨rfl, by rw [zr_LL, if_neg (by omega)], rfl⟩, fun _ _ => rfl, fun _ _ => rfl, fun _ => rfl⟩
theorem zG_sR {a j : Nat} {v : Option Nat} (h : 6 < a) : zG μ (xe_setR μ a j v) := ⟨fun b hb => ⟨rfl, rfl, by rw [zr_RR, if_neg (by omega)]⟩, fun _ _ => rfl, fun _ _ => rfl, fun _ => rfl⟩
theorem zGr_sI {a j : Nat} {v : Int32} (h : (a < 204 ∨ 209 < a) ∧ (a ≠ 203 ∨ 9 < j)) : zGr ν (xe_setI ν a j v) := ⟨fun b h1 h2 => ⟨funext fun i => xu_In (by omega), rfl⟩, fun i hi => xu_In (by omega)⟩
theorem zGr_sL {a j : Nat} {v : Int64} (h : 209 < a) : zGr ν (xe_setL ν a j v) := ⟨fun b h1 h2 => ⟨rfl, by rw [zr_LL, if_neg (by omega)]⟩, fun i hi => rfl⟩
theorem zG_mv : zG μ (zmv μ p) := zG_sI ⟨by decide, by decide, fun h => by rcases h with ⟨t, _, h2⟩ | ⟨t, _, h2⟩ <;> omega⟩
theorem zGr_mv : zGr ν (zrmv ν p) := zGr_sI ⟨Or.inl (by decide), Or.inr (by decide)⟩
/-! the names of ports and sensors -/
theorem zNp_k (h : zNp μ ν P S) (k1 : ∀ e, e < P + S → xe_I μ' 184 e = xe_I μ 184 e ∧ xe_I μ' 185 e = xe_I μ 185 e ∧ xe_L μ' 183 e = xe_L μ 183 e) (k2 : xe_L ν' 210 = xe_L ν 210 ∧ xe_L ν' 212 = xe_L ν 212) (k3 : xe_I ν' 203 12 = xe_I ν 203 12 ∧ xe_I ν' 203 15 = xe_I ν 203 15) : zNp μ' ν' P S := by
  obtain ⟨h1, h2, h3, h4, h5, h6, h7, h8⟩ := h
  refine ⟨h1, h2, k3.1.trans h3, k3.2.trans h4, fun e he => ?_, fun p hp => ?_, fun s hs => ?_, fun e e' he he' hx => ?_⟩
  · rw [(k1 e he).1, (k1 e he).2.1, (k1 e he).2.2, k2.1, k2.2]
    exact h5 e he
  · obtain ⟨e, q1, q2⟩ := h6 p hp
    refine ⟨e, q1, ?_⟩
    rw [(k1 e q1).1, (k1 e q1).2.1, (k1 e q1).2.2, k2.1]
    exact q2
  · obtain ⟨e, q1, q2⟩ := h7 s hs
    refine ⟨e, q1, ?_⟩
    rw [(k1 e q1).1, (k1 e q1).2.1, (k1 e q1).2.2, k2.2]
    exact q2
  · rw [(k1 e he).2.2, (k1 e' he').2.2] at hx
    exact h8 e e' he he' hx
theorem zNp_m (h : zNp μ ν P S) {tk : Bool} (h3 : xe_I μ 182 3 = nI (P + S)) (h12 : tk = true → ∀ l, l < 6 → xe_I ν 242 l = 0) : zNm μ ν P S 0 tk := by
  obtain ⟨g1, g2, g3, g4, g5, g6, g7, g8⟩ := h
  exact ⟨g1, g2, by omega, h3, g3, g4, g5, g6, g7, g8, fun l hl => absurd hl (by omega), fun q l _ hl => h12 q l hl⟩
theorem zNm_p {Lc : Nat} {tk : Bool} (h : zNm μ ν P S Lc tk) : zNp μ ν P S := by
  obtain ⟨h1, h2, h3, h4, h5, h6, h7, h8, h9, h10, h11, h12⟩ := h
  exact ⟨h1, h2, h5, h6, h7, h8, h9, fun e e' he he' hx => h10 e e' (by omega) (by omega) hx⟩
/-! what is kept while statements are read -/
theorem zKc_b (hT : t < 24) (h : zfJ (zXcb t L) 183 μ μ') (hM : M ≤ 4) (ht : T ≤ t) (hL : L' ≤ L) : zKc M T L' μ μ' := by
  refine ⟨fun a j hq => ?_, fun a j hq => ?_, fun a j hq => ?_⟩
  · have ha : a < 265 := by rcases hq with ⟨m, h1, h2⟩ | ⟨t', h1, h2⟩ | ⟨h1, h2⟩ | h1 <;> omega
    refine (h a ha).1 j ?_
    rcases hq with ⟨m, h1, h2⟩ | ⟨t', h1, h2⟩ | ⟨h1, h2⟩ | h1
    · unfold zXcb zXct zXc
      simp only [Bool.or_eq_false_iff, Bool.and_eq_false_iff, beq_eq_false_iff_ne, ne_eq]
      omega
    · unfold zXcb zXct zXc
      simp only [Bool.or_eq_false_iff, Bool.and_eq_false_iff, beq_eq_false_iff_ne, ne_eq]
      omega
    · have := zXcb_9 (t := t) hT (show j < L by omega)
      rcases h1 with e | e
      · rw [e]; exact this.1
      · rw [e]; exact this.2
    · unfold zXcb zXct zXc
      simp only [Bool.or_eq_false_iff, Bool.and_eq_false_iff, beq_eq_false_iff_ne, ne_eq]
      omega
  · have ha : a < 265 ∧ a ≠ 183 := by rcases hq with h1 | ⟨h1, h2⟩ <;> omega
    rw [(h a ha.1).2.1 ha.2]
  · have ha : a < 265 := by obtain ⟨m, h1, h2⟩ := hq; omega
    rw [(h a ha).2.2]
theorem zbl2 {a b j : Nat} (h : j < a) : (Nat.ble a j && Nat.ble (j + 1) b) = false := by
  rw [zbleF h]
  rfl
theorem zKd_b {d : Nat} (hT : t < 24) (h : zfJ (zXrb t U d) 241 ν ν') (ht : T ≤ t) (hU : U' ≤ U) : zKd M T Sw Sl U' ν ν' := by
  refine ⟨fun a j hq => ?_, fun a j hq => ?_⟩
  · have ha : a < 265 := by rcases hq with ⟨h1, h2⟩ | ⟨h1, h2, h3⟩ | ⟨h1, h2⟩ | ⟨h1, h2, h3⟩ | ⟨h1, h2, h3⟩ | ⟨h1, h2⟩ <;> omega
    refine (h a ha).1 j ?_
    unfold zXrb zXr
    rcases hq with ⟨h1, h2⟩ | ⟨h1, h2, h3⟩ | ⟨h1, h2⟩ | ⟨h1, h2, h3⟩ | ⟨h1, h2, h3⟩ | ⟨h1, h2⟩
    · simp only [Bool.or_eq_false_iff, Bool.and_eq_false_iff, beq_eq_false_iff_ne, ne_eq]
      omega
    · simp only [Bool.or_eq_false_iff, Bool.and_eq_false_iff, beq_eq_false_iff_ne, ne_eq]
      omega
    · rw [zbl2 (show j < 12 * t by omega)]
      simp only [Bool.and_false, Bool.or_false, Bool.false_or, Bool.or_eq_false_iff, Bool.and_eq_false_iff, beq_eq_false_iff_ne, ne_eq]
      omega
    · simp only [Bool.or_eq_false_iff, Bool.and_eq_false_iff, beq_eq_false_iff_ne, ne_eq]
      omega
    · simp only [Bool.or_eq_false_iff, Bool.and_eq_false_iff, beq_eq_false_iff_ne, ne_eq]
      omega
    · rw [zbleF (show j < U by omega)]
      simp only [Bool.and_false, Bool.or_false, Bool.false_or, Bool.or_eq_false_iff, Bool.and_eq_false_iff, beq_eq_false_iff_ne, ne_eq]
      omega
  · have ha : a < 265 ∧ a ≠ 241 := by rcases hq with ⟨h1, h2⟩ | ⟨h1, h2⟩ <;> omega
    rw [(h a ha.1).2.1 ha.2]
end
