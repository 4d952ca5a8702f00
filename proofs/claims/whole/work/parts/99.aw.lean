/-! reading, from the tokens to a program or to a fault -/
def zr133 (m5 : xe_Mem) : zO := zq_cV (zD140 m5) fun m7 => zq_m (xe_setI m7 203 10 0) fun m9 => zq_m (xe_setI m9 203 11 0) fun m11 => zD133_18 zfu 1 m11
def zs33 (μ : xe_Mem) : xe_Mem := xe_setI (xe_setI (xe_setI (xe_setI (xe_setI (xe_setI (xe_setI (xe_setI (xe_setI (xe_setI μ 8 2 0) 7 4 0) 7 5 0) 7 6 0) 7 7 0) 182 3 0) 186 3 0) 190 3 0) 181 7 0) 181 6 0
def zsr3 (ν : xe_Mem) : xe_Mem := xe_setI (xe_setI (zclr ν) 203 10 0) 203 11 0
section
variable {N p pl : Nat} {μ ν : xe_Mem} {c j : Nat}
theorem z57_0 (hp : xe_I ν 203 10 = nI p) (h : p < 3001) (hpl : xe_I ν 208 p = nI pl) : zD133_57 0 ν = zint (1 + nI pl) (zclr ν) := by
  unfold zD133_57
  rw [hp, zx_nI (show p < 3002 by omega) (by decide)]
  simp only [zq_vI]
  rw [hpl]
  show zD133_68_b (zD133_68 999999999) 0 (nI pl) (xe_I ν 203 37 - 1) ν = _
  unfold zD133_68_b
  have h85 : zD133_85 0 (nI pl) ν = zint (1 + nI pl) (zclr ν) := by
    unfold zD133_85
    rw [if_pos rfl]
    unfold zD133_98
    rw [if_pos rfl, z140, zcV_ok]
  by_cases h3 : xe_I ν 203 37 - 1 < 0
  · rw [if_pos h3]
    exact h85
  · rw [if_neg h3, if_pos rfl]
    exact h85
theorem zclr_o (h : c ≠ 203 ∨ (j ≠ 12 ∧ j ≠ 15 ∧ j ≠ 17 ∧ j ≠ 22 ∧ j ≠ 37 ∧ j ≠ 43 ∧ j ≠ 47 ∧ j ≠ 52 ∧ j ≠ 70)) : xe_I (zclr ν) c j = xe_I ν c j := by
  unfold zclr
  rw [xu_In (by omega), xu_In (by omega), xu_In (by omega), xu_In (by omega), xu_In (by omega), xu_In (by omega), xu_In (by omega), xu_In (by omega), xu_In (by omega)]
theorem zclr_v (h : j = 12 ∨ j = 15 ∨ j = 17 ∨ j = 22 ∨ j = 37 ∨ j = 43 ∨ j = 47 ∨ j = 52 ∨ j = 70) : xe_I (zclr ν) 203 j = 0 := by
  unfold zclr
  rcases h with h | h | h | h | h | h | h | h | h
  · rw [h, xu_In (by omega), xu_In (by omega), xu_In (by omega), xu_In (by omega), xu_In (by omega), xu_In (by omega), xu_In (by omega), xu_In (by omega)]; exact xu_I
  · rw [h, xu_In (by omega), xu_In (by omega), xu_In (by omega), xu_In (by omega), xu_In (by omega), xu_In (by omega), xu_In (by omega)]; exact xu_I
  · rw [h, xu_In (by omega), xu_In (by omega), xu_In (by omega), xu_In (by omega), xu_In (by omega), xu_In (by omega)]; exact xu_I
  · rw [h, xu_In (by omega), xu_In (by omega), xu_In (by omega), xu_In (by omega), xu_In (by omega)]; exact xu_I
  · rw [h, xu_In (by omega), xu_In (by omega), xu_In (by omega), xu_In (by omega)]; exact xu_I
  · rw [h, xu_In (by omega), xu_In (by omega), xu_In (by omega)]; exact xu_I
  · rw [h, xu_In (by omega), xu_In (by omega)]; exact xu_I
  · rw [h, xu_In (by omega)]; exact xu_I
  · rw [h]; exact xu_I
theorem zsr3_v (h : j = 10 ∨ j = 11 ∨ j = 12 ∨ j = 15 ∨ j = 17 ∨ j = 22 ∨ j = 37 ∨ j = 43 ∨ j = 47 ∨ j = 52 ∨ j = 70) : xe_I (zsr3 ν) 203 j = 0 := by
  unfold zsr3
  by_cases h11 : j = 11
  · rw [h11]; exact xu_I
  · by_cases h10 : j = 10
    · rw [h10, xu_In (by omega)]; exact xu_I
    · rw [xu_In (by omega), xu_In (by omega)]
      exact zclr_v (by omega)
theorem zs33_o (h1 : c ≠ 7 ∨ (j < 4 ∨ 7 < j)) (h2 : c ≠ 8 ∨ j ≠ 2) (h3 : c ≠ 182 ∨ j ≠ 3) (h4 : c ≠ 186 ∨ j ≠ 3) (h5 : c ≠ 190 ∨ j ≠ 3) (h6 : c ≠ 181 ∨ (j ≠ 6 ∧ j ≠ 7)) : xe_I (zs33 μ) c j = xe_I μ c j := by
  unfold zs33
  rw [xu_In (by omega), xu_In (by omega), xu_In (by omega), xu_In (by omega), xu_In (by omega), xu_In (by omega), xu_In (by omega), xu_In (by omega), xu_In (by omega), xu_In (by omega)]
theorem zs33_v : xe_I (zs33 μ) 8 2 = 0 ∧ xe_I (zs33 μ) 7 4 = 0 ∧ xe_I (zs33 μ) 7 5 = 0 ∧ xe_I (zs33 μ) 7 6 = 0 ∧ xe_I (zs33 μ) 7 7 = 0 ∧ xe_I (zs33 μ) 182 3 = 0 ∧ xe_I (zs33 μ) 186 3 = 0 ∧ xe_I (zs33 μ) 190 3 = 0 ∧ xe_I (zs33 μ) 181 7 = 0 ∧ xe_I (zs33 μ) 181 6 = 0 := by
  unfold zs33
  refine ⟨?_, ?_, ?_, ?_, ?_, ?_, ?_, ?_, ?_, xu_I⟩
  · rw [xu_In (by omega), xu_In (by omega), xu_In (by omega), xu_In (by omega), xu_In (by omega), xu_In (by omega), xu_In (by omega), xu_In (by omega), xu_In (by omega)]; exact xu_I
  · rw [xu_In (by omega), xu_In (by omega), xu_In (by omega), xu_In (by omega), xu_In (by omega), xu_In (by omega), xu_In (by omega), xu_In (by omega)]; exact xu_I
  · rw [xu_In (by omega), xu_In (by omega), xu_In (by omega), xu_In (by omega), xu_In (by omega), xu_In (by omega), xu_In (by omega)]; exact xu_I
  · rw [xu_In (by omega), xu_In (by omega), xu_In (by omega), xu_In (by omega), xu_In (by omega), xu_In (by omega)]; exact xu_I
  · rw [xu_In (by omega), xu_In (by omega), xu_In (by omega), xu_In (by omega), xu_In (by omega)]; exact xu_I
  · rw [xu_In (by omega), xu_In (by omega), xu_In (by omega), xu_In (by omega)]; exact xu_I
  · rw [xu_In (by omega), xu_In (by omega), xu_In (by omega)]; exact xu_I
  · rw [xu_In (by omega), xu_In (by omega)]; exact xu_I
  · rw [xu_In (by omega)]; exact xu_I
/-- what both hold ahead of the reading -/
def zRd (N : Nat) (μ ν : xe_Mem) : Prop := zTE μ ν N ∧ zRt μ ∧ (∀ t, t < 24 → xe_I μ (61 + 5 * t) 0 = nI t) ∧ (∀ i, i < 4 → xe_I μ (17 + 11 * i) 0 = nI i) ∧ 265 ≤ (xe_sh μ).length ∧ (xe_sh μ).length < xg_CT ∧ xe_sl μ + 6 ≤ xg_ST ∧ ∃ u, u < 4096 ∧ xe_I μ 181 9 = nI u
theorem z_read (h : zRd N μ ν) :
    (∃ μ' ν' pl P S M T Sw Sl L, zD33 μ = some (.inl none, μ') ∧ zr133 ν = zD133_98 1 (nI pl) ν' ∧ zPg N P S M T Sw Sl L μ' ν' ∧ zW μ ν μ' ν' ∧ ∃ u, u < 4096 ∧ xe_I μ' 181 9 = nI u) ∨
    (∃ μ' ν' tk pl, zD33 μ = some (.inr (xe_sh μ').length, xe_add μ' (.inl 12) 6) ∧ zr133 ν = zint (1 + nI pl) (zclr ν') ∧ tk < 3001 ∧ xe_I μ' 181 6 = nI tk ∧ xe_I μ' 5 tk = nI pl ∧ pl ≤ 3000 ∧ zW μ ν μ' ν' ∧ ∃ u, u < 4096 ∧ xe_I μ' 181 9 = nI u) := by
  obtain ⟨hT, hR, ct, cm, s1, s2, s3, u, hu1, hu2⟩ := h
  have hN3 := hT.2.1
  have hW0 : zW μ ν (zs33 μ) (zsr3 ν) := by
    refine ⟨⟨fun a ha => ⟨funext fun j => zs33_o (by omega) (by omega) (by omega) (by omega) (by omega) (by omega), rfl, rfl⟩, fun t ht => zs33_o (by omega) (by omega) (by omega) (by omega) (by omega) (by omega), fun i hi => zs33_o (by omega) (by omega) (by omega) (by omega) (by omega) (by omega), fun j => zs33_o (by omega) (by omega) (by omega) (by omega) (by omega) (by omega)⟩, ⟨fun a h1 h2 => ⟨funext fun j => ?_, rfl⟩, fun j hj => ?_⟩, rfl, rfl⟩
    · unfold zsr3
      rw [xu_In (by omega), xu_In (by omega), zclr_o (by omega)]
    · unfold zsr3
      rw [xu_In (by omega), xu_In (by omega), zclr_o (by omega)]
  obtain ⟨v1, v2, v3, v4, v5, v6, v7, v8, v9, v10⟩ := zs33_v (μ := μ)
  have hBD : zBD N 0 0 (zs33 μ) (zsr3 ν) 0 := by
    refine ⟨⟨zTE_k hT (fun a ha => ⟨(hW0.1.1 a (by omega)).1, rfl, rfl⟩) (fun a ha => ⟨(hW0.2.1.1 a (by omega) (by omega)).1, rfl⟩), v10, zsr3_v (by omega), hT.1, zsr3_v (by omega), s1, s2, s3, u, hu1, (zs33_o (by omega) (by omega) (by omega) (by omega) (by omega) (by omega)).trans hu2⟩, ⟨hR, ⟨by omega, by omega, zsr3_v (by omega), zsr3_v (by omega), fun e he => absurd he (by omega), fun i hi => absurd hi (by omega), fun i hi => absurd hi (by omega), fun e e' he => absurd he (by omega)⟩, ⟨v2, v3, zsr3_v (by omega)⟩, fun t ht => (hW0.1.2.1 t ht).trans (ct t ht), fun i hi => (hW0.1.2.2.1 i hi).trans (cm i hi), fun j hj => absurd hj (by omega)⟩, ⟨⟨v8, v5, zsr3_v (by omega), fun t ht => absurd ht (by omega)⟩, ⟨v7, v4, zsr3_v (by omega), fun t ht => absurd ht (by omega)⟩⟩, ⟨v1, v9, zsr3_v (by omega), zsr3_v (by omega), by omega, by omega, zsr3_v (by omega), zsr3_v (by omega)⟩, v6⟩
  have hA : zD33 μ = zD33_23 zfu (nI (0 + 0)) (zs33 μ) := by
    unfold zD33 zD34
    simp only [zq_m]
    rw [zcV_ok]
    rfl
  have hB : zr133 ν = zD133_18 zfu 1 (zsr3 ν) := by
    unfold zr133
    rw [z140, zcV_ok]
    rfl
  rw [hA, hB]
  have hzf : 4000 ≤ zfu := by decide
  -- a fault
  have hno : ∀ A B, zFy N μ ν A B → ∃ μ' ν' tk pl, A = some (.inr (xe_sh μ').length, xe_add μ' (.inl 12) 6) ∧ B = zint (1 + nI pl) (zclr ν') ∧ tk < 3001 ∧ xe_I μ' 181 6 = nI tk ∧ xe_I μ' 5 tk = nI pl ∧ pl ≤ 3000 ∧ zW μ ν μ' ν' ∧ ∃ u, u < 4096 ∧ xe_I μ' 181 9 = nI u := fun A B hf => by
    obtain ⟨B0, ⟨μ', ν', tk, w1, w2, ⟨w3, w3'⟩, w4, w5, w6, w7, w8, w9⟩, hb⟩ := hf
    obtain ⟨q, pl, -, -, t3⟩ := hT.2.2 tk w3
    have k5 : xe_I μ' 5 tk = nI pl := by
      rw [(w6.1 5 (by decide)).1]
      exact t3.2.1
    have k208 : xe_I ν' 208 tk = nI pl := by
      rw [(w7.1 208 (by decide) (by decide)).1]
      exact t3.2.2.1
    refine ⟨μ', ν', tk, pl, w1, ?_, by omega, w4, k5, t3.2.2.2.1, ⟨w6, w7, w8, w9⟩, w3'⟩
    rw [hb ν' w2]
    exact z57_0 w5 (by omega) k208
  rcases z_decls N (zs33 μ) (zsr3 ν) 0 0 0 zfu zfu (by omega) hBD (by omega) (by omega) with ⟨P, S, μ1, ν1, p1, a1, a2, a3, a4, a5⟩ | hf
  · rw [a1, a2]
    rcases z_modes1 (zBD_M a3) with ⟨μ2, ν2, p2, M, T, Sw, Sl, L, st, c1, c2, c3, c4, c5, c6⟩ | hf
    · rw [c1, c2]
      have hW2 : zW μ ν μ2 ν2 := zW_t hW0 (zW_t a5 c6)
      obtain ⟨u', hu1', hu2'⟩ := c3.1.2.2.2.2.2.2.2.2
      rcases z_aims c3 c4 with ⟨μ', pl, d1, d2, d3, d4, d5⟩ | ⟨μ', tk, pl, d1, d2, d3, d4, d5, d6, d7, d8⟩
      · rw [d1, d2, zcV_ok]
        exact Or.inl ⟨μ', ν2, pl, P, S, M, T, Sw, Sl, L, rfl, rfl, d3, zW_t hW2 d4, u', hu1', d5.trans hu2'⟩
      · rw [d1, d2, zcV_no]
        exact Or.inr ⟨μ', ν2, tk, pl, rfl, rfl, d3, d4, d5, d6, zW_t hW2 d7, u', hu1', d8.trans hu2'⟩
    · exact Or.inr (hno _ _ (zFy_w (zW_t hW0 a5) hf))
  · exact Or.inr (hno _ _ (zFy_w hW0 hf))
end
