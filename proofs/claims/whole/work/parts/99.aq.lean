/-! reading a mode whole -/
section
variable {N P S m f k0 s0 : Nat}
/-- its tasks -/
theorem z_tasks {Sw Sl per : Nat} : ∀ (r : Nat) (μ ν : xe_Mem) (p T L st mb g F : Nat), N - p ≤ r → zIM N P S m f k0 s0 μ ν p T Sw Sl L st mb per → 4000 ≤ g + p → 4000 ≤ F + p →
    (∃ μ' ν' p' T' L' st' mb', zD44_32 g (nI (T - f)) μ = zD44_43 μ' ∧ zD151_77 F (nI m) (nI f) ν = zD151_99 zfu (nI m) (nI Sw) ν' ∧ zIM N P S m f k0 s0 μ' ν' p' T' Sw Sl L' st' mb' per ∧ p ≤ p' ∧ zW μ ν μ' ν') ∨ zFx N μ ν (zD44_32 g (nI (T - f)) μ) (zD151_77 F (nI m) (nI f) ν) := by
  intro r
  induction r with
  | zero =>
    intro μ ν p T L st mb g F hr h
    have := h.1.2.2.2.1
    omega
  | succ r ih =>
    intro μ ν p T L st mb g F hr h hg hF
    obtain ⟨hP, hK, hNn, hC, hM, ⟨m4, f6, k4, s120⟩, hO, hD⟩ := id h
    obtain ⟨⟨b1, b2, b3, b4, b5, b6, b7, b8⟩, ⟨e1, e2, e3, e4, e5, e6⟩, hr18, hts, het, hsr⟩ := id hD
    have hN3 := hP.1.2.1
    have hpN := hP.2.2.2.1
    have n3 := hNn.1.2.2.1
    have c7 := hC.2.2.2.2.2.2.1
    obtain ⟨g, rfl⟩ : ∃ k, g = k + 1 := ⟨g - 1, by omega⟩
    obtain ⟨F, rfl⟩ : ∃ k, F = k + 1 := ⟨F - 1, by omega⟩
    obtain ⟨b, y1, y2, y3⟩ := zt_isw hP (K := 3) (by decide)
    have hA : zD44_32 (g + 1) (nI (T - f)) μ = if b = false then zD44_43 μ else zq_cV (zD47 μ) fun m32 => zD44_32 g (nI (T - f + 1)) m32 := by
      show zD44_32_b (zD44_32 g) (nI (T - f)) μ = _
      unfold zD44_32_b
      rw [if_neg (show ¬ (6 : Int32) < nI (T - f) from nI_nlt (a := 6) (by omega) (by decide)), show zD35 1000004 μ = _ from y1, zcI_ok, nI_1]
      cases b
      · rw [if_pos (show zb01 false = 0 by decide), if_pos rfl]
      · rw [if_neg (show ¬ zb01 true = 0 by decide), if_neg (show ¬ true = false by decide)]
    have hB : zD151_77 (F + 1) (nI m) (nI f) ν = if b = false then zD151_99 zfu (nI m) (nI Sw) ν else if T - f = 6 then zint 0 (xe_setI ν 203 11 1) else zq_cI (zD153 (nI m) ν) fun x74 m72 => if x74 = 0 then some (.inl (some (.int 0)), m72) else zD151_77 F (nI m) (nI f) m72 := by
      show zD151_77_b (zD151_77 F) (nI m) (nI f) ν = _
      unfold zD151_77_b
      rw [show zD141 3 ν = _ from y2, zcI_ok]
      simp only [zq_vI]
      rw [n3, c7, zn_sub b3]
      cases b
      · rw [if_pos (show zb01 false = 0 by decide), if_pos rfl]
      · rw [if_neg (show ¬ zb01 true = 0 by decide), if_neg (show ¬ true = false by decide)]
        by_cases h6 : T - f = 6
        · rw [if_pos (show nI (T - f) = 6 by rw [h6]; rfl), if_pos h6, z150, zcI_ok, zz_0]
        · rw [if_neg (show ¬ nI (T - f) = 6 from fun w => h6 (by rw [show (6 : Int32) = nI 6 from rfl, zi_eq (by omega) (by omega)] at w; exact w)), if_neg h6]
    rw [hA, hB]
    cases b
    · rw [if_pos rfl, if_pos rfl]
      exact Or.inl ⟨μ, ν, p, T, L, st, mb, rfl, rfl, h, Nat.le_refl _, zW_r⟩
    · rw [if_neg (show ¬ true = false by decide), if_neg (show ¬ true = false by decide)]
      obtain ⟨hN, -⟩ := y3 rfl
      by_cases h6 : T - f = 6
      · rw [if_pos h6]
        refine Or.inr (zFx_cV (zPo_no hP ?_ rfl))
        rw [z47a m4 hM.1 e3 (by omega) hP.2.1, if_pos h6, zthr hP.2.2.2.2.2.2.1 hP.2.2.2.2.2.2.2.1, zcV_no]
      · rw [if_neg h6]
        rcases z_task h hN (by omega) with ⟨μ', ν', p', L', st', mb', w1, w2, w3, w4, w5⟩ | hf
        · rw [w1, w2, zcV_ok, zcI_ok, if_neg (show ¬ (1 : Int32) = 0 by decide), show T - f + 1 = T + 1 - f by omega]
          rcases ih μ' ν' p' (T + 1) L' st' mb' g F (by omega) w3 (by omega) (by omega) with ⟨μ2, ν2, p2, T2, L2, st2, mb2, v1, v2, v3, v4, v5⟩ | hf
          · exact Or.inl ⟨μ2, ν2, p2, T2, L2, st2, mb2, v1, v2, v3, by omega, zW_t w5 v5⟩
          · exact Or.inr (zFx_w w5 hf)
        · exact Or.inr (zFx_cV (zFx_b hf))
/-- its switches -/
theorem z_switches {T Sl per st mb : Nat} : ∀ (r : Nat) (μ ν : xe_Mem) (p Sw L g F : Nat), N - p ≤ r → zIM N P S m f k0 s0 μ ν p T Sw Sl L st mb per → 4000 ≤ g + p → 4000 ≤ F + p →
    (∃ μ' ν' p' Sw' L', zD44_45 g (nI (Sw - k0)) μ = zD44_56 μ' ∧ zD151_99 F (nI m) (nI k0) ν = (zq_cI (zD141 10 ν') fun x56 m54 => if x56 = 0 then zD151_128 m54 else zq_cI (zD168 (nI m) m54) fun x62 m60 => if x62 = 0 then some (.inl (some (.int 0)), m60) else zD151_128 m60) ∧ zIM N P S m f k0 s0 μ' ν' p' T Sw' Sl L' st mb per ∧ p ≤ p' ∧ zW μ ν μ' ν') ∨ zFx N μ ν (zD44_45 g (nI (Sw - k0)) μ) (zD151_99 F (nI m) (nI k0) ν) := by
  intro r
  induction r with
  | zero =>
    intro μ ν p Sw L g F hr h
    have := h.1.2.2.2.1
    omega
  | succ r ih =>
    intro μ ν p Sw L g F hr h hg hF
    obtain ⟨hP, hK, hNn, hC, hM, ⟨m4, f6, k4, s120⟩, hO, hD⟩ := id h
    obtain ⟨⟨b1, b2, b3, b4, b5, b6, b7, b8⟩, ⟨e1, e2, e3, e4, e5, e6⟩, hr18, hts, het, hsr⟩ := id hD
    have hN3 := hP.1.2.1
    have hpN := hP.2.2.2.1
    have c7 := hC.2.2.2.2.2.2.1
    obtain ⟨g, rfl⟩ : ∃ k, g = k + 1 := ⟨g - 1, by omega⟩
    obtain ⟨F, rfl⟩ : ∃ k, F = k + 1 := ⟨F - 1, by omega⟩
    obtain ⟨b, y1, y2, y3⟩ := zt_isw hP (K := 8) (by decide)
    have hA : zD44_45 (g + 1) (nI (Sw - k0)) μ = if b = false then zD44_56 μ else zq_cV (zD63 μ) fun m27 => zD44_45 g (nI (Sw - k0 + 1)) m27 := by
      show zD44_45_b (zD44_45 g) (nI (Sw - k0)) μ = _
      unfold zD44_45_b
      rw [if_neg (show ¬ (4 : Int32) < nI (Sw - k0) from nI_nlt (a := 4) (by omega) (by decide)), show zD35 1000009 μ = _ from y1, zcI_ok, nI_1]
      cases b
      · rw [if_pos (show zb01 false = 0 by decide), if_pos rfl]
      · rw [if_neg (show ¬ zb01 true = 0 by decide), if_neg (show ¬ true = false by decide)]
    have hB : zD151_99 (F + 1) (nI m) (nI k0) ν = if b = false then (zq_cI (zD141 10 ν) fun x56 m54 => if x56 = 0 then zD151_128 m54 else zq_cI (zD168 (nI m) m54) fun x62 m60 => if x62 = 0 then some (.inl (some (.int 0)), m60) else zD151_128 m60) else if Sw - k0 = 4 then zint 0 (xe_setI ν 203 11 1) else zq_cI (zD167 (nI m) ν) fun x68 m66 => if x68 = 0 then some (.inl (some (.int 0)), m66) else zD151_99 F (nI m) (nI k0) m66 := by
      show zD151_99_b (zD151_99 F) (nI m) (nI k0) ν = _
      unfold zD151_99_b
      rw [show zD141 8 ν = _ from y2, zcI_ok, c7, zn_sub b5]
      cases b
      · rw [if_pos (show zb01 false = 0 by decide), if_pos rfl]
      · rw [if_neg (show ¬ zb01 true = 0 by decide), if_neg (show ¬ true = false by decide)]
        by_cases h6 : Sw - k0 = 4
        · rw [if_pos (show nI (Sw - k0) = 4 by rw [h6]; rfl), if_pos h6, z150, zcI_ok, zz_0]
        · rw [if_neg (show ¬ nI (Sw - k0) = 4 from fun w => h6 (by rw [show (4 : Int32) = nI 4 from rfl, zi_eq (by omega) (by omega)] at w; exact w)), if_neg h6]
    rw [hA, hB]
    cases b
    · rw [if_pos rfl, if_pos rfl]
      exact Or.inl ⟨μ, ν, p, Sw, L, rfl, rfl, h, Nat.le_refl _, zW_r⟩
    · rw [if_neg (show ¬ true = false by decide), if_neg (show ¬ true = false by decide)]
      obtain ⟨hN, -⟩ := y3 rfl
      by_cases h6 : Sw - k0 = 4
      · rw [if_pos h6]
        refine Or.inr (zFx_cV (zPo_no hP ?_ rfl))
        rw [z63a hK.1 m4 hM.1 e4 (by omega) hP.2.1, if_pos h6, zthr hP.2.2.2.2.2.2.1 hP.2.2.2.2.2.2.2.1, zcV_no]
      · rw [if_neg h6]
        rcases z_switch h hN (by omega) with ⟨μ', ν', p', L', w1, w2, w3, w4, w5⟩ | hf
        · rw [w1, w2, zcV_ok, zcI_ok, if_neg (show ¬ (1 : Int32) = 0 by decide), show Sw - k0 + 1 = Sw + 1 - k0 by omega]
          rcases ih μ' ν' p' (Sw + 1) L' g F (by omega) w3 (by omega) (by omega) with ⟨μ2, ν2, p2, Sw2, L2, v1, v2, v3, v4, v5⟩ | hf
          · exact Or.inl ⟨μ2, ν2, p2, Sw2, L2, v1, v2, v3, by omega, zW_t w5 v5⟩
          · exact Or.inr (zFx_w w5 hf)
        · exact Or.inr (zFx_cV (zFx_b hf))
end
section
variable {N P S M T Sw Sl L st p m f k0 s0 mb per : Nat} {μ ν : xe_Mem}
theorem zBM_1 (h : zIM N P S m f k0 s0 μ ν p T Sw Sl L st mb per) : zBM N P S (m + 1) μ ν p T Sw Sl L st := by
  obtain ⟨hP, hK, hNn, hC, hM, ⟨m4, f6, k4, s120⟩, hO, hD⟩ := id h
  obtain ⟨⟨b1, b2, b3, b4, b5, b6, b7, b8⟩, -, -, hts, -, -⟩ := id hD
  refine ⟨hP, hK, hNn, hC, ⟨by omega, by omega, by omega, by omega⟩, fun t ht => ?_, zOm_1 hO hD⟩
  by_cases w : t < f
  · obtain ⟨i, i1, i2⟩ := hM.2.2.2.1 t w
    exact ⟨i, by omega, i2⟩
  · obtain ⟨_, _, _, _, _, _, _, _, _, _, -, -, hh, -⟩ := hts t (by omega) ht
    exact ⟨m, by omega, hh.1⟩
/-- a mode is read by both, or refused by both -/
def zMO (N P S M : Nat) (μ ν : xe_Mem) (p : Nat) (A B : zO) : Prop := (∃ μ' ν' p' T' Sw' Sl' L' st', A = some (.inl none, μ') ∧ B = zint 1 ν' ∧ zBM N P S (M + 1) μ' ν' p' T' Sw' Sl' L' st' ∧ p < p' ∧ zW μ ν μ' ν') ∨ zFx N μ ν A B
theorem z_mode (h : zBM N P S M μ ν p T Sw Sl L st) : zMO N P S M μ ν p (zD44 μ) (zD151 ν) := by
  have hzf : 4000 ≤ zfu := by decide
  rcases z_mhead h with ⟨μ1, ν1, p1, per, a1, a2, a3, a4, a5⟩ | hf
  · rw [a1, a2]
    have z0 : zD44_32 zfu 0 μ1 = zD44_32 zfu (nI (T - T)) μ1 := by rw [Nat.sub_self]; rfl
    rw [z0]
    rcases z_tasks N μ1 ν1 p1 T L st 0 zfu zfu (by omega) a3 (by omega) (by omega) with ⟨μ2, ν2, p2, T2, L2, st2, mb2, v1, v2, v3, v4, v5⟩ | hf
    · rw [v1, v2]
      unfold zD44_43
      have z1 : zD44_45 zfu 0 μ2 = zD44_45 zfu (nI (Sw - Sw)) μ2 := by rw [Nat.sub_self]; rfl
      rw [z1]
      rcases z_switches N μ2 ν2 p2 Sw L2 zfu zfu (by omega) v3 (by omega) (by omega) with ⟨μ3, ν3, p3, Sw3, L3, w1, w2, w3, w4, w5⟩ | hf
      · rw [w1, w2]
        have hW3 : zW μ ν μ3 ν3 := zW_t a5 (zW_t v5 w5)
        unfold zD44_56
        obtain ⟨b, y1, y2, y3⟩ := zt_isw w3.1 (K := 10) (by decide)
        rw [show zD35 1000011 μ3 = _ from y1, zcI_ok, show zD141 10 ν3 = _ from y2, zcI_ok]
        -- the closing brace
        have hend : ∀ (μ4 ν4 : xe_Mem) (p4 Sl4 : Nat), zIM N P S M T Sw Sl μ4 ν4 p4 T2 Sw3 Sl4 L3 st2 mb2 per → p ≤ p4 → zW μ ν μ4 ν4 → zMO N P S M μ ν p (zD44_62 μ4) (zD151_128 ν4) := fun μ4 ν4 p4 Sl4 h4 hp4 hW4 => by
          unfold zD44_62 zD151_128
          rcases zt_sign h4.1 (K := 12) (by decide) (by decide) with ⟨hN4, x1, x2⟩ | hf
          · rw [show zD41 1000013 μ4 = _ from x1, zcV_ok, show zD146 125 ν4 = _ from x2, zcI_ok, zz_1]
            exact Or.inl ⟨_, _, p4 + 1, T2, Sw3, Sl4, L3, st2, rfl, rfl, zBM_1 (zIM_mv h4 hN4), by omega, zW_t hW4 zW_mv⟩
          · exact Or.inr (zFx_w hW4 (zFx_cV (zFx_z hf)))
        cases b
        · rw [if_pos (show zb01 false = 0 by decide), if_pos (show zb01 false = 0 by decide)]
          exact hend μ3 ν3 p3 Sl w3 (by omega) hW3
        · rw [if_neg (show ¬ zb01 true = 0 by decide), if_neg (show ¬ zb01 true = 0 by decide)]
          obtain ⟨hN, -⟩ := y3 rfl
          have h4 := zIM_mv w3 hN
          have k1 : zD65 μ3 = zD65_10 zfu (nI 0) (nI 0) (zmv μ3 p3) := by
            unfold zD65
            simp only [zq_m]
            rw [w3.1.2.1, nI_1]
            rfl
          have k2 : zD168 (nI M) ν3 = zD168_8 zfu (nI M) (nL 0) (zrmv ν3 p3) := by
            unfold zD168
            simp only [zq_m]
            rw [w3.1.2.2.1, nI_1]
            rfl
          rw [k1, k2]
          have hb8 := w3.2.2.2.2.2.2.2.1
          rcases z_slots N (zmv μ3 p3) (zrmv ν3 p3) (p3 + 1) Sl 0 0 zfu zfu (by omega) h4 ⟨by omega, by omega, fun i q1 q2 => absurd q1 (by omega)⟩ (by omega) (by omega) (by omega) with ⟨μ5, ν5, p5, Sl5, x1, x2, x3, x4, x5⟩ | hf
          · rw [x1, x2, zcV_ok, zcI_ok, if_neg (show ¬ (1 : Int32) = 0 by decide)]
            exact hend μ5 ν5 p5 Sl5 x3 (by omega) (zW_t hW3 (zW_t zW_mv x5))
          · exact Or.inr (zFx_w (zW_t hW3 zW_mv) (zFx_cV (zFx_b hf)))
      · exact Or.inr (zFx_w (zW_t a5 v5) hf)
    · exact Or.inr (zFx_w a5 hf)
  · exact Or.inr hf
end
