/-! reading a program whole -/
/-- the class has thrown, the reference goes to its end without good -/
def zFy (N : Nat) (μ ν : xe_Mem) (A B : zO) : Prop := ∃ B0, zFx N μ ν A B0 ∧ ∀ ν', B0 = zint 0 ν' → B = zD133_57 0 ν'
theorem z45_0 {ν : xe_Mem} {F : Nat} : zD133_45 (F + 1) 0 ν = zD133_57 0 ν := by
  show zD133_45_b (zD133_45 F) 0 ν = _
  unfold zD133_45_b
  rw [if_pos rfl]
theorem z18_0 {ν : xe_Mem} {F : Nat} : zD133_18 (F + 1) 0 ν = zD133_57 0 ν := by
  show zD133_18_b (zD133_18 F) 0 ν = _
  unfold zD133_18_b
  rw [if_pos rfl]
  unfold zD133_32
  rw [if_pos rfl]
  unfold zD133_43 zD133_44
  exact z45_0 (F := 999999999)
section
variable {N : Nat}
theorem zFy_w {μ ν μ1 ν1 : xe_Mem} {A B : zO} (hw : zW μ ν μ1 ν1) (h : zFy N μ1 ν1 A B) : zFy N μ ν A B := by
  obtain ⟨B0, h1, h2⟩ := h
  exact ⟨B0, zFx_w hw h1, h2⟩
theorem z_decls : ∀ (r : Nat) (μ ν : xe_Mem) (p P S g F : Nat), N - p ≤ r → zBD N P S μ ν p → 4000 ≤ g + p → 4000 ≤ F + p →
    (∃ P' S' μ' ν' p', zD33_23 g (nI (P + S)) μ = zD33_38 μ' ∧ zD133_18 F 1 ν = zD133_32 1 ν' ∧ zBD N P' S' μ' ν' p' ∧ p ≤ p' ∧ zW μ ν μ' ν') ∨ zFy N μ ν (zD33_23 g (nI (P + S)) μ) (zD133_18 F 1 ν) := by
  intro r
  induction r with
  | zero =>
    intro μ ν p P S g F hr h
    have := h.1.2.2.2.1
    omega
  | succ r ih =>
    intro μ ν p P S g F hr h hg hF
    obtain ⟨hP, hK, -⟩ := id h
    have hN3 := hP.1.2.1
    have hpN := hP.2.2.2.1
    have hP12 := hK.2.1.1
    have hS4 := hK.2.1.2.1
    obtain ⟨g, rfl⟩ : ∃ k, g = k + 1 := ⟨g - 1, by omega⟩
    obtain ⟨F, rfl⟩ : ∃ k, F = k + 1 + 1 := ⟨F - 2, by omega⟩
    obtain ⟨b, y1, y2, y3⟩ := zt_isw hP (K := 0) (by decide)
    obtain ⟨b', y1', y2', y3'⟩ := zt_isw hP (K := 1) (by decide)
    have hA : zD33_23 (g + 1) (nI (P + S)) μ = if (b || b') = true then (zq_cV (zD36 μ) fun m31 => zD33_23 g (nI (P + S + 1)) m31) else zD33_38 μ := by
      show zD33_23_b (zD33_23 g) (nI (P + S)) μ = _
      unfold zD33_23_b zD33_34
      rw [if_neg (show ¬ (16 : Int32) < nI (P + S) from nI_nlt (a := 16) (by omega) (by decide)), show zD35 1000001 μ = _ from y1, zcI_ok, show zD35 1000002 μ = _ from y1', zcI_ok, nI_1]
      cases b
      · rw [if_pos (show zb01 false = 0 by decide), Bool.false_or]
        cases b'
        · rw [if_pos (show zb01 false = 0 by decide), if_neg (show ¬ false = true by decide)]
        · rw [if_neg (show ¬ zb01 true = 0 by decide), if_pos rfl]
      · rw [if_neg (show ¬ zb01 true = 0 by decide), Bool.true_or, if_pos rfl]
    have hB : zD133_18 (F + 1 + 1) 1 ν = if (b || b') = true then (zq_cI (zD142 ν) fun x59 m57 => zD133_18 (F + 1) x59 m57) else zD133_32 1 ν := by
      show zD133_18_b (zD133_18 (F + 1)) 1 ν = _
      unfold zD133_18_b zD133_28
      rw [if_neg (show ¬ (1 : Int32) = 0 by decide), show zD141 0 ν = _ from y2, zcI_ok, show zD141 1 ν = _ from y2', zcI_ok]
      cases b
      · rw [if_pos (show zb01 false = 0 by decide), Bool.false_or]
        cases b'
        · rw [if_pos (show zb01 false = 0 by decide), if_neg (show ¬ false = true by decide)]
        · rw [if_neg (show ¬ zb01 true = 0 by decide), if_pos rfl]
      · rw [if_neg (show ¬ zb01 true = 0 by decide), Bool.true_or, if_pos rfl]
    rw [hA, hB]
    by_cases hbb : (b || b') = true
    · rw [if_pos hbb, if_pos hbb]
      obtain ⟨q, pl, hN, hk, hq⟩ : ∃ q pl, p + 1 < N ∧ zTk μ ν p q pl ∧ q ≤ 1 := by
        cases b
        · cases b'
          · cases hbb
          · obtain ⟨w1, pl, w2⟩ := y3' rfl
            exact ⟨1, pl, w1, w2, by decide⟩
        · obtain ⟨w1, pl, w2⟩ := y3 rfl
          exact ⟨0, pl, w1, w2, by decide⟩
      rcases z_decl h hN hk hq with ⟨P', S', μ', ν', p', w1, w2, w3, w4, w5, w6⟩ | hf
      · rw [w1, w2, zcV_ok, zcI_ok, ← w4]
        rcases ih μ' ν' p' P' S' g (F + 1) (by omega) w3 (by omega) (by omega) with ⟨P2, S2, μ2, ν2, p2, v1, v2, v3, v4, v5⟩ | hf
        · exact Or.inl ⟨P2, S2, μ2, ν2, p2, v1, v2, v3, by omega, zW_t w6 v5⟩
        · exact Or.inr (zFy_w w6 hf)
      · refine Or.inr ⟨_, zFx_cV hf, fun ν' e => ?_⟩
        rw [e, zcI_ok]
        exact z18_0
    · rw [if_neg hbb, if_neg hbb]
      exact Or.inl ⟨P, S, μ, ν, p, rfl, rfl, h, Nat.le_refl _, zW_r⟩
theorem zkr_0 {q : Nat} (hq : q < 29) : (nI (zkr q) = 0) ↔ q = 27 := by
  rw [show (0 : Int32) = nI 0 from rfl, zi_eq (by have := zkr_lt q; omega) (by omega)]
  unfold zkr
  constructor
  · intro e
    split at e
    · omega
    · split at e
      · omega
      · split at e
        · omega
        · split at e
          · omega
          · split at e
            · assumption
            · omega
  · intro e
    subst e
    rfl
/-- a mode whose word isn't there is refused -/
theorem z151_n {μ ν : xe_Mem} {p q pl : Nat} (hP : zPo N μ ν p) (hk : zTk μ ν p q pl) (h4 : p < 3001) (h2 : ¬ q = 2) : zD151 ν = zint 0 (xe_setI ν 203 11 1) := by
  unfold zD151
  rw [show zD141 2 ν = _ from z141 hP.2.2.1 h4 hk (K := 2) (by decide), zcI_ok, decide_eq_false h2, if_pos (show zb01 false = 0 by decide)]
  unfold zD151_11 zD151_12
  rw [z143f, zcI_ok, if_pos rfl]
/-- the modes behind the first -/
theorem z_modes {P S : Nat} : ∀ (r : Nat) (μ ν : xe_Mem) (p M T Sw Sl L st g F : Nat), N - p ≤ r → zBM N P S M μ ν p T Sw Sl L st → 1 ≤ M → 4000 ≤ g + p → 4000 ≤ F + p →
    (∃ μ' ν' p' M' T' Sw' Sl' L' st', zD33_40 g (nI M) μ = zq_cV (zD66 μ') (fun m18 => some (.inl none, m18)) ∧ zD133_45 F 1 ν = zD133_57 1 ν' ∧ zBM N P S M' μ' ν' p' T' Sw' Sl' L' st' ∧ 1 ≤ M' ∧ p ≤ p' ∧ zW μ ν μ' ν') ∨ zFy N μ ν (zD33_40 g (nI M) μ) (zD133_45 F 1 ν) := by
  intro r
  induction r with
  | zero =>
    intro μ ν p M T Sw Sl L st g F hr h
    have := h.1.2.2.2.1
    omega
  | succ r ih =>
    intro μ ν p M T Sw Sl L st g F hr h hM1 hg hF
    obtain ⟨hP, hK, hNn, hC, ⟨m4, f6, k4, s120⟩, hlow, hO⟩ := id h
    obtain ⟨hx, e1, f1, b1, b2, b3, b4, b5, b6⟩ := id hP
    have hN3 := hx.2.1
    obtain ⟨q, pl, t1, t2, t3, t4⟩ := zPo_tok hP
    obtain ⟨g, rfl⟩ : ∃ k, g = k + 1 := ⟨g - 1, by omega⟩
    obtain ⟨F, rfl⟩ : ∃ k, F = k + 1 + 1 := ⟨F - 2, by omega⟩
    have hA : zD33_40 (g + 1) (nI M) μ = if q = 2 then (zq_cV (zD44 μ) fun m20 => zD33_40 g (nI (M + 1)) m20) else if q = 27 then zq_cV (zD66 μ) (fun m18 => some (.inl none, m18)) else zq_cV (zq_thr 12 μ) (fun m16 => zq_cV (zD66 m16) (fun m18 => some (.inl none, m18))) := by
      show zD33_40_b (zD33_40 g) (nI M) μ = _
      unfold zD33_40_b zD33_49
      rw [if_neg (show ¬ (4 : Int32) < nI M from nI_nlt (a := 4) (by omega) (by decide)), if_neg (show ¬ nI M = 0 from nI_ne0 (by omega) (by omega)), show zD35 1000003 μ = _ from z35 e1 t4 t3.1 t1 (K := 2) (by decide), zcI_ok, nI_1]
      by_cases e : q = 2
      · rw [decide_eq_true e, if_neg (show ¬ zb01 true = 0 by decide), if_pos e]
      · rw [decide_eq_false e, if_pos (show zb01 false = 0 by decide), if_neg e]
        unfold zD33_53 zD33_60
        rw [show zD35 1000028 μ = _ from z35 e1 t4 t3.1 t1 (K := 27) (by decide), zcI_ok]
        by_cases e27 : q = 27
        · rw [decide_eq_true e27, if_neg (show ¬ zb01 true = 0 by decide), if_pos e27, z37_0, zcV_ok]
        · rw [decide_eq_false e27, if_pos (show zb01 false = 0 by decide), if_neg e27, z37_1]
    have hB : zD133_45 (F + 1 + 1) 1 ν = if q = 27 then zD133_57 1 ν else (zq_cI (zD151 ν) fun x44 m42 => zD133_45 (F + 1) x44 m42) := by
      show zD133_45_b (zD133_45 (F + 1)) 1 ν = _
      unfold zD133_45_b
      rw [if_neg (show ¬ (1 : Int32) = 0 by decide), f1, zx_nI (show p < 3002 by omega) (by decide), zRk_k t3.2.2.2.2]
      by_cases e27 : q = 27
      · rw [if_pos ((zkr_0 t1).mpr e27), if_pos e27]
      · rw [if_neg (fun w => e27 ((zkr_0 t1).mp w)), if_neg e27]
    rw [hA, hB]
    by_cases e : q = 2
    · rw [if_pos e, if_neg (show ¬ q = 27 by omega)]
      rcases z_mode h with ⟨μ', ν', p', T', Sw', Sl', L', st', w1, w2, w3, w4, w5⟩ | hf
      · rw [w1, w2, zcV_ok, zcI_ok]
        rcases ih μ' ν' p' (M + 1) T' Sw' Sl' L' st' g (F + 1) (by omega) w3 (by omega) (by omega) (by omega) with ⟨μ2, ν2, p2, M2, T2, Sw2, Sl2, L2, st2, v1, v2, v3, v4, v5, v6⟩ | hf
        · exact Or.inl ⟨μ2, ν2, p2, M2, T2, Sw2, Sl2, L2, st2, v1, v2, v3, v4, by omega, zW_t w5 v6⟩
        · exact Or.inr (zFy_w w5 hf)
      · refine Or.inr ⟨_, zFx_cV hf, fun ν' e => ?_⟩
        rw [e, zcI_ok]
        exact z45_0
    · rw [if_neg e]
      by_cases e27 : q = 27
      · rw [if_pos e27, if_pos e27]
        exact Or.inl ⟨μ, ν, p, M, T, Sw, Sl, L, st, rfl, rfl, h, hM1, Nat.le_refl _, zW_r⟩
      · rw [if_neg e27, if_neg e27, z151_n hP t3 t4 e, zcI_ok]
        refine Or.inr ⟨_, zFx_cV (zPo_no hP rfl rfl), fun ν' e => ?_⟩
        injection e with e
        injection e with _ e
        rw [← e]
        exact z45_0
/-- the modes from the first -/
theorem z_modes1 {P S : Nat} {μ ν : xe_Mem} {p : Nat} (h : zBM N P S 0 μ ν p 0 0 0 0 0) :
    (∃ μ' ν' p' M' T' Sw' Sl' L' st', zD33_38 μ = zq_cV (zD66 μ') (fun m18 => some (.inl none, m18)) ∧ zD133_32 1 ν = zD133_57 1 ν' ∧ zBM N P S M' μ' ν' p' T' Sw' Sl' L' st' ∧ 1 ≤ M' ∧ p ≤ p' ∧ zW μ ν μ' ν') ∨ zFy N μ ν (zD33_38 μ) (zD133_32 1 ν) := by
  obtain ⟨hP, hK, hNn, hC, -⟩ := id h
  obtain ⟨hx, e1, f1, b1, b2, b3, b4, b5, b6⟩ := id hP
  have hN3 := hx.2.1
  obtain ⟨q, pl, t1, t2, t3, t4⟩ := zPo_tok hP
  have hz : zfu = 999999998 + 1 + 1 := rfl
  have hA : zD33_38 μ = zq_cV (zD44 μ) fun m20 => zD33_40 (999999998 + 1) (nI 1) m20 := by
    show zD33_40_b (zD33_40 (999999998 + 1)) 0 μ = _
    unfold zD33_40_b zD33_49
    rw [if_neg (show ¬ (4 : Int32) < 0 by decide), if_pos rfl]
    rfl
  have hB : zD133_32 1 ν = if q = 2 then (zq_cI (zD151 ν) fun x44 m42 => zD133_45 (999999998 + 1) x44 m42) else zD133_57 0 (xe_setI ν 203 11 1) := by
    unfold zD133_32
    rw [if_neg (show ¬ (1 : Int32) = 0 by decide), show zD141 2 ν = _ from z141 f1 t4 t3 (K := 2) (by decide), zcI_ok]
    by_cases e : q = 2
    · rw [decide_eq_true e, if_neg (show ¬ zb01 true = 0 by decide), if_pos e]
      show zD133_45_b (zD133_45 (999999998 + 1)) 1 ν = _
      unfold zD133_45_b
      rw [if_neg (show ¬ (1 : Int32) = 0 by decide), f1, zx_nI (show p < 3002 by omega) (by decide), zRk_k t3.2.2.2.2, if_neg (fun w => by have := (zkr_0 t1).mp w; omega)]
    · rw [decide_eq_false e, if_pos (show zb01 false = 0 by decide), if_neg e, z150, zcI_ok, if_pos rfl]
      exact z45_0 (F := 999999998 + 1)
  rw [hA, hB]
  by_cases e : q = 2
  · rw [if_pos e]
    rcases z_mode h with ⟨μ', ν', p', T', Sw', Sl', L', st', w1, w2, w3, w4, w5⟩ | hf
    · rw [w1, w2, zcV_ok, zcI_ok]
      rcases z_modes N μ' ν' p' (0 + 1) T' Sw' Sl' L' st' (999999998 + 1) (999999998 + 1) (by omega) w3 (by omega) (by omega) (by omega) with ⟨μ2, ν2, p2, M2, T2, Sw2, Sl2, L2, st2, v1, v2, v3, v4, v5, v6⟩ | hf
      · exact Or.inl ⟨μ2, ν2, p2, M2, T2, Sw2, Sl2, L2, st2, v1, v2, v3, v4, by omega, zW_t w5 v6⟩
      · exact Or.inr (zFy_w w5 hf)
    · refine Or.inr ⟨_, zFx_cV hf, fun ν' e => ?_⟩
      rw [e, zcI_ok]
      exact z45_0
  · rw [if_neg e]
    rcases z_mode h with ⟨μ', ν', p', T', Sw', Sl', L', st', w1, w2, w3, w4, w5⟩ | hf
    · rw [z151_n hP t3 t4 e] at w2
      injection w2 with w2
      injection w2 with w2 _
      injection w2 with w2
      injection w2 with w2
      injection w2 with w2
      exact absurd w2 (by decide)
    · rw [z151_n hP t3 t4 e] at hf
      refine Or.inr ⟨_, zFx_cV hf, fun ν' e => ?_⟩
      injection e with e
      injection e with _ e
      rw [← e]
end
