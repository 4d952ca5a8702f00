/-! checking a mode: from its begin to behind its last tick -/
section
variable {d : Nat → Nat → Nat} {f n m per T : Nat} {ns fm h : Nat → Nat} {hs : Nat → Bool} {μ ν : xe_Mem}
def zXe2 (m T a j : Nat) : Prop := (a = 259 ∧ j < T) ∨ (a = 216 ∧ j = m)
theorem z171a (h22 : xe_I ν 203 22 = nI T) (hT : T ≤ 24) (hm : m < 4) (hh : ∀ t, t < T → (xe_I ν 218 t = nI m → xe_I ν 220 t * xe_I ν 228 t = nI (h t)) ∧ (¬ xe_I ν 218 t = nI m → h t = 0)) : ∃ ν', zD171 (nI m) ν = zD171_44 zfu (nI m) (-1) (nI (zsm h T)) (nI 0) ν' ∧ zfG (zXe2 m T) zZu zZu ν ν' ∧ (∀ t, t < T → xe_I ν' 259 t = 0) ∧ xe_I ν' 216 m = nI (zsm h T) := by
  have hl : ∀ (r g i : Nat) (ν1 : xe_Mem), i + r = T → r < g → zfG (zXe2 m T) zZu zZu ν ν1 → (∀ t, t < i → xe_I ν1 259 t = 0) → ∃ ν', zD171_6 g (nI m) (-1) (nI (zsm h i)) (nI i) ν1 = zD171_44 zfu (nI m) (-1) (nI (zsm h T)) (nI 0) ν' ∧ zfG (zXe2 m T) zZu zZu ν ν' ∧ (∀ t, t < T → xe_I ν' 259 t = 0) ∧ xe_I ν' 216 m = nI (zsm h T) := by
    intro r
    induction r with
    | zero =>
      intro g i ν1 hi hg G h1
      obtain ⟨g, rfl⟩ : ∃ k, g = k + 1 := ⟨g - 1, by omega⟩
      have : i = T := by omega
      subst this
      refine ⟨xe_setI ν1 216 m (nI (zsm h i)), ?_, zfG_t G (zfG_I (Or.inr ⟨rfl, rfl⟩)), fun t ht => ?_, xu_I⟩
      · show zD171_6_b (zD171_6 g) (nI m) (-1) (nI (zsm h i)) (nI i) ν1 = _
        unfold zD171_6_b
        rw [(G 203 (by decide) 22).1 (fun w => by unfold zXe2 at w; omega), h22, if_pos (nI_le (by omega) (by omega)), zx_nI hm (by decide)]
        rfl
      · rw [xu_In (by omega)]
        exact h1 t ht
    | succ r ih =>
      intro g i ν1 hi hg G h1
      obtain ⟨g, rfl⟩ : ∃ k, g = k + 1 := ⟨g - 1, by omega⟩
      have hi24 : i < 24 := by omega
      have gk : ∀ a j, a < 265 → a ≠ 259 → a ≠ 216 → xe_I (xe_setI ν1 259 i 0) a j = xe_I ν a j := fun a j q1 q2 q3 => (xu_In (by omega)).trans ((G a q1 j).1 (fun w => by unfold zXe2 at w; omega))
      obtain ⟨q1, q2⟩ := hh i (by omega)
      have hstep : zD171_6 (g + 1) (nI m) (-1) (nI (zsm h i)) (nI i) ν1 = zD171_6 g (nI m) (-1) (nI (zsm h (i + 1))) (nI (i + 1)) (xe_setI ν1 259 i 0) := by
        show zD171_6_b (zD171_6 g) (nI m) (-1) (nI (zsm h i)) (nI i) ν1 = _
        unfold zD171_6_b zD171_33
        rw [(G 203 (by decide) 22).1 (fun w => by unfold zXe2 at w; omega), h22, if_neg (nI_ge (by omega) (by omega)), zx_nI hi24 (by decide)]
        simp only [zq_m, zq_vI]
        rw [zx_nI hi24 (by decide), gk 218 i (by decide) (by decide) (by decide), nI_1]
        show _ = zD171_6 g (nI m) (-1) (nI (zsm h i + h i)) (nI (i + 1)) (xe_setI ν1 259 i 0)
        by_cases e : xe_I ν 218 i = nI m
        · rw [if_pos e, zx_nI hi24 (by decide), zx_nI hi24 (by decide), gk 220 i (by decide) (by decide) (by decide), gk 228 i (by decide) (by decide) (by decide), q1 e, nI_add]
        · rw [if_neg e, q2 e, show (nI (zsm h i) + 0 : Int32) = nI (zsm h i + 0) from nI_add _ 0]
      rw [hstep]
      refine ih g (i + 1) _ (by omega) (by omega) (zfG_t G (zfG_I (Or.inl ⟨rfl, by omega⟩))) (fun t ht => ?_)
      by_cases e : t = i
      · rw [e]
        exact xu_I
      · rw [xu_In (by omega)]
        exact h1 t (by omega)
  exact hl T zfu 0 ν (by omega) (zfu_lt (by omega)) zfG_r (fun t ht => absurd ht (by omega))
def zX8c (m a j : Nat) : Prop := a = 259 ∨ a = 230 ∨ (a = 216 ∧ j = m)
theorem zX8c_b : ∀ a j, zX8c m a j → zX8b m a j := fun a j h => by
  unfold zX8c at h
  unfold zX8b
  omega
/-- the check, up to the spare -/
theorem z_check (hst0 : zSt m f n per T d ns fm μ ν) (hF : zFi d f n per ns fm) (hsl : ∀ t, f ≤ t → t < f + n → xe_I μ (61 + 5 * t) 13 = nI (d 0 t)) (hhs : ∀ j, j < per → hs j = decide (¬ xe_I μ (20 + 11 * m) j = 0)) (hh : ∀ t, t < T → (xe_I ν 218 t = nI m → xe_I ν 220 t * xe_I ν 228 t = nI (h t)) ∧ (¬ xe_I ν 218 t = nI m → h t = 0)) :
    ∃ μ' ν' o', zD71 (17 + 11 * m) μ = some (.inl none, μ') ∧ zD171 (nI m) ν = zD171_180 zfu (nI m) (zoi o') (nI (zsm h T)) (nI 0) ν' ∧ zEd m f n per T d ns fm o' μ' ν' ∧ zSs m f n d ns fm hs per μ' ∧ zfG (zX7 m f n) zZu (zZ7 m) μ μ' ∧ zfG (zX8c m) zZu zZu ν ν' ∧ xe_I ν' 216 m = nI (zsm h T) := by
  obtain ⟨hR, ⟨b1, b2, b3, b4, b5, b6⟩, ⟨c1, c2, c3⟩, hst, ⟨r1, r2, r3⟩⟩ := id hst0
  obtain ⟨ν1, a1, a2, a3, a4⟩ := z171a (h := h) r1 b4 b1 hh
  -- the class's begin
  obtain ⟨μ2, e1, e2, e3, e4⟩ := z72 (μ := xe_setI μ (17 + 11 * m) 12 0) (zRt_sI hR) b1
  have g1 : zfG (zX7 m f n) zZu (zZ7 m) μ μ2 := zfG_t (zfG_I (Or.inl ⟨rfl, rfl⟩)) (zfG_w e2 (fun a j q => Or.inr (Or.inr (Or.inl q.1))) (fun a j q => q) (fun a j q => q))
  have g2 : zfG (zX8b m) zZu zZu ν ν1 := zfG_w a2 (fun a j q => by unfold zXe2 at q; unfold zX8b; omega) (fun a j q => q) (fun a j q => q)
  have hs2 := zSt_k2 hst0 g1 g2
  have g1i : ∀ a j, ¬ (a = 17 + 11 * m ∧ j = 12) → a ≠ 23 + 11 * m → a < 265 → xe_I μ2 a j = xe_I μ a j := fun a j q1 q2 q3 => ((e2 a q3 j).1 (fun w => q2 w.1)).trans (xu_In q1)
  obtain ⟨μ3, u1, u2, u3⟩ := z74 (k := 0) hs2 (by omega)
  have g3 : zfG (zX7 m f n) zZu (zZ7 m) μ2 μ3 := zfG_w u2 zX7_4 (fun a j q => q) (fun a j q => absurd rfl q.2)
  obtain ⟨ν3, w1, w2, w3⟩ := z52 (c44 := zD171_44 999999999) (v3 := nI (zsm h T)) (k := 0) (l := fun _ => 0) (o := none) hs2 (by omega) (fun t h1 h2 => ⟨a3 t (by omega), by decide, fun w => absurd w (by decide)⟩) (fun x w => by cases w)
  rw [zof_0 n (fun t _ _ => by rw [decide_eq_false (show ¬ 0 < 0 by decide), Bool.and_false])] at w1
  have g4 : zfG (zX8 m) zZu zZu ν1 ν3 := zfG_w w2 zX8_d (fun a j q => q) (fun a j q => q)
  have hs3 := zSt_k hs2 g3 g4
  have hin : ∀ t, f ≤ t → t < f + n → 1 ≤ d 0 t ∧ d 0 t ≤ 120 ∧ d 1 t ≤ 200 ∧ d 2 t < 4 := fun t h1 h2 => by
    obtain ⟨⟨q1, q2, q3, q4, q5⟩, -⟩ := hst t h1 h2
    exact ⟨q1, by omega, q4, q5⟩
  have hTi : zTi m f n per T d ns fm 0 none μ3 ν3 := by
    refine ⟨⟨hs3, fun t h1 h2 => ?_⟩, ?_, (fun x w => by cases w), fun _ t h1 h2 r hr => absurd hr (by rw [Nat.zero_div]; omega)⟩
    · obtain ⟨q1, q2, q3, q4⟩ := hin t h1 h2
      obtain ⟨z1, z2, z3, z4⟩ := (u3 t h1 h2).1 (Nat.zero_mod _)
      rw [zAv_0, zLf_0, Nat.zero_div]
      have hcur : xe_I ν3 230 (120 * t + 0) = nI 0 := by
        rw [(w3 t h1 h2).2 0 (by decide), if_pos ⟨Nat.zero_mod _, by omega, (Nat.zero_div _).symm⟩]
      refine ⟨⟨z1, ?_, ?_⟩, fun w => ⟨0, hcur, by rw [Nat.zero_mul]; exact Nat.le_refl _, by omega, fun j v1 v2 => ?_⟩, fun r hr => absurd hr (by omega), ?_⟩
      · rw [z2]
        unfold zEn
        rw [Nat.zero_div]
        congr 1
        omega
      · rw [(w3 t h1 h2).1, if_pos ⟨Nat.zero_mod _, by omega⟩]
      · rw [show j = 0 by omega, zLf_0]
        exact ⟨fun _ => Nat.le_refl _, fun _ => w⟩
      · rw [(u2 _ (by omega) 13).1 (fun w => by obtain ⟨t', v1, v2, v3, v4⟩ := w; omega), g1i _ 13 (by omega) (by omega) (by omega), hsl t h1 h2]
        by_cases hw : d 1 t = 0
        · rw [if_pos hw]
          show _ = zmin2 (zvl d ν3 t 0) (nI (d 0 t))
          have : zvl d ν3 t 0 = nI (d 0 t) := by
            unfold zvl
            rw [hcur, if_pos (nI_pos' (by omega)), zn_sub (by omega)]
            congr 1
            omega
          rw [this, zmin2_r (Int32.le_refl _)]
        · rw [if_neg hw]
          rfl
    · rw [(u2 _ (by omega) 12).1 (fun w => by obtain ⟨t', v1, v2, v3, v4⟩ := w; omega), (e2 _ (by omega) 12).1 (fun w => by omega)]
      exact xu_I
  have hSs : zSs m f n d ns fm hs 0 μ3 := by
    refine ⟨fun j hj => ?_, fun j t q1 q2 => absurd q1 (by omega), fun i hi w => ?_⟩
    · rw [(u2 _ (by omega) j).2.2 (fun w => w.2 rfl), e4 j hj, if_neg (by omega)]
    · rw [(u2 _ (by omega) i).1 (fun w => by obtain ⟨t', v1, v2, v3, v4⟩ := w; omega)]
      exact e3 i hi
  obtain ⟨μ', ν', o', x1, x2, x3, x4, x5, x6⟩ := z_ticks (hs := hs) (v3 := nI (zsm h T)) hF (per - 1) 0 999999999 999999999 none μ3 ν3 (by omega) (by omega) (by omega) hTi hSs (fun t h1 h2 => ((u3 t h1 h2).1 (Nat.zero_mod _)).2.2.1) (fun j hj => by
    rw [(u2 _ (by omega) j).1 (fun w => by obtain ⟨t', v1, v2, v3, v4⟩ := w; omega), g1i _ j (by omega) (by omega) (by omega)]
    exact hhs j hj)
  refine ⟨μ', ν', o', ?_, ?_, x3, x4, zfG_t g1 (zfG_t g3 x5), zfG_t (zfG_w a2 (fun a j q => by unfold zXe2 at q; unfold zX8c; omega) (fun _ _ q => q) (fun _ _ q => q)) (zfG_w (zfG_t g4 x6) (fun a j q => by unfold zX8 at q; unfold zX8c; omega) (fun _ _ q => q) (fun _ _ q => q)), ?_⟩
  · unfold zD71
    rw [zo_in (zS_mode m b1) (by omega)]
    simp only [zq_m]
    rw [e1, zcV_ok]
    show zD71_7 (999999999 + 1) (17 + 11 * m) (nI 0) μ2 = _
    rw [z71b hs2 (by omega) u1]
    exact x1
  · rw [a1]
    show zD171_44 (999999999 + 1) (nI m) (zoi none) (nI (zsm h T)) (nI 0) ν1 = _
    rw [z44b hs2 (by omega), w1]
    exact x2
  · rw [(x6 216 (by decide) m).1 (by unfold zX8; omega), (g4 216 (by decide) m).1 (by unfold zX8; omega)]
    exact a4
end
