/-! running: spans begin in both -/
section
variable {P S M T Sw Sl m f n per k0 nk s s' t k : Nat} {d : Nat → Nat → Nat} {ns fm : Nat → Nat} {μ ν μ' ν' : xe_Mem}
theorem z187t {G i : Nat} (h22 : xe_I ν 203 22 = nI T) (hi : i < T) (hT : T ≤ 24) (hn : ¬ xe_I ν 218 i = xe_I ν 203 71) : zD187_45 (G + 1) (nI i) ν = zD187_45 G (nI (i + 1)) ν := by
  show zD187_45_b (zD187_45 G) (nI i) ν = _
  unfold zD187_45_b zD187_67
  rw [h22, if_neg (nI_ge hi (by omega)), zx_nI (show i < 24 by omega) (by decide), if_neg hn, nI_1]
theorem zEn_b (h1 : 1 ≤ d 0 t) (h : k % d 0 t = 0) : zEn d k t = k + d 0 t := by
  have e := Nat.div_add_mod k (d 0 t)
  rw [h, Nat.add_zero, Nat.mul_comm] at e
  unfold zEn
  rw [Nat.add_mul, Nat.one_mul, e]
theorem z_begins (hV : zVw P S M T Sw Sl m f n per k0 nk s s' d ns fm μ ν) (hG : zRg P T m k μ ν) (hk : k < per) (hr : ∀ t, f ≤ t → t < f + n → ¬ k % d 0 t = 0 → zRx P (zEn d k t) t μ ν) : ∃ μ' ν', zD115 (17 + 11 * m) μ = some (.inl none, μ') ∧ zD187_45 zfu (nI 0) ν = zD187_71 zfu 0 ν' ∧ zVw P S M T Sw Sl m f n per k0 nk s s' d ns fm μ' ν' ∧ zRg P T m k μ' ν' ∧ (∀ t, f ≤ t → t < f + n → zRx P (zEn d k t) t μ' ν') ∧ zfG zXst zZu zZu μ μ' ∧ zfG zYst zZu zZu ν ν' := by
  have hz : zfu = 1000000000 := rfl
  have hl : ∀ (r i g G : Nat) (μ ν : xe_Mem), i + r = n → r < g → 30 < G → zVw P S M T Sw Sl m f n per k0 nk s s' d ns fm μ ν → zRg P T m k μ ν → (∀ t, f ≤ t → t < f + n → (¬ k % d 0 t = 0 ∨ t < f + i) → zRx P (zEn d k t) t μ ν) → ∃ μ' ν', zD115_2 g (17 + 11 * m) (nI i) μ = some (.inl none, μ') ∧ zD187_45 (G + r) (nI (f + i)) ν = zD187_71 zfu 0 ν' ∧ zVw P S M T Sw Sl m f n per k0 nk s s' d ns fm μ' ν' ∧ zRg P T m k μ' ν' ∧ (∀ t, f ≤ t → t < f + n → zRx P (zEn d k t) t μ' ν') ∧ zfG zXst zZu zZu μ μ' ∧ zfG zYst zZu zZu ν ν' := by
    intro r
    induction r with
    | zero =>
      intro i g G μ ν hi hg hG' hV hG hr
      obtain ⟨g, rfl⟩ : ∃ k, g = k + 1 := ⟨g - 1, by omega⟩
      have : i = n := by omega
      subst this
      obtain ⟨hR, ⟨b1, b2, b3, b4, b5, b6⟩, ⟨c1, c2, c3⟩, ht, ⟨r1, r2, r3⟩⟩ := id hV.1
      obtain ⟨-, ⟨e1, e2, e3, e4⟩, -⟩ := id hG
      refine ⟨μ, ν, ?_, ?_, hV, hG, fun t w1 w2 => hr t w1 w2 (Or.inr w2), zfG_r, zfG_r⟩
      · show zD115_2_b (zD115_2 g) _ (nI i) μ = _
        unfold zD115_2_b
        rw [zo_in (zS_mode m b1) (by omega), c1, if_pos (nI_le (Nat.le_refl _) (by omega))]
      · have e : zD187_45 ((G - 1 - (T - (f + i)) + 1) + (T - (f + i))) (nI (f + i)) ν = zD187_45 (G - 1 - (T - (f + i)) + 1) (nI (f + i + (T - (f + i)))) ν := z_skip (D := fun G i => zD187_45 G (nI i) ν) (T - (f + i)) (f + i) _ (fun G j w1 w2 => z187t r1 (by omega) b4 (by rw [e2]; exact r3 j (by omega) (by omega)))
        rw [show G + 0 = (G - 1 - (T - (f + i)) + 1) + (T - (f + i)) by omega, e, show f + i + (T - (f + i)) = T by omega]
        show zD187_45_b (zD187_45 _) (nI T) ν = _
        unfold zD187_45_b
        rw [r1, if_pos (nI_le (Nat.le_refl _) (by omega))]
    | succ r ih =>
      intro i g G μ ν hi hg hG' hV hG hr
      obtain ⟨g, rfl⟩ : ∃ k, g = k + 1 := ⟨g - 1, by omega⟩
      obtain ⟨hR, ⟨b1, b2, b3, b4, b5, b6⟩, ⟨c1, c2, c3⟩, ht, ⟨r1, r2, r3⟩⟩ := id hV.1
      obtain ⟨-, ⟨e1, e2, e3, e4⟩, -⟩ := id hG
      have hP : P ≤ 12 := hV.2.2.2.2.1
      have ht24 : f + i < 24 := by omega
      obtain ⟨⟨q1, q2, q3, q4, q5⟩, ⟨u0, u1, u2, -⟩, ⟨v1, v2, v3, -⟩⟩ := ht (f + i) (by omega) (by omega)
      have hmod : k % d 0 (f + i) ≤ k := Nat.mod_le _ _
      have hc : zD115_2 (g + 1) (17 + 11 * m) (nI i) μ = if k % d 0 (f + i) = 0 then zq_cV (zD116 (61 + 5 * (f + i)) μ) fun m20 => zD115_2 g (17 + 11 * m) (nI (i + 1)) m20 else zD115_2 g (17 + 11 * m) (nI (i + 1)) μ := by
        show zD115_2_b (zD115_2 g) _ (nI i) μ = _
        unfold zD115_2_b zD115_21
        rw [zo_in (zS_mode m b1) (by omega), c1, if_neg (nI_ge (by omega) (by omega)), hR _ _ _ (zR_m m b1).1, zs_some, za_in (zS_18 m b1).1 (by omega), zx_nI (show i < 6 by omega) (by decide), c3 i (by omega), zs_some, zo_in (zS_task (f + i) ht24) (by omega), u2, e3, zd_ok (nI_ne0 q1 (by omega)), zn_mod (by omega) (by omega), nI_1]
        by_cases e : k % d 0 (f + i) = 0
        · rw [if_pos (show nI (k % d 0 (f + i)) = 0 by rw [e]; rfl), if_pos e, zs_some, za_in (zS_18 m b1).1 (by omega), zx_nI (show i < 6 by omega) (by decide), c3 i (by omega), zs_some]
        · rw [if_neg (show ¬ nI (k % d 0 (f + i)) = 0 from nI_ne0 (by omega) (by omega)), if_neg e]
      have hrr : zD187_45 (G + (r + 1)) (nI (f + i)) ν = if k % d 0 (f + i) = 0 then zq_cV (zD192 (nI (f + i)) ν) fun m20 => zD187_45 (G + r) (nI (f + i + 1)) m20 else zD187_45 (G + r) (nI (f + i + 1)) ν := by
        show zD187_45_b (zD187_45 (G + r)) (nI (f + i)) ν = _
        unfold zD187_45_b zD187_67
        rw [r1, if_neg (nI_ge (by omega) (by omega)), zx_nI ht24 (by decide), v1, e2, if_pos rfl, zx_nI ht24 (by decide), v3, e4, zd_ok (nI_ne0 q1 (by omega)), zn_mod (by omega) (by omega), nI_1]
        by_cases e : k % d 0 (f + i) = 0
        · rw [if_pos (show nI (k % d 0 (f + i)) = 0 by rw [e]; rfl), if_pos e]
        · rw [if_neg (show ¬ nI (k % d 0 (f + i)) = 0 from nI_ne0 (by omega) (by omega)), if_neg e]
      by_cases e : k % d 0 (f + i) = 0
      · rw [if_pos e] at hc hrr
        obtain ⟨μ1, ν1, a1, a2, a3, a4, a5, a6⟩ := z_begin (t := f + i) hV hG hk (by omega) (by omega)
        rw [a1, zcV_ok] at hc
        rw [a2, zcV_ok] at hrr
        have g1 := zXbg_s ht24 a5
        have g2 := zYbg_s a6
        obtain ⟨μ', ν', x1, x2, x3, x4, x5, x6, x7⟩ := ih (i + 1) g G μ1 ν1 (by omega) (by omega) hG' (zVw_s hV g1 g2) a3 (fun t w1 w2 w3 => by
          by_cases hne : t = f + i
          · subst hne
            rw [zEn_b q1 e]
            exact a4
          · refine zRx_k (hr t w1 w2 (by rcases w3 with w3 | w3; exact Or.inl w3; exact Or.inr (by omega))) (by omega) hP a5 a6 (fun a j w4 w5 w6 w7 => by unfold zXbg zXfe at w7; omega) (fun a j w4 w5 => by unfold zYbg at w5; omega))
        exact ⟨μ', ν', hc.trans x1, hrr.trans x2, x3, x4, x5, zfG_t g1 x6, zfG_t g2 x7⟩
      · rw [if_neg e] at hc hrr
        obtain ⟨μ', ν', x1, x2, x3⟩ := ih (i + 1) g G μ ν (by omega) (by omega) hG' hV hG (fun t w1 w2 w3 => hr t w1 w2 (by
          by_cases hne : t = f + i
          · subst hne
            exact Or.inl e
          · rcases w3 with w3 | w3
            · exact Or.inl w3
            · exact Or.inr (by omega)))
        exact ⟨μ', ν', hc.trans x1, hrr.trans x2, x3⟩
  obtain ⟨hR, ⟨b1, b2, b3, b4, b5, b6⟩, ⟨c1, c2, c3⟩, ht, ⟨r1, r2, r3⟩⟩ := id hV.1
  obtain ⟨-, ⟨e1, e2, e3, e4⟩, -⟩ := id hG
  obtain ⟨μ', ν', x1, x2, x3⟩ := hl n 0 zfu (zfu - f - n) μ ν (by omega) (by omega) (by omega) hV hG (fun t w1 w2 w3 => by
    rcases w3 with w3 | w3
    · exact hr t w1 w2 w3
    · omega)
  refine ⟨μ', ν', x1, ?_, x3⟩
  have e : zD187_45 ((zfu - f - n + n) + f) (nI 0) ν = zD187_45 (zfu - f - n + n) (nI (0 + f)) ν := z_skip (D := fun G i => zD187_45 G (nI i) ν) f 0 _ (fun G j w1 w2 => z187t r1 (by omega) b4 (by rw [e2]; exact r3 j (by omega) (by omega)))
  rw [Nat.zero_add] at e
  have e2 : zD187_45 zfu (nI 0) ν = zD187_45 ((zfu - f - n + n) + f) (nI 0) ν := congrArg (fun q => zD187_45 q (nI 0) ν) (by omega)
  exact e2.trans (e.trans x2)
end
