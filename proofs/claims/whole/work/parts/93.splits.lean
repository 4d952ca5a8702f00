/-! split, whole -/
def zTE (μ ν : xe_Mem) (N : Nat) : Prop := 0 < N ∧ N ≤ 3001 ∧ ∀ i, i < N → ∃ q pl, q < 29 ∧ (q ≤ 26 ↔ i + 1 < N) ∧ zTk μ ν i q pl
theorem zRk_2 {q : Nat} {kr : Int32} {w v : Int64} (h : zRk q kr w v) (hq : q ≤ 26) : (kr = 2 ↔ q = 26) := by
  unfold zRk at h
  split at h
  · obtain ⟨h1, h2⟩ := h
    rw [h1]
    exact ⟨fun e => absurd e (by decide), fun e => by omega⟩
  · split at h
    · obtain ⟨h1, h2⟩ := h
      rw [h1]
      exact ⟨fun e => absurd e (by decide), fun e => by omega⟩
    · split at h
      · obtain ⟨h1, h2⟩ := h
        rw [h1]
        exact ⟨fun e => absurd e (by decide), fun e => by omega⟩
      · split at h
        · rename_i h26
          exact ⟨fun _ => h26, fun _ => h.1⟩
        · omega
section
variable {tb : Nat → Nat} {n : Nat}
theorem zrpt_k {ν : xe_Mem} {s pl : Nat} {kr : Int32} {w : Int64} : xe_I (zrpt ν s kr pl w) 207 s = kr := by
  unfold zrpt
  rw [zr_II, if_neg (by decide), zr_IL, zr_II, if_neg (by decide), zr_II, if_pos rfl, va_up_self]
theorem zput_K {μ : xe_Mem} {s q pl : Nat} {v : Int64} : xe_R (zput μ s q pl v) 4 s = some (1000001 + q) := by
  unfold zput
  rw [zr_RI, zr_RL, zr_RI, zr_RR, if_pos rfl, va_up_self]
theorem zput_4 {μ : xe_Mem} {s q pl : Nat} {v : Int64} : xe_I (zput μ s q pl v) 3 4 = xe_I μ 3 4 := by
  unfold zput
  rw [xu_In (by omega)]
  show xe_I (xe_setI (xe_setR μ 4 s (some (1000001 + q))) 5 s (nI pl)) 3 4 = _
  rw [xu_In (by omega)]
theorem z_split : ∀ (m k s f g : Nat) (μ ν : xe_Mem), k + m = n → m < f → m + 1 < g → zTS tb n k s μ ν → ∃ μ' ν' N, zD16_10 f (nI n) (nI k) (nI s) μ = some (.inl none, μ') ∧ zD134_7 g (nI k) 1 ν = some (.inl none, ν') ∧ zTE μ' ν' N ∧ zfc μ μ' ∧ zfr ν ν' := by
  intro m
  induction m using Nat.strongRecOn with
  | ind m ih =>
    intro k s f g μ ν hm hf hg h
    obtain ⟨f, rfl⟩ : ∃ x, f = x + 1 := ⟨f - 1, by omega⟩
    obtain ⟨g, rfl⟩ : ∃ x, g = x + 2 := ⟨g - 2, by omega⟩
    obtain ⟨q, v, kr, w, k2, k3, m8, hq, hrk, h18, hm8, hm26, h134, h26⟩ := z_next h (c7 := zD134_7 (g + 1)) rfl
    obtain ⟨hn, hkn, hsk, hB, hN, hR, hW, hs, ht, hT, hE⟩ := h
    have hge := zskip_ge (fun i => zBl (tb i)) (n - k) k
    generalize hk1 : zskip (fun i => zBl (tb i)) (n - k) k = k1 at hge h18 hm8 hm26 h134 h26
    have hs8 : xe_I m8 3 3 = nI (s + 1) := by
      rcases hm8 with e | e
      · rw [e]; exact zput_s
      · rw [e, xu_In (by omega)]; exact zput_s
    have hK8 : xe_R m8 4 s = some (1000001 + q) := by
      rcases hm8 with e | e
      · rw [e]; exact zput_K
      · rw [e]; exact zput_K
    have hf8 : zfc μ m8 := by
      rcases hm8 with e | e
      · rw [e]; exact zput_f
      · rw [e]; exact zputE_f
    have hr8 : zfr ν (zrpt ν s kr k1 w) := zrpt_f
    have htk : ∀ i q' pl', i < s → zTk μ ν i q' pl' → zTk m8 (zrpt ν s kr k1 w) i q' pl' := by
      intro i q' pl' hi ht'
      rcases hm8 with e | e
      · rw [e]; exact zput_tn hi ht'
      · rw [e]; exact zTk_E (zput_tn hi ht')
    have hts : zTk m8 (zrpt ν s kr k1 w) s q k1 := by
      rcases hm8 with e | e
      · rw [e]; exact zput_tk hrk (by omega)
      · rw [e]; exact zTk_E (zput_tk hrk (by omega))
    have hc : zD16_10 (f + 1) (nI n) (nI k) (nI s) μ = if q = 27 ∨ q = 28 then some (.inl none, m8) else zD16_10 f (nI n) (nI k2) (nI (s + 1)) m8 := z16b hn (by omega) (by rw [z17 hB hn hkn, hk1]) h18 hs8 hK8 hq
    have hr : zD134_7 (g + 2) (nI k) 1 ν = zD134_7 (g + 1) (nI k3) (if q = 27 ∨ q = 28 then 0 else 1) (zrpt ν s kr k1 w) := by
      show zD134_7_b (zD134_7 (g + 1)) (nI k) 1 ν = _
      unfold zD134_7_b
      rw [if_neg (by decide), z134_11 hN hR hn (n - k) zfu k (by omega) (zfu_lt (by omega)), hk1]
      exact h134
    by_cases hstop : q = 27 ∨ q = 28
    · rw [if_pos hstop] at hc hr
      refine ⟨m8, zrpt ν s kr k1 w, s + 1, hc, ?_, ⟨by omega, by omega, fun i hi => ?_⟩, hf8, hr8⟩
      · rw [hr]
        show zD134_7_b (zD134_7 g) (nI k3) 0 _ = _
        unfold zD134_7_b
        rw [if_pos rfl]
      · by_cases his : i = s
        · subst his
          exact ⟨q, k1, hq, ⟨fun _ => by omega, fun _ => by omega⟩, hts⟩
        · obtain ⟨q', pl', a1, a2⟩ := hT i (by omega)
          exact ⟨q', pl', by omega, ⟨fun _ => by omega, fun _ => a1⟩, htk i q' pl' (by omega) a2⟩
    · rw [if_neg hstop] at hc hr
      have hq26 : q ≤ 26 := by omega
      obtain ⟨e3, h12, h2n⟩ := h26 hq26
      rw [e3] at hr
      have hz : zTS tb n k2 (s + 1) m8 (zrpt ν s kr k1 w) := by
        refine ⟨hn, h2n, by omega, ?_, ?_, ?_, ?_, hs8, zrpt_s, fun i hi => ?_, ?_⟩
        · rw [(hf8 2 (by decide) (by decide) (by decide) (by decide)).1]
          exact hB
        · rw [hr8.2.1 3 (by decide)]
          exact hN
        · rw [(hr8.1 205 (by decide) (by decide) (by decide) (by decide)).1]
          exact hR
        · rw [(hr8.1 206 (by decide) (by decide) (by decide) (by decide)).2.1]
          exact hW
        · by_cases his : i = s
          · subst his
            exact ⟨q, k1, hq26, hts⟩
          · obtain ⟨q', pl', a1, a2⟩ := hT i (by omega)
            exact ⟨q', pl', a1, htk i q' pl' (by omega) a2⟩
        · have hkr := zRk_2 hrk hq26
          have e8 := hm26 hq26
          by_cases h6 : q = 26
          · rw [if_pos h6] at e8
            refine Or.inl ⟨⟨by omega, ?_⟩, ?_⟩
            · rw [show s + 1 - 1 = s by omega, zrpt_k]
              exact hkr.mpr h6
            · rw [e8]
              exact xu_I
          · rw [if_neg h6] at e8
            refine Or.inr ⟨fun hx => h6 (hkr.mp ?_), fun x hx1 hx2 => ?_⟩
            · have := hx.2
              rw [show s + 1 - 1 = s by omega, zrpt_k] at this
              exact this
            · rw [e8, zput_4]
              rcases hE with ⟨a1, a2⟩ | ⟨a1, a2⟩
              · rw [a2, zi_eq (by omega) (by omega)]
                omega
              · exact a2 x (by omega) hx2
      obtain ⟨μ', ν', N, g1, g2, g3, g4, g5⟩ := ih (n - k2) (by omega) k2 (s + 1) f (g + 1) m8 (zrpt ν s kr k1 w) (by omega) (by omega) (by omega) hz
      exact ⟨μ', ν', N, hc.trans g1, hr.trans g2, g3, zfc_t hf8 g4, zfr_t hr8 g5⟩
end
/-- split in both, from texts that are alike -/
theorem z_tokens {tb : Nat → Nat} {n : Nat} {μ ν : xe_Mem} (hn : n ≤ 3000) (hB : zBc (xe_I μ 2) tb n) (hN : xe_I ν 203 3 = nI n) (hR : zBr (xe_I ν 205) tb n) (hW : ∀ w, w < 11 → xe_L ν 206 w = nL (zlr (zwd w).reverse)) : ∃ μ' ν' N, zD16 (nI n) μ = some (.inl none, μ') ∧ zD134 ν = some (.inl none, ν') ∧ zTE μ' ν' N ∧ zfc μ μ' ∧ zfr ν ν' := by
  have h0 : zTS tb n 0 0 (xe_setI (xe_setI μ 3 3 0) 3 4 (-1)) (xe_setI ν 203 6 0) := by
    refine ⟨hn, by omega, by omega, ?_, ?_, ?_, ?_, ?_, xu_I, fun i hi => by omega, Or.inr ⟨fun h => by omega, fun x _ hx => ?_⟩⟩
    · rw [zr_II, if_neg (by decide), zr_II, if_neg (by decide)]
      exact hB
    · rw [xu_In (by omega)]
      exact hN
    · rw [zr_II, if_neg (by decide)]
      exact hR
    · exact hW
    · rw [xu_In (by omega)]
      exact xu_I
    · rw [xu_I]
      intro e
      have h1 := congrArg Int32.toInt e
      rw [nI_toInt (by omega)] at h1
      have h2 : ((-1 : Int32)).toInt = -1 := by decide
      omega
  obtain ⟨μ', ν', N, g1, g2, g3, g4, g5⟩ := z_split n 0 0 zfu zfu _ _ (by omega) (zfu_lt hn) (Nat.lt_of_le_of_lt (show n + 1 ≤ 3001 by omega) (by decide)) h0
  refine ⟨μ', ν', N, g1, g2, g3, zfc_t (μ1 := xe_setI (xe_setI μ 3 3 0) 3 4 (-1)) (fun a a3 a4 a5 a6 => ⟨?_, rfl, rfl⟩) g4, zfr_t (ν1 := xe_setI ν 203 6 0) ⟨fun a a3 a4 a5 a6 => ⟨?_, rfl, rfl⟩, fun j hj => ?_, rfl, rfl⟩ g5⟩
  · rw [zr_II, if_neg a3, zr_II, if_neg a3]
  · rw [zr_II, if_neg a3]
  · rw [xu_In (by omega)]
