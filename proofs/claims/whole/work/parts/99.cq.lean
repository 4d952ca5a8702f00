/-! running: a tick -/
/-- what both hold while they run -/
def zRu (P M T : Nat) (F pr : Nat → Nat) (μ ν : xe_Mem) : Prop := ∃ m k, m < M ∧ k ≤ pr m ∧ zRg P T m k μ ν ∧ (0 < k → ∀ t, F m ≤ t → t < F (m + 1) → zRx P (((k - 1) / zn (xe_I ν 221 t) + 1) * zn (xe_I ν 221 t)) t μ ν)
section
variable {P S M T Sw Sl : Nat} {F K Z pr : Nat → Nat} {μ ν μ' ν' : xe_Mem}
theorem zAll_s (h : zAll P S M T Sw Sl F K Z pr μ ν) (g1 : zfG zXst zZu zZu μ μ') (g2 : zfG zYst zZu zZu ν ν') : zAll P S M T Sw Sl F K Z pr μ' ν' := by
  obtain ⟨d, ns, fm, hV⟩ := h.2.2 0 (by have := h.1; omega)
  exact zAll_k h (zXst_g g1) (zRt_G hV.1.1 g1) (zYst_g g2)
/-- from the begin of spans on -/
theorem z_late {m k : Nat} (hA : zAll P S M T Sw Sl F K Z pr μ ν) (hm : m < M) (hk : k < pr m) (hG : zRg P T m k μ ν) (hr : ∀ d ns fm, zVw P S M T Sw Sl m (F m) (F (m + 1) - F m) (pr m) (K m) (K (m + 1) - K m) (Z m) (Z (m + 1)) d ns fm μ ν → ∀ t, F m ≤ t → t < F (m + 1) → ¬ k % d 0 t = 0 → zRx P (zEn d k t) t μ ν) : ∃ μ' ν', zD105_19 μ = some (.inl none, μ') ∧ zD187_43 ν = some (.inl none, ν') ∧ zAll P S M T Sw Sl F K Z pr μ' ν' ∧ zRu P M T F pr μ' ν' ∧ zfG zXst zZu zZu μ μ' ∧ zfG zYst zZu zZu ν ν' := by
  have hz : zfu = 1000000000 := rfl
  obtain ⟨⟨F0, FM, m1, m4, p12, s4, t24⟩, hF, hall⟩ := id hA
  obtain ⟨d, ns, fm, hV⟩ := hall m hm
  have hFm := (hF m hm).1
  have hfn : F m + (F (m + 1) - F m) = F (m + 1) := by omega
  obtain ⟨μ1, ν1, a1, a2, a3, a4, a5, a6, a7⟩ := z_begins hV hG hk (fun t h1 h2 h3 => hr d ns fm hV t h1 (by omega) h3)
  have hsp : ∀ i, i < T → ¬ xe_I ν1 221 i = 0 := fun i hi => by
    obtain ⟨m', q1, q2, q3⟩ := zfind M F0 i (by omega)
    obtain ⟨d', ns', fm', hV'⟩ := (zAll_s hA a6 a7).2.2 m' q1
    obtain ⟨-, ⟨b1, b2, b3, b4, b5, b6⟩, -, htt, -⟩ := hV'.1
    obtain ⟨⟨o1, o2, -⟩, -, ⟨-, -, o3, -⟩⟩ := htt i q2 (by omega)
    rw [o3]
    exact nI_ne0 o1 (by omega)
  obtain ⟨μ2, ν2, b1, b2, b3, b4, b5, b6, b7⟩ := z_sendm a3 a4 hk a5 hsp
  obtain ⟨μ3, ν3, c1, c2, c3, c4, c5, c6⟩ := z_turns hk 4 0 zfu zfu μ2 ν2 (by omega) (by omega) (by omega) b3 b4 b5
  have G1 := zfG_t (zfG_t a6 b6) c5
  have G2 := zfG_t (zfG_t a7 b7) c6
  refine ⟨μ3, ν3, ?_, ?_, zAll_s hA G1 G2, ⟨m, k + 1, hm, by omega, c3, fun _ t h1 h2 => ?_⟩, G1, G2⟩
  · unfold zD105_19
    have hm4 : m < 4 := by omega
    rw [hG.2.1.1, zx_nI hm4 (by decide), hV.1.1 _ _ _ (zR_15 m hm4), zs_some, a1, zcV_ok, a4.2.1.1, zx_nI hm4 (by decide), a3.1.1 _ _ _ (zR_15 m hm4), zs_some, b1, zcV_ok]
    exact c1
  · unfold zD187_43
    rw [show zD187_45 zfu 0 ν = _ from a2, b2]
    exact c2
  · have hV3 := zVw_s hV G1 G2
    obtain ⟨-, ⟨b1, b2, b3, b4, b5, b6⟩, -, htt, -⟩ := hV3.1
    obtain ⟨⟨o1, o2, -⟩, -, ⟨-, -, o3, -⟩⟩ := htt t h1 (by omega)
    rw [o3, zn_n (by omega)]
    exact c4 t h1 (by omega)
theorem z_step (hA : zAll P S M T Sw Sl F K Z pr μ ν) (hU : zRu P M T F pr μ ν) : ∃ μ' ν', zD105 μ = some (.inl none, μ') ∧ zD187 ν = some (.inl none, ν') ∧ zAll P S M T Sw Sl F K Z pr μ' ν' ∧ zRu P M T F pr μ' ν' ∧ zfG zXst zZu zZu μ μ' ∧ zfG zYst zZu zZu ν ν' := by
  obtain ⟨m, k, hm, hk, hG, hr⟩ := hU
  obtain ⟨⟨F0, FM, m1, m4, p12, s4, t24⟩, hF, hall⟩ := id hA
  obtain ⟨d, ns, fm, hV⟩ := hall m hm
  have hm4 : m < 4 := by omega
  have hFm := (hF m hm).1
  have hFT : F (m + 1) ≤ T := by have := hV.1.2.1.2.2.1; omega
  have hper : pr m ≤ 120 := hV.1.2.1.2.2.2.2.2
  have hper1 : 1 ≤ pr m := hV.1.2.1.2.2.2.2.1
  obtain ⟨-, ⟨e1, e2, e3, e4⟩, -⟩ := id hG
  by_cases h0 : k = 0
  · subst h0
    obtain ⟨μ', ν', x1, x2, x3⟩ := z_late hA hm (by omega) hG (fun d' ns' fm' _ t h1 h2 h3 => absurd (Nat.zero_mod _) h3)
    refine ⟨μ', ν', ?_, ?_, x3⟩
    · unfold zD105
      rw [e3, if_pos (by decide)]
      exact x1
    · unfold zD187
      rw [e4, if_pos (by decide)]
      exact x2
  · have hdt : ∀ t, F m ≤ t → t < F (m + 1) → zn (xe_I ν 221 t) = d 0 t := fun t h1 h2 => by
      obtain ⟨-, -, -, htt, -⟩ := hV.1
      obtain ⟨⟨o1, o2, -⟩, -, ⟨-, -, o3, -⟩⟩ := htt t h1 (by omega)
      rw [o3, zn_n (by omega)]
    obtain ⟨μ1, ν1, a1, a2, a3, a4, a5, a6, a7⟩ := z_ends hV hG hk (zEn d (k - 1)) (fun t h1 h2 => by
      have := hr (by omega) t h1 (by omega)
      rw [hdt t h1 (by omega)] at this
      exact this)
    obtain ⟨μ2, ν2, b1, b2, ⟨m', k', b3, b4⟩, b5, b6⟩ := z_change a3 a4 hk hm
    have G1 := zfG_t a6 (zXcm_s b5)
    have G2 := zfG_t a7 (zYcm_s b6)
    have hA2 := zAll_s hA G1 G2
    have hm' : m' < M := by rcases b4 with w | w <;> omega
    have hk' : k' < pr m' := by
      rcases b4 with w | w
      · rw [w.1]; omega
      · obtain ⟨d', ns', fm', hV'⟩ := hA2.2.2 m' hm'
        have := hV'.1.2.1.2.2.2.2.1
        omega
    obtain ⟨μ', ν', x1, x2, x3, x4, x5, x6⟩ := z_late hA2 hm' hk' b3 (fun d' ns' fm' hV' t h1 h2 h3 => by
      rcases b4 with ⟨w1, w2, w3⟩ | ⟨w1, w2⟩
      · subst w1
        subst w2
        have hde : d' 0 t = d 0 t := by
          obtain ⟨-, -, -, htt, -⟩ := (zVw_s hV G1 G2).1
          obtain ⟨⟨o1, o2, -⟩, -, ⟨-, -, o3, -⟩⟩ := htt t h1 (by omega)
          obtain ⟨-, -, -, htt', -⟩ := hV'.1
          obtain ⟨⟨o1', o2', -⟩, -, ⟨-, -, o3', -⟩⟩ := htt' t h1 (by omega)
          have e := o3.symm.trans o3'
          rw [zi_eq (by omega) (by omega)] at e
          exact e.symm
        have hd1 : 1 ≤ d 0 t := by
          obtain ⟨-, -, -, htt, -⟩ := hV.1
          exact (htt t h1 (by omega)).1.1
        rw [hde] at h3
        have hq := a5 t h1 (by omega) h3
        have hEn : zEn d' k' t = zEn d (k' - 1) t := by
          unfold zEn
          rw [hde]
          have e := zdiv_B (d := d) (t := t) (k := k' - 1) hd1 (by rw [show k' - 1 + 1 = k' by omega]; exact h3)
          rw [show k' - 1 + 1 = k' by omega] at e
          rw [e]
        rw [hEn]
        refine zRx_k hq (by omega) p12 b5 b6 (fun a j w4 w5 w6 w7 => by unfold zXcm zXfe at w7; omega) (fun a j w4 w5 => by unfold zYcm at w5; omega)
      · rw [w2] at h3
        exact absurd (Nat.zero_mod _) h3)
    refine ⟨μ', ν', ?_, ?_, x3, x4, zfG_t G1 x5, zfG_t G2 x6⟩
    · unfold zD105
      rw [e3, if_neg (show ¬ nI k ≤ 0 from nI_nle (by omega) (by omega)), e1, zx_nI hm4 (by decide), hV.1.1 _ _ _ (zR_15 m hm4), zs_some, a1, zcV_ok, a4.2.1.1, zx_nI hm4 (by decide), a3.1.1 _ _ _ (zR_15 m hm4), zs_some, b1, zcV_ok]
      exact x1
    · unfold zD187
      rw [e4, if_neg (show ¬ nI k ≤ 0 from nI_nle (by omega) (by omega)), show zD187_5 zfu 0 ν = _ from a2, b2]
      exact x2
/-- n ticks -/
theorem z_steps {n : Nat} (hn : n ≤ 200) : ∀ (r i g G : Nat) (μ ν : xe_Mem), i + r = n → r < g → r < G → zAll P S M T Sw Sl F K Z pr μ ν → zRu P M T F pr μ ν → xe_I ν 203 0 = 0 → ∃ μ' ν', zD104_14 g (nI n) (nI i) μ = some (.inl none, μ') ∧ zD186_18 G (nI n) (nI i) ν = some (.inl none, ν') ∧ zAll P S M T Sw Sl F K Z pr μ' ν' ∧ zRu P M T F pr μ' ν' ∧ zfG zXst zZu zZu μ μ' ∧ zfG zYst zZu zZu ν ν' := by
  intro r
  induction r with
  | zero =>
    intro i g G μ ν hi hg hG hA hU h0
    obtain ⟨g, rfl⟩ : ∃ k, g = k + 1 := ⟨g - 1, by omega⟩
    obtain ⟨G, rfl⟩ : ∃ k, G = k + 1 := ⟨G - 1, by omega⟩
    have : i = n := by omega
    subst this
    refine ⟨μ, ν, ?_, ?_, hA, hU, zfG_r, zfG_r⟩
    · show zD104_14_b (zD104_14 g) _ (nI i) μ = _
      unfold zD104_14_b
      rw [if_pos (nI_le (Nat.le_refl _) (by omega))]
    · show zD186_18_b (zD186_18 G) _ (nI i) ν = _
      unfold zD186_18_b zD186_28
      rw [if_pos (nI_le (Nat.le_refl _) (by omega))]
  | succ r ih =>
    intro i g G μ ν hi hg hG hA hU h0
    obtain ⟨g, rfl⟩ : ∃ k, g = k + 1 := ⟨g - 1, by omega⟩
    obtain ⟨G, rfl⟩ : ∃ k, G = k + 1 := ⟨G - 1, by omega⟩
    obtain ⟨μ1, ν1, a1, a2, a3, a4, a5, a6⟩ := z_step hA hU
    obtain ⟨μ', ν', x1, x2, x3, x4, x5, x6⟩ := ih (i + 1) g G μ1 ν1 (by omega) (by omega) (by omega) a3 a4 (by rw [(a6 203 (by decide) 0).1 (by unfold zYst; omega)]; exact h0)
    refine ⟨μ', ν', ?_, ?_, x3, x4, zfG_t a5 x5, zfG_t a6 x6⟩
    · show zD104_14_b (zD104_14 g) _ (nI i) μ = _
      unfold zD104_14_b
      rw [if_neg (nI_ge (by omega) (by omega)), a1, zcV_ok, nI_1]
      exact x1
    · show zD186_18_b (zD186_18 G) _ (nI i) ν = _
      unfold zD186_18_b
      rw [if_neg (nI_ge (by omega) (by omega)), h0, if_pos rfl, a2, zcV_ok, nI_1]
      exact x2
end
