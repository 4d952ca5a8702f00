/-! what is asked of a run: reset, takes, sensor, tick, port, denoted, state, running -/
def zok2 (ci : Nat) (kk : Int32) : Prop := (ci = 13 ∧ kk = 1) ∨ (ci = 14 ∧ kk = 2)
def zok3 (ci : Nat) (kk : Int32) : Prop := (ci = 13 ∧ kk = 1) ∨ (ci = 14 ∧ kk = 2) ∨ (ci = 12 ∧ kk = 3)
def zok4 (ci : Nat) (kk : Int32) : Prop := (ci = 13 ∧ kk = 1) ∨ (ci = 12 ∧ kk = 2)
section
variable {P S M T Sw Sl m k t n : Nat} {F K Z pr : Nat → Nat} {μ ν μ' ν' : xe_Mem} {x w : Int32}
theorem zJ_f (ht : zJt μ ν) (hc : zJc μ) (g1 : zfG zXrun zYo zYo μ μ') (r1 : zRt μ') (hs : ∃ g, xe_sh μ' = xv_S ++ g) (g2 : zfG zYrun zZo zZo ν ν') (hx : ∀ a j, a ≤ 2 → xe_I μ' a j = xe_I μ a j) (hy : ∀ a j, (a = 203 ∧ (j = 1 ∨ j = 3)) ∨ a = 204 ∨ a = 205 → xe_I ν' a j = xe_I ν a j) : zJt μ' ν' ∧ zJc μ' := by
  obtain ⟨tb, tx, s, n, h1, ⟨h2, h3, h4, h5⟩, h6, h7, h8, h9, h10⟩ := ht
  obtain ⟨h11, h12, h13, u, h14, h15⟩ := hc
  have k1 : ∀ a j, a < 265 → ¬ zXrun a j → xe_I μ' a j = xe_I μ a j := fun a j q1 q2 => (g1 a q1 j).1 q2
  have k2 : ∀ a j, a < 265 → ¬ zYrun a j → xe_I ν' a j = xe_I ν a j := fun a j q1 q2 => (g2 a q1 j).1 q2
  exact ⟨⟨tb, tx, s, n, h1, ⟨(hx _ _ (by omega)).trans h2, (hy _ _ (by omega)).trans h3, (hx _ _ (by omega)).trans h4, (hy _ _ (by omega)).trans h5⟩, fun i hi => ⟨(h6 i hi).1, (hx _ _ (by omega)).trans (h6 i hi).2⟩, fun i hi => ⟨(h7 i hi).1, (hy _ _ (by omega)).trans (h7 i hi).2⟩, fun i hi => ⟨(h8 i hi).1, (hx _ _ (by omega)).trans (h8 i hi).2⟩, fun i hi => ⟨(h9 i hi).1, (hy _ _ (by omega)).trans (h9 i hi).2⟩, fun w hw => ((g2 206 (by omega) w).2.1 (by unfold zZo; omega)).trans (h10 w hw)⟩, ⟨r1, hs⟩, fun t ht => (k1 _ _ (by omega) (by unfold zXrun; omega)).trans (h12 t ht), fun i hi => (k1 _ _ (by omega) (by unfold zXrun; omega)).trans (h13 i hi), u, h14, (k1 181 9 (by omega) (by unfold zXrun; omega)).trans h15⟩
/-- J again after a change of what runs -/
theorem zJ_n (hJ : zJJ μ ν) (hg : zGt P S M T Sl Z μ ν) (hA : zAll P S M T Sw Sl F K Z pr μ ν) (g1 : zfG zXrun zYo zYo μ μ') (r1 : zRt μ') (hs : ∃ g, xe_sh μ' = xv_S ++ g) (g2 : zfG zYrun zZo zZo ν ν') (hx : ∀ a j, a ≤ 2 → xe_I μ' a j = xe_I μ a j) (hy : ∀ a j, (a = 203 ∧ (j = 1 ∨ j = 3)) ∨ a = 204 ∨ a = 205 → xe_I ν' a j = xe_I ν a j) (h1 : xe_I μ' 194 1 = 1) (h2 : xe_I ν' 203 70 = 1) (hu : zRu P M T F pr μ' ν') : zJJ μ' ν' := by
  obtain ⟨a, b⟩ := zJ_f hJ.1 hJ.2.1 g1 r1 hs g2 hx hy
  exact ⟨a, b, P, S, M, T, Sw, Sl, F, K, Z, pr, zGt_k hg g1 g2, Or.inr (zAll_k hA g1 r1 g2), Or.inr ⟨h1, h2, zAll_k hA g1 r1 g2, hu⟩⟩
theorem zRu_sh (h : zRu P M T F pr μ ν) : ∃ g, xe_sh μ = xv_S ++ g := by
  obtain ⟨m, k, -, -, hG, -⟩ := h
  exact hG.1.2
theorem z_creset (hJ : zJJ μ ν) (hth : zThr μ) : zAnv zok1 (zD96 x μ) (zD177 x ν) μ := by
  obtain ⟨P, S, M, T, Sw, Sl, F, K, Z, pr, hg, ha, -⟩ := id hJ.2.2
  obtain ⟨⟨h1, h2, h3, h4⟩, ⟨⟨c4, c5, c6, c7⟩, ⟨r12, r15, r17, r22⟩⟩, h5, h6, h7⟩ := id hg
  have hR := hJ.2.1.1.1
  rcases z_sp (x := x) (n := M) (by omega) with ⟨m, hm, rfl⟩ | hx
  · rcases ha with ha | hA
    · omega
    · obtain ⟨μ', ν', e1, e2, e3, ⟨e4, e5, e6⟩, e7, e8⟩ := z_reset hA hJ.2.1.1.2 c7 h5 hm
      have g1 : zfG zXrun zYo zYo μ μ' := zfG_w e7 (fun a j w => by unfold zXrs at w; unfold zXrun; omega) (fun _ _ w => absurd rfl w.2) (fun _ _ w => absurd rfl w.2)
      have g2 : zfG zYrun zZo zZo ν ν' := zfG_w e8 (fun a j w => by unfold zYrs at w; unfold zYrun; omega) (fun _ _ w => absurd rfl w.2) (fun _ _ w => absurd rfl w.2)
      refine Or.inl ⟨μ', ν', ?_, e2, e6, zJ_n hJ hg hA g1 (zRt_G hR e7) (zRu_sh e3) g2 (fun a j w => (e7 a (by omega) j).1 (by unfold zXrs; omega)) (fun a j w => (e8 a (by omega) j).1 (by unfold zYrs; omega)) e4 e5 e3⟩
      unfold zD96
      rw [z90y hR c6 hm h3, zcR_ok, e1, zcV_ok]
  · refine Or.inr ⟨14, 1, xe_setI ν 203 0 1, ⟨rfl, rfl⟩, ?_, ?_, xu_I, zJ_0 hJ⟩
    · unfold zD96
      rw [z90n hth c6 hx, zcR_no]
    · unfold zD177
      rw [r17, z132, zcI_ok, if_neg (fun q => hx ((z_inT (by omega)).mp q)), if_pos rfl]
      unfold zD177_14
      simp only [zq_m]
      rw [xu_I, if_neg (by decide)]
theorem z100n (hth : zThr μ) (h : xe_I μ 194 1 = 0) : zD100 μ = some (.inr (xe_sh μ).length, xe_add μ (.inl 13) 6) := by
  unfold zD100
  rw [if_pos h]
  exact hth 13
theorem z100y (h : xe_I μ 194 1 = 1) : zD100 μ = some (.inl none, μ) := by
  unfold zD100
  rw [h, if_neg (by decide)]
theorem z_ctick (hJ : zJJ μ ν) (hth : zThr μ) : zAnv zok4 (zD104 x μ) (zD186 x ν) μ := by
  have hz : zfu = 1000000000 := rfl
  have hend : ∀ kk : Int32, ¬ kk = 0 → zD186_15 x kk ν = some (.inl none, xe_setI ν 203 0 kk) := fun kk hk => by
    unfold zD186_15
    simp only [zq_m]
    obtain ⟨G, hG⟩ : ∃ G, zfu = G + 1 := ⟨999999999, rfl⟩
    rw [hG]
    show zD186_18_b (zD186_18 G) x 0 _ = _
    unfold zD186_18_b zD186_28
    rw [xu_I, if_neg hk]
    split
    · rfl
    · rfl
  obtain ⟨P, S, M, T, Sw, Sl, F, K, Z, pr, hg, -, hr⟩ := id hJ.2.2
  rcases hr with ⟨r1, r2⟩ | ⟨r1, r2, hA, hU⟩
  · refine Or.inr ⟨13, 1, xe_setI ν 203 0 1, Or.inl ⟨rfl, rfl⟩, ?_, ?_, xu_I, zJ_0 hJ⟩
    · unfold zD104
      rw [z100n hth r1, zcV_no]
    · unfold zD186
      rw [if_pos r2, hend 1 (by decide)]
  · by_cases hx : ¬ x < 1 ∧ x ≤ 200
    · obtain ⟨n, n1, n2⟩ := zi_nat (x := x) (fun w => hx.1 (by
        rw [Int32.lt_iff_toInt_lt] at w ⊢
        have e0 : (0 : Int32).toInt = 0 := rfl
        have e1 : (1 : Int32).toInt = 1 := rfl
        omega))
      subst n2
      have hn : n ≤ 200 := by
        have := hx.2
        rw [show (200 : Int32) = nI 200 from rfl, zi_le n1 (by decide)] at this
        exact this
      have hn1 : 1 ≤ n := by
        rcases Nat.eq_zero_or_pos n with e | e
        · subst e
          exact absurd (by decide) hx.1
        · exact e
      have hJ1 : zJJ μ (xe_setI ν 203 0 0) := zJ_0 hJ
      have hA1 : zAll P S M T Sw Sl F K Z pr μ (xe_setI ν 203 0 0) := zAll_k hA zfG_r hJ.2.1.1.1 (zfG_I (by unfold zYrun; omega))
      have hU1 : zRu P M T F pr μ (xe_setI ν 203 0 0) := zRu_e hA hU (zwC_e (zJ_rt hJ)) (fun a j w => xu_In (by omega))
      have hg1 : zGt P S M T Sl Z μ (xe_setI ν 203 0 0) := zGt_k hg zfG_r (zfG_I (by unfold zYrun; omega))
      obtain ⟨μ', ν', e1, e2, e3, e4, e5, e6⟩ := z_steps hn n 0 zfu zfu μ (xe_setI ν 203 0 0) (by omega) (by omega) (by omega) hA1 hU1 xu_I
      refine Or.inl ⟨μ', ν', ?_, ?_, ?_, zJ_n hJ1 hg1 hA1 (zXst_g e5) (zRt_G hJ.2.1.1.1 e5) (zRu_sh e4) (zYst_g e6) (fun a j w => (e5 a (by omega) j).1 (by unfold zXst; omega)) (fun a j w => (e6 a (by omega) j).1 (by unfold zYst; omega)) ?_ ?_ e4⟩
      · unfold zD104
        rw [z100y r1, zcV_ok, if_neg hx.1, if_pos hx.2]
        exact e1
      · unfold zD186
        rw [r2, if_neg (by decide), z132, zcI_ok, if_pos (show (1 : Int64) ≤ (nI n).toInt64 ∧ (nI n).toInt64 ≤ 200 from by
          rw [zn_64 (by omega), show (1 : Int64) = nL 1 from rfl, show (200 : Int64) = nL 200 from rfl, zL_le (by decide) (by omega), zL_le (by omega) (by decide)]
          exact ⟨hn1, hn⟩), if_neg (show ¬ (1 : Int32) = 0 by decide)]
        unfold zD186_15
        simp only [zq_m]
        exact e2
      · rw [(e6 203 (by decide) 0).1 (by unfold zYst; omega), xu_I]
      · rw [(e5 194 (by decide) 1).1 (by unfold zXst; omega)]; exact r1
      · rw [(e6 203 (by decide) 70).1 (by unfold zYst; omega), xu_In (by omega)]; exact r2
    · refine Or.inr ⟨12, 2, xe_setI ν 203 0 2, Or.inr ⟨rfl, rfl⟩, ?_, ?_, xu_I, zJ_0 hJ⟩
      · unfold zD104 zD104_8
        rw [z100y r1, zcV_ok, hth 12]
        by_cases h1 : x < 1
        · rw [if_pos h1]
        · rw [if_neg h1, if_neg (fun q => hx ⟨h1, q⟩)]
      · unfold zD186
        rw [r2, if_neg (by decide), z132, zcI_ok, if_neg (show ¬ ((1 : Int64) ≤ x.toInt64 ∧ x.toInt64 ≤ 200) from fun q => hx (by
          obtain ⟨q1, q2⟩ := q
          rw [Int64.le_iff_toInt_le, Int32.toInt_toInt64] at q1 q2
          have e1 : (1 : Int64).toInt = 1 := rfl
          have e2 : (200 : Int64).toInt = 200 := rfl
          have e3 : (1 : Int32).toInt = 1 := rfl
          have e4 : (200 : Int32).toInt = 200 := rfl
          rw [Int32.lt_iff_toInt_lt, Int32.le_iff_toInt_le]
          omega)), if_pos rfl, hend 2 (by decide)]
theorem zRu_n (hA : zAll P S M T Sw Sl F K Z pr μ ν) (h : zRu P M T F pr μ ν) (g1 : zfG (fun a j => (61 ≤ a ∧ a < 181 ∧ (a - 61) % 5 = 2 ∧ j = 2) ∨ a = 201) zZu zZu μ μ') (g2 : zfG (fun a j => (a = 203 ∧ j = 0) ∨ a = 260 ∨ a = 257) zZu zZu ν ν') (hs : xe_sh μ' = xe_sh μ) (h1 : ∀ j, j < 4 → xe_I μ' 201 j = xe_I ν' 257 j) (h2 : ∀ t, t < T → zTo t μ' ν') : zRu P M T F pr μ' ν' := by
  obtain ⟨m, k, hm, hk, hG, hr⟩ := h
  obtain ⟨⟨F0, FM, m1, m4, p12, s4, t24⟩, hF, hall⟩ := id hA
  obtain ⟨⟨⟨s1, s2⟩, hsh0⟩, ⟨e1, e2, e3, e4⟩, ⟨f1, f2, f3, f4, f5⟩, hs1, hs2, hto⟩ := id hG
  have c : ∀ a j, a < 265 → ¬ (61 ≤ a ∧ a < 181) → a ≠ 201 → xe_I μ' a j = xe_I μ a j := fun a j w1 w2 w3 => (g1 a w1 j).1 (by omega)
  have r : ∀ a j, a < 265 → ¬ (a = 203 ∧ j = 0) → a ≠ 260 → a ≠ 257 → xe_I ν' a j = xe_I ν a j := fun a j w1 w2 w3 w4 => (g2 a w1 j).1 (by omega)
  have hFm : F (m + 1) ≤ T := by
    have := zmono2 (F := F) (M := M) (fun m hm => (hF m hm).1) M (m + 1) (by omega) (Nat.le_refl _)
    omega
  refine ⟨m, k, hm, hk, ⟨⟨⟨fun p hp => ?_, fun n hn p hp => ?_⟩, by rw [hs]; exact hsh0⟩, ⟨?_, ?_, ?_, ?_⟩, ⟨?_, ?_, ?_, ?_, ?_⟩, h1, fun j hj => ?_, h2⟩, fun w t q1 q2 => ?_⟩
  · rw [c 195 p (by omega) (by omega) (by omega), r 255 p (by omega) (by omega) (by omega) (by omega)]; exact s1 p hp
  · rw [c (197 + n) p (by omega) (by omega) (by omega), r 256 _ (by omega) (by omega) (by omega) (by omega)]; exact s2 n hn p hp
  · rw [c 194 _ (by omega) (by omega) (by omega)]; exact e1
  · rw [r 203 _ (by omega) (by omega) (by omega) (by omega)]; exact e2
  · rw [c 194 _ (by omega) (by omega) (by omega)]; exact e3
  · rw [r 203 _ (by omega) (by omega) (by omega) (by omega)]; exact e4
  · rw [c 194 _ (by omega) (by omega) (by omega), r 203 _ (by omega) (by omega) (by omega) (by omega)]; exact f1
  · rw [c 194 _ (by omega) (by omega) (by omega), r 203 _ (by omega) (by omega) (by omega) (by omega)]; exact f2
  · rw [c 194 _ (by omega) (by omega) (by omega), r 203 _ (by omega) (by omega) (by omega) (by omega)]; exact f3
  · rw [c 194 _ (by omega) (by omega) (by omega), r 203 _ (by omega) (by omega) (by omega) (by omega)]; exact f4
  · rw [c 194 _ (by omega) (by omega) (by omega), r 203 _ (by omega) (by omega) (by omega) (by omega)]; exact f5
  · rw [c 202 j (by omega) (by omega) (by omega), r 258 j (by omega) (by omega) (by omega) (by omega)]; exact hs2 j hj
  · rw [r 221 t (by omega) (by omega) (by omega) (by omega)]
    exact zRx_k (hr w t q1 q2) (by omega) p12 g1 g2 (fun a j w4 w5 w6 w7 => by omega) (fun a j w4 w5 => by omega)
theorem z_ctakes (hJ : zJJ μ ν) (hth : zThr μ) : zAnv zok3 (zD99 x w μ) (zD184 x w ν) μ := by
  have hend : ∀ kk : Int32, ¬ kk = 0 → zD184_25 x w kk ν = some (.inl none, xe_setI ν 203 0 kk) := fun kk hk => by
    unfold zD184_25 zD184_34
    simp only [zq_m]
    rw [xu_I, if_neg hk]
  obtain ⟨P, S, M, T, Sw, Sl, F, K, Z, pr, hg, -, hr⟩ := id hJ.2.2
  obtain ⟨⟨h1, h2, h3, h4⟩, ⟨⟨c4, c5, c6, c7⟩, ⟨r12, r15, r17, r22⟩⟩, h5, h6, h7⟩ := id hg
  have hR := hJ.2.1.1.1
  rcases hr with ⟨r1, r2⟩ | ⟨r1, r2, hA, hU⟩
  · refine Or.inr ⟨13, 1, xe_setI ν 203 0 1, Or.inl ⟨rfl, rfl⟩, ?_, ?_, xu_I, zJ_0 hJ⟩
    · unfold zD99
      rw [z100n hth r1, zcV_no]
    · unfold zD184
      rw [if_pos r2, hend 1 (by decide)]
  · rcases z_sp (x := x) (n := T) (by omega) with ⟨t, ht, rfl⟩ | hx
    · have ht24 : t < 24 := by omega
      obtain ⟨⟨-, -, -, a4, -⟩, ⟨wo, b1, b2⟩, -⟩ := h6 t ht
      have hc0 : zD99 (nI t) w μ = if w < 0 then some (.inr (xe_sh μ).length, xe_add μ (.inl 12) 6) else if w ≤ nI wo then some (.inl none, xe_setI μ (63 + 5 * t) 2 w) else some (.inr (xe_sh μ).length, xe_add μ (.inl 12) 6) := by
        unfold zD99 zD99_12
        rw [z100y r1, zcV_ok, z85y hR c7 ht h4, zcR_ok, zo_in (zS_task t ht24) (by omega), a4, b2, hR _ _ _ (zR_62 t ht24).2, zs_some, zo_in (zS_62 t ht24).2 (by omega), hth 12]
        rfl
      have hr0 : zD184 (nI t) w ν = if (¬ w < 0 ∧ w ≤ nI wo) then zD184_25 (nI t) w 0 ν else some (.inl none, xe_setI ν 203 0 3) := by
        unfold zD184
        rw [r2, if_neg (by decide), z180y r22 ht h4, zcI_ok, if_neg (show ¬ (1 : Int32) = 0 by decide), zx_nI ht24 (by decide), b2, z132, zcI_ok, zn_64 (by omega)]
        by_cases hw : ¬ w < 0 ∧ w ≤ nI wo
        · rw [if_pos ((zi_in (by omega)).mpr hw), if_neg (show ¬ (1 : Int32) = 0 by decide), if_pos hw]
        · rw [if_neg (fun q => hw ((zi_in (by omega)).mp q)), if_pos rfl, if_neg hw, hend 3 (by decide)]
      by_cases hw : ¬ w < 0 ∧ w ≤ nI wo
      · rw [if_neg hw.1, if_pos hw.2] at hc0
        rw [if_pos hw] at hr0
        obtain ⟨n, n1, n2⟩ := zi_nat hw.1
        have hn : n ≤ 200 := by
          have := hw.2
          rw [n2, zi_le n1 (by omega)] at this
          omega
        subst n2
        unfold zD184_25 zD184_34 at hr0
        simp only [zq_m] at hr0
        rw [xu_I, if_pos rfl, zx_nI ht24 (by decide)] at hr0
        have g1 : zfG (fun a j => (61 ≤ a ∧ a < 181 ∧ (a - 61) % 5 = 2 ∧ j = 2) ∨ a = 201) zZu zZu μ (xe_setI μ (63 + 5 * t) 2 (nI n)) := zfG_I (by omega)
        have g2 : zfG (fun a j => (a = 203 ∧ j = 0) ∨ a = 260 ∨ a = 257) zZu zZu ν (xe_setI (xe_setI ν 203 0 0) 260 t (nI n)) := zfG_t (zfG_I (by omega)) (zfG_I (by omega))
        have hu : zRu P M T F pr (xe_setI μ (63 + 5 * t) 2 (nI n)) (xe_setI (xe_setI ν 203 0 0) 260 t (nI n)) := by
          obtain ⟨m', k', -, -, hG, -⟩ := id hU
          refine zRu_n hA hU g1 g2 rfl (fun j hj => ?_) (fun t' ht' => ?_)
          · rw [xu_In (by omega), xu_In (by omega), xu_In (by omega)]; exact hG.2.2.2.1 j hj
          · unfold zTo
            by_cases e : t' = t
            · subst e
              rw [xu_I, xu_I]
              exact ⟨rfl, Or.inr ⟨n, hn, rfl⟩⟩
            · rw [xu_In (by omega), xu_In (by omega), xu_In (by omega)]
              exact hG.2.2.2.2.2 t' ht'
        refine Or.inl ⟨_, _, hc0, hr0, ?_, zJ_n hJ hg hA (zfG_w g1 (fun a j w => by unfold zXrun; omega) (fun _ _ w => absurd rfl w.2) (fun _ _ w => absurd rfl w.2)) hR hJ.2.1.1.2 (zfG_w g2 (fun a j w => by unfold zYrun; omega) (fun _ _ w => absurd rfl w.2) (fun _ _ w => absurd rfl w.2)) (fun a j w => (g1 a (by omega) j).1 (by omega)) (fun a j w => (g2 a (by omega) j).1 (by omega)) ?_ ?_ hu⟩
        · rw [xu_In (by omega), xu_I]
        · rw [xu_In (by omega)]; exact r1
        · rw [xu_In (by omega), xu_In (by omega)]; exact r2
      · rw [if_neg hw] at hr0
        refine Or.inr ⟨12, 3, _, Or.inr (Or.inr ⟨rfl, rfl⟩), ?_, hr0, xu_I, zJ_0 hJ⟩
        rw [hc0]
        by_cases h0 : w < 0
        · rw [if_pos h0]
        · rw [if_neg h0, if_neg (fun q => hw ⟨h0, q⟩)]
    · refine Or.inr ⟨14, 2, xe_setI ν 203 0 2, Or.inr (Or.inl ⟨rfl, rfl⟩), ?_, ?_, xu_I, zJ_0 hJ⟩
      · unfold zD99
        rw [z100y r1, zcV_ok, z85n hth c7 hx, zcR_no]
      · unfold zD184
        rw [r2, if_neg (by decide), z180n r22 h4 hx, zcI_ok, if_pos rfl, hend 2 (by decide)]
theorem z_csensor (hJ : zJJ μ ν) (hth : zThr μ) : zAnv zok2 (zD102 x w μ) (zD185 x w ν) μ := by
  have hend : ∀ kk : Int32, ¬ kk = 0 → zD185_19 x w kk ν = some (.inl none, xe_setI ν 203 0 kk) := fun kk hk => by
    unfold zD185_19 zD185_28
    simp only [zq_m]
    rw [xu_I, if_neg hk]
  obtain ⟨P, S, M, T, Sw, Sl, F, K, Z, pr, hg, -, hr⟩ := id hJ.2.2
  obtain ⟨⟨h1, h2, h3, h4⟩, ⟨⟨c4, c5, c6, c7⟩, ⟨r12, r15, r17, r22⟩⟩, h5, h6, h7⟩ := id hg
  have hR := hJ.2.1.1.1
  rcases hr with ⟨r1, r2⟩ | ⟨r1, r2, hA, hU⟩
  · refine Or.inr ⟨13, 1, xe_setI ν 203 0 1, Or.inl ⟨rfl, rfl⟩, ?_, ?_, xu_I, zJ_0 hJ⟩
    · unfold zD102
      rw [z100n hth r1, zcV_no]
    · unfold zD185
      rw [if_pos r2, hend 1 (by decide)]
  · rcases z_sp (x := x) (n := S) (by omega) with ⟨s, hs, rfl⟩ | hx
    · have hs4 : s < 4 := by omega
      have g1 : zfG (fun a j => (61 ≤ a ∧ a < 181 ∧ (a - 61) % 5 = 2 ∧ j = 2) ∨ a = 201) zZu zZu μ (xe_setI μ 201 s w) := zfG_I (by omega)
      have g2 : zfG (fun a j => (a = 203 ∧ j = 0) ∨ a = 260 ∨ a = 257) zZu zZu ν (xe_setI (xe_setI ν 203 0 0) 257 s w) := zfG_t (zfG_I (by omega)) (zfG_I (by omega))
      have hu : zRu P M T F pr (xe_setI μ 201 s w) (xe_setI (xe_setI ν 203 0 0) 257 s w) := by
        obtain ⟨m', k', -, -, hG, -⟩ := id hU
        refine zRu_n hA hU g1 g2 rfl (fun j hj => ?_) (fun t' ht' => ?_)
        · by_cases e : j = s
          · subst e; rw [xu_I, xu_I]
          · rw [xu_In (by omega), xu_In (by omega), xu_In (by omega)]; exact hG.2.2.2.1 j hj
        · unfold zTo
          rw [xu_In (by omega), xu_In (by omega), xu_In (by omega)]
          exact hG.2.2.2.2.2 t' ht'
      refine Or.inl ⟨_, _, ?_, ?_, ?_, zJ_n hJ hg hA (zfG_w g1 (fun a j w => by unfold zXrun; omega) (fun _ _ w => absurd rfl w.2) (fun _ _ w => absurd rfl w.2)) hR hJ.2.1.1.2 (zfG_w g2 (fun a j w => by unfold zYrun; omega) (fun _ _ w => absurd rfl w.2) (fun _ _ w => absurd rfl w.2)) (fun a j w => (g1 a (by omega) j).1 (by omega)) (fun a j w => (g2 a (by omega) j).1 (by omega)) ?_ ?_ hu⟩
      · unfold zD102
        rw [z100y r1, zcV_ok, c5, z86y (z_rg hs (by omega)), zcV_ok, zx_nI hs4 (by decide)]
        rfl
      · unfold zD185
        rw [r2, if_neg (by decide), r15, z132, zcI_ok, if_pos ((z_inT (by omega)).mpr (z_rg hs (by omega))), if_neg (show ¬ (1 : Int32) = 0 by decide)]
        unfold zD185_19 zD185_28
        simp only [zq_m]
        rw [xu_I, if_pos rfl, zx_nI hs4 (by decide)]
      · rw [xu_In (by omega), xu_I]
      · rw [xu_In (by omega)]; exact r1
      · rw [xu_In (by omega), xu_In (by omega)]; exact r2
    · refine Or.inr ⟨14, 2, xe_setI ν 203 0 2, Or.inr ⟨rfl, rfl⟩, ?_, ?_, xu_I, zJ_0 hJ⟩
      · unfold zD102
        rw [z100y r1, zcV_ok, c5, z86n hth hx, zcV_no]
      · unfold zD185
        rw [r2, if_neg (by decide), r15, z132, zcI_ok, if_neg (fun q => hx ((z_inT (by omega)).mp q)), if_pos rfl, hend 2 (by decide)]
theorem z_34 (q : (0 : Int64) ≤ x.toInt64 ∧ x.toInt64 ≤ 3) : ¬ x < 0 ∧ x < nI 4 := by
  obtain ⟨a, b⟩ := (zi_in (s := 3) (by decide)).mp q
  obtain ⟨n, n1, n2⟩ := zi_nat a
  subst n2
  rw [zi_le n1 (by decide)] at b
  exact ⟨a, by rw [zi_lt n1 (by decide)]; omega⟩
theorem z_cport (hJ : zJJ μ ν) (hth : zThr μ) : zAns zok2 (zD121 x w μ) (zD194 x w ν) μ := by
  have hend : ∀ kk : Int32, 0 < kk → zD194_25 x w kk ν = zint 0 (xe_setI ν 203 0 kk) := fun kk hk => by
    unfold zD194_25 zD194_39
    simp only [zq_m]
    rw [xu_I, if_neg (Int32.not_le.mpr hk)]
  obtain ⟨P, S, M, T, Sw, Sl, F, K, Z, pr, hg, -, hr⟩ := id hJ.2.2
  obtain ⟨⟨h1, h2, h3, h4⟩, ⟨⟨c4, c5, c6, c7⟩, ⟨r12, r15, r17, r22⟩⟩, h5, h6, h7⟩ := id hg
  have hR := hJ.2.1.1.1
  rcases hr with ⟨r1, r2⟩ | ⟨r1, r2, hA, hU⟩
  · refine Or.inr ⟨13, 1, 0, xe_setI ν 203 0 1, Or.inl ⟨rfl, rfl⟩, ?_, ?_, xu_I, zJ_0 hJ⟩
    · unfold zD121
      rw [z100n hth r1, zcV_no]
    · unfold zD194
      rw [if_pos r2, hend 1 (by decide)]
  · rcases z_sp (x := x) (n := 4) (by omega) with ⟨n, hn, rfl⟩ | hx
    · rcases z_sp (x := w) (n := P) (by omega) with ⟨p, hp, rfl⟩ | hw
      · obtain ⟨m', k', -, -, hG, -⟩ := id hU
        refine Or.inl ⟨xe_I ν 256 (12 * n + p), μ, xe_setI ν 203 0 0, ?_, ?_, xu_I, zJ_0 hJ⟩
        · unfold zD121
          rw [z100y r1, zcV_ok, show zD86 (nI n) 4 μ = _ from z86y (s := nI 4) (z_rg hn (by omega)), zcV_ok, c4, z86y (z_rg hp (by omega)), zcV_ok, zx_nI hn (by decide), hR _ _ _ (zR_196 n hn), zs_some, za_in (zS_197 n hn) (by omega), zx_nI (show p < 12 by omega) (by decide), hG.1.1.2 n hn p hp]
        · unfold zD194
          rw [r2, if_neg (by decide), z132, zcI_ok, if_pos (show (0 : Int64) ≤ (nI n).toInt64 ∧ (nI n).toInt64 ≤ 3 from (zi_in (s := 3) (by decide)).mpr ⟨nI_pos (by omega), nI_le (by omega) (by decide)⟩), if_neg (show ¬ (1 : Int32) = 0 by decide), r12, z132, zcI_ok, if_pos ((z_inT (by omega)).mpr (z_rg hp (by omega))), if_neg (show ¬ (1 : Int32) = 0 by decide)]
          unfold zD194_25 zD194_39
          simp only [zq_m]
          rw [xu_I, if_pos (by decide), z12, zx_nI (show 12 * n + p < 48 by omega) (by decide), xu_In (by omega)]
      · refine Or.inr ⟨14, 2, 0, xe_setI ν 203 0 2, Or.inr ⟨rfl, rfl⟩, ?_, ?_, xu_I, zJ_0 hJ⟩
        · unfold zD121
          rw [z100y r1, zcV_ok, show zD86 (nI n) 4 μ = _ from z86y (s := nI 4) (z_rg hn (by omega)), zcV_ok, c4, z86n hth hw, zcV_no]
        · unfold zD194 zD194_22
          rw [r2, if_neg (by decide), z132, zcI_ok, if_pos (show (0 : Int64) ≤ (nI n).toInt64 ∧ (nI n).toInt64 ≤ 3 from (zi_in (s := 3) (by decide)).mpr ⟨nI_pos (by omega), nI_le (by omega) (by decide)⟩), if_neg (show ¬ (1 : Int32) = 0 by decide), r12, z132, zcI_ok, if_neg (fun q => hw ((z_inT (by omega)).mp q)), if_pos rfl, hend 2 (by decide)]
    · refine Or.inr ⟨14, 2, 0, xe_setI ν 203 0 2, Or.inr ⟨rfl, rfl⟩, ?_, ?_, xu_I, zJ_0 hJ⟩
      · unfold zD121
        rw [z100y r1, zcV_ok, show zD86 x 4 μ = _ from z86n (s := nI 4) hth hx, zcV_no]
      · unfold zD194 zD194_22
        rw [r2, if_neg (by decide), z132, zcI_ok, if_neg (show ¬ ((0 : Int64) ≤ x.toInt64 ∧ x.toInt64 ≤ 3) from fun q => hx (z_34 q)), if_pos rfl, hend 2 (by decide)]
theorem z_cdenoted (hJ : zJJ μ ν) (hth : zThr μ) : zAns zok2 (zD123 x μ) (zD195 x ν) μ := by
  have hend : ∀ kk : Int32, 0 < kk → zD195_19 x kk ν = zint 0 (xe_setI ν 203 0 kk) := fun kk hk => by
    unfold zD195_19 zD195_29
    simp only [zq_m]
    rw [xu_I, if_neg (Int32.not_le.mpr hk)]
  obtain ⟨P, S, M, T, Sw, Sl, F, K, Z, pr, hg, -, hr⟩ := id hJ.2.2
  obtain ⟨⟨h1, h2, h3, h4⟩, ⟨⟨c4, c5, c6, c7⟩, ⟨r12, r15, r17, r22⟩⟩, h5, h6, h7⟩ := id hg
  rcases hr with ⟨r1, r2⟩ | ⟨r1, r2, hA, hU⟩
  · refine Or.inr ⟨13, 1, 0, xe_setI ν 203 0 1, Or.inl ⟨rfl, rfl⟩, ?_, ?_, xu_I, zJ_0 hJ⟩
    · unfold zD123
      rw [z100n hth r1, zcV_no]
    · unfold zD195
      rw [if_pos r2, hend 1 (by decide)]
  · rcases z_sp (x := x) (n := P) (by omega) with ⟨p, hp, rfl⟩ | hx
    · obtain ⟨m', k', -, -, hG, -⟩ := id hU
      refine Or.inl ⟨xe_I ν 255 p, μ, xe_setI ν 203 0 0, ?_, ?_, xu_I, zJ_0 hJ⟩
      · unfold zD123
        rw [z100y r1, zcV_ok, c4, z86y (z_rg hp (by omega)), zcV_ok, zx_nI (show p < 12 by omega) (by decide), hG.1.1.1 p hp]
      · unfold zD195
        rw [r2, if_neg (by decide), r12, z132, zcI_ok, if_pos ((z_inT (by omega)).mpr (z_rg hp (by omega))), if_neg (show ¬ (1 : Int32) = 0 by decide)]
        unfold zD195_19 zD195_29
        simp only [zq_m]
        rw [xu_I, if_pos (by decide), zx_nI (show p < 12 by omega) (by decide), xu_In (by omega)]
    · refine Or.inr ⟨14, 2, 0, xe_setI ν 203 0 2, Or.inr ⟨rfl, rfl⟩, ?_, ?_, xu_I, zJ_0 hJ⟩
      · unfold zD123
        rw [z100y r1, zcV_ok, c4, z86n hth hx, zcV_no]
      · unfold zD195
        rw [r2, if_neg (by decide), r12, z132, zcI_ok, if_neg (fun q => hx ((z_inT (by omega)).mp q)), if_pos rfl, hend 2 (by decide)]
theorem z_crunning (hJ : zJJ μ ν) (hth : zThr μ) : zAns zok2 (zD127 x μ) (zD197 x ν) μ := by
  have hend : ∀ kk : Int32, 0 < kk → zD197_15 x kk ν = zint 0 (xe_setI ν 203 0 kk) := fun kk hk => by
    unfold zD197_15 zD197_25
    simp only [zq_m]
    rw [xu_I, if_neg (Int32.not_le.mpr hk)]
  obtain ⟨P, S, M, T, Sw, Sl, F, K, Z, pr, hg, -, hr⟩ := id hJ.2.2
  rcases hr with ⟨r1, r2⟩ | ⟨r1, r2, hA, hU⟩
  · refine Or.inr ⟨13, 1, 0, xe_setI ν 203 0 1, Or.inl ⟨rfl, rfl⟩, ?_, ?_, xu_I, zJ_0 hJ⟩
    · unfold zD127
      rw [z100n hth r1, zcV_no]
    · unfold zD197
      rw [if_pos r2, hend 1 (by decide)]
  · rcases z_sp (x := x) (n := 4) (by omega) with ⟨n, hn, rfl⟩ | hx
    · obtain ⟨m', k', -, -, hG, -⟩ := id hU
      refine Or.inl ⟨xe_I ν 258 n, μ, xe_setI ν 203 0 0, ?_, ?_, xu_I, zJ_0 hJ⟩
      · unfold zD127
        rw [z100y r1, zcV_ok, show zD86 (nI n) 4 μ = _ from z86y (s := nI 4) (z_rg hn (by omega)), zcV_ok, zx_nI hn (by decide), hG.2.2.2.2.1 n hn]
      · unfold zD197
        rw [r2, if_neg (by decide), z132, zcI_ok, if_pos (show (0 : Int64) ≤ (nI n).toInt64 ∧ (nI n).toInt64 ≤ 3 from (zi_in (s := 3) (by decide)).mpr ⟨nI_pos (by omega), nI_le (by omega) (by decide)⟩), if_neg (show ¬ (1 : Int32) = 0 by decide)]
        unfold zD197_15 zD197_25
        simp only [zq_m]
        rw [xu_I, if_pos (by decide), zx_nI hn (by decide), xu_In (by omega)]
    · refine Or.inr ⟨14, 2, 0, xe_setI ν 203 0 2, Or.inr ⟨rfl, rfl⟩, ?_, ?_, xu_I, zJ_0 hJ⟩
      · unfold zD127
        rw [z100y r1, zcV_ok, show zD86 x 4 μ = _ from z86n (s := nI 4) hth hx, zcV_no]
      · unfold zD197
        rw [r2, if_neg (by decide), z132, zcI_ok, if_neg (show ¬ ((0 : Int64) ≤ x.toInt64 ∧ x.toInt64 ≤ 3) from fun q => hx (z_34 q)), if_pos rfl, hend 2 (by decide)]
theorem z_cstate (hJ : zJJ μ ν) (hth : zThr μ) : zAns zok2 (zD125 x μ) (zD196 x ν) μ := by
  have hend : ∀ kk : Int32, 0 < kk → zD196_15 x kk ν = zint 0 (xe_setI ν 203 0 kk) := fun kk hk => by
    unfold zD196_15
    simp only [zq_m]
    rw [xu_I, if_neg (Int32.not_le.mpr hk)]
  obtain ⟨P, S, M, T, Sw, Sl, F, K, Z, pr, hg, -, hr⟩ := id hJ.2.2
  rcases hr with ⟨r1, r2⟩ | ⟨r1, r2, hA, hU⟩
  · refine Or.inr ⟨13, 1, 0, xe_setI ν 203 0 1, Or.inl ⟨rfl, rfl⟩, ?_, ?_, xu_I, zJ_0 hJ⟩
    · unfold zD125
      rw [z100n hth r1, zcV_no]
    · unfold zD196
      rw [if_pos r2, hend 1 (by decide)]
  · obtain ⟨m', k', -, -, hG, -⟩ := id hU
    obtain ⟨-, ⟨e1, e2, e3, e4⟩, ⟨f1, f2, f3, f4, f5⟩, -⟩ := hG
    have hc : zD125 x μ = if x = 0 then zint (nI m') μ else if x = 1 then zint (nI k') μ else if x = 2 then zint (xe_I ν 203 73) μ else if x = 3 then zint (xe_I ν 203 74) μ else if x = 4 then zint (xe_I ν 203 75) μ else if x = 5 then zint (xe_I ν 203 76) μ else if x = 6 then zint (xe_I ν 203 77) μ else some (.inr (xe_sh μ).length, xe_add μ (.inl 14) 6) := by
      unfold zD125
      rw [z100y r1, zcV_ok, e1, e3, f1, f2, f3, f4, f5, hth 14]
    have o : ∀ j, j ≠ 0 → xe_I (xe_setI ν 203 0 0) 203 j = xe_I ν 203 j := fun j q => xu_In (by omega)
    rcases z_sm (w := x) 6 (by decide) with ⟨k, hk, rfl⟩ | hw
    · have hr0 : zD196 (nI k) ν = if nI k = 0 then zint (nI m') (xe_setI ν 203 0 0) else if nI k = 1 then zint (nI k') (xe_setI ν 203 0 0) else if nI k = 2 then zint (xe_I ν 203 73) (xe_setI ν 203 0 0) else if nI k = 3 then zint (xe_I ν 203 74) (xe_setI ν 203 0 0) else if nI k = 4 then zint (xe_I ν 203 75) (xe_setI ν 203 0 0) else if nI k = 5 then zint (xe_I ν 203 76) (xe_setI ν 203 0 0) else zint (xe_I ν 203 77) (xe_setI ν 203 0 0) := by
        unfold zD196
        rw [r2, if_neg (by decide), z132, zcI_ok, if_pos (show (0 : Int64) ≤ (nI k).toInt64 ∧ (nI k).toInt64 ≤ 6 from (zi_in (s := 6) (by decide)).mpr ⟨nI_pos (by omega), nI_le hk (by decide)⟩), if_neg (show ¬ (1 : Int32) = 0 by decide)]
        unfold zD196_15
        simp only [zq_m]
        rw [xu_I, if_pos (by decide), o 71 (by decide), o 72 (by decide), o 73 (by decide), o 74 (by decide), o 75 (by decide), o 76 (by decide), o 77 (by decide), e2, e4]
      rcases (show k = 0 ∨ k = 1 ∨ k = 2 ∨ k = 3 ∨ k = 4 ∨ k = 5 ∨ k = 6 by omega) with rfl | rfl | rfl | rfl | rfl | rfl | rfl
      · rw [if_pos (by decide)] at hc hr0
        exact Or.inl ⟨_, _, _, hc, hr0, xu_I, zJ_0 hJ⟩
      · rw [if_neg (by decide), if_pos (by decide)] at hc hr0
        exact Or.inl ⟨_, _, _, hc, hr0, xu_I, zJ_0 hJ⟩
      · rw [if_neg (by decide), if_neg (by decide), if_pos (by decide)] at hc hr0
        exact Or.inl ⟨_, _, _, hc, hr0, xu_I, zJ_0 hJ⟩
      · rw [if_neg (by decide), if_neg (by decide), if_neg (by decide), if_pos (by decide)] at hc hr0
        exact Or.inl ⟨_, _, _, hc, hr0, xu_I, zJ_0 hJ⟩
      · rw [if_neg (by decide), if_neg (by decide), if_neg (by decide), if_neg (by decide), if_pos (by decide)] at hc hr0
        exact Or.inl ⟨_, _, _, hc, hr0, xu_I, zJ_0 hJ⟩
      · rw [if_neg (by decide), if_neg (by decide), if_neg (by decide), if_neg (by decide), if_neg (by decide), if_pos (by decide)] at hc hr0
        exact Or.inl ⟨_, _, _, hc, hr0, xu_I, zJ_0 hJ⟩
      · rw [if_neg (by decide), if_neg (by decide), if_neg (by decide), if_neg (by decide), if_neg (by decide), if_neg (by decide), if_pos (by decide)] at hc
        rw [if_neg (by decide), if_neg (by decide), if_neg (by decide), if_neg (by decide), if_neg (by decide), if_neg (by decide)] at hr0
        exact Or.inl ⟨_, _, _, hc, hr0, xu_I, zJ_0 hJ⟩
    · have hne : ∀ k, k ≤ 6 → ¬ x = nI k := fun k hk e => hw (by rw [e]; exact (zi_in (by decide)).mpr ⟨nI_pos (by omega), nI_le hk (by decide)⟩)
      rw [if_neg (show ¬ x = 0 from hne 0 (by omega)), if_neg (show ¬ x = 1 from hne 1 (by omega)), if_neg (show ¬ x = 2 from hne 2 (by omega)), if_neg (show ¬ x = 3 from hne 3 (by omega)), if_neg (show ¬ x = 4 from hne 4 (by omega)), if_neg (show ¬ x = 5 from hne 5 (by omega)), if_neg (show ¬ x = 6 from hne 6 (by omega))] at hc
      refine Or.inr ⟨14, 2, 0, xe_setI ν 203 0 2, Or.inr ⟨rfl, rfl⟩, hc, ?_, xu_I, zJ_0 hJ⟩
      unfold zD196
      rw [r2, if_neg (by decide), z132, zcI_ok, if_neg (show ¬ ((0 : Int64) ≤ x.toInt64 ∧ x.toInt64 ≤ 6) from hw), if_pos rfl, hend 2 (by decide)]
end
