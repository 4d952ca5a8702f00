/-! running: reset -/
def zXrs (a j : Nat) : Prop := (a = 194 ∧ 1 ≤ j ∧ j ≤ 8) ∨ (195 ≤ a ∧ a ≤ 202) ∨ (61 ≤ a ∧ a < 181 ∧ (a - 61) % 5 = 2 ∧ j = 2)
def zYrs (a j : Nat) : Prop := (a = 203 ∧ (j = 0 ∨ (70 ≤ j ∧ j ≤ 77))) ∨ (255 ≤ a ∧ a ≤ 260)
section
variable {P S M T Sw Sl m : Nat} {F K Z pr : Nat → Nat} {μ ν μ' ν' : xe_Mem} {v1 : Int32}
/-- the class's tasks -/
theorem z97t (hT : T ≤ 24) : ∀ (r g t : Nat) (μ : xe_Mem), t + r = T → r < g → zRt μ → xe_I μ 7 7 = nI T → (∀ i, i < t → xe_I μ (63 + 5 * i) 2 = -1) → ∃ μ', zD97_61 g v1 (nI t) μ = some (.inl none, μ') ∧ (∀ i, i < T → xe_I μ' (63 + 5 * i) 2 = -1) ∧ zfG (fun a j => 61 ≤ a ∧ a < 181 ∧ (a - 61) % 5 = 2 ∧ j = 2) zZu zZu μ μ' ∧ xe_sh μ' = xe_sh μ := by
  intro r
  induction r with
  | zero =>
    intro g t μ ht hg hR h77 h
    obtain ⟨g, rfl⟩ : ∃ k, g = k + 1 := ⟨g - 1, by omega⟩
    have : t = T := by omega
    subst this
    refine ⟨μ, ?_, h, zfG_r, rfl⟩
    show zD97_61_b (zD97_61 g) _ (nI t) μ = _
    unfold zD97_61_b
    rw [h77, if_pos (nI_le (Nat.le_refl _) (by omega))]
  | succ r ih =>
    intro g t μ ht hg hR h77 h
    obtain ⟨g, rfl⟩ : ∃ k, g = k + 1 := ⟨g - 1, by omega⟩
    have ht24 : t < 24 := by omega
    obtain ⟨μ', a1, a2, a3, a4⟩ := ih g (t + 1) (xe_setI μ (63 + 5 * t) 2 (-1)) (by omega) (by omega) hR (by rw [xu_In (by omega)]; exact h77) (fun i hi => by
      by_cases e : i = t
      · subst e; rw [xu_I]
      · rw [xu_In (by omega)]; exact h i (by omega))
    refine ⟨μ', ?_, a2, zfG_t (zfG_I (by omega)) a3, a4⟩
    show zD97_61_b (zD97_61 g) _ (nI t) μ = _
    unfold zD97_61_b
    rw [h77, if_neg (nI_ge (by omega) (by omega)), zx_nI ht24 (by decide), hR _ _ _ (zR_16 t ht24), zs_some, zo_in (zS_task t ht24) (by omega), hR _ _ _ (zR_62 t ht24).2, zs_some, zo_in (zS_62 t ht24).2 (by omega)]
    simp only [zq_m, nI_1]
    exact a1
/-- the class's nodes -/
theorem z97n (hT : T ≤ 24) : ∀ (r g n : Nat) (μ : xe_Mem), n + r = 4 → r < g → zRt μ → xe_I μ 7 7 = nI T → (∃ g, xe_sh μ = xv_S ++ g) → (∀ i, i < n → ∀ j, j < 12 → xe_I μ (197 + i) j = xe_I μ 14 j) → ∃ μ', zD97_35 g v1 (nI n) μ = some (.inl none, μ') ∧ (∀ i, i < 4 → ∀ j, j < 12 → xe_I μ' (197 + i) j = xe_I μ' 14 j) ∧ (∀ j, j < 4 → xe_I μ' 201 j = 0 ∧ xe_I μ' 202 j = -1) ∧ (∀ i, i < T → xe_I μ' (63 + 5 * i) 2 = -1) ∧ zfG (fun a j => (197 ≤ a ∧ a ≤ 202) ∨ (61 ≤ a ∧ a < 181 ∧ (a - 61) % 5 = 2 ∧ j = 2)) zZu zZu μ μ' ∧ xe_sh μ' = xe_sh μ := by
  have hz : zfu = 1000000000 := rfl
  intro r
  induction r with
  | zero =>
    intro g n μ hn hg hR h77 hsh h
    obtain ⟨g, rfl⟩ : ∃ k, g = k + 1 := ⟨g - 1, by omega⟩
    have : n = 4 := by omega
    subst this
    obtain ⟨μ1, a1, a2, a3, a4⟩ := z73 (v := 201) (N := 4) (x := 0) (μ := μ) rfl (by decide) (by decide)
    obtain ⟨μ2, b1, b2, b3, b4⟩ := z73 (v := 202) (N := 4) (x := -1) (μ := μ1) rfl (by decide) (by decide)
    have h7 : xe_I μ2 7 7 = nI T := by rw [(b3 7 (by decide) 7).1 (by omega), (a3 7 (by decide) 7).1 (by omega)]; exact h77
    obtain ⟨μ3, c1, c2, c3, c4⟩ := z97t (v1 := v1) hT T zfu 0 μ2 (by omega) (by omega) (zRt_G (zRt_G hR a3) b3) h7 (fun i hi => by omega)
    have k : ∀ a j, a < 265 → a ≠ 201 → a ≠ 202 → ¬ (61 ≤ a ∧ a < 181) → xe_I μ3 a j = xe_I μ a j := fun a j w1 w2 w3 w4 => by
      rw [(c3 a w1 j).1 (by omega), (b3 a w1 j).1 (by omega), (a3 a w1 j).1 (by omega)]
    refine ⟨μ3, ?_, fun i hi j hj => ?_, fun j hj => ⟨?_, ?_⟩, c2, zfG_t (zfG_t (zfG_w a3 (fun a j w => by omega) (fun _ _ w => w) (fun _ _ w => w)) (zfG_w b3 (fun a j w => by omega) (fun _ _ w => w) (fun _ _ w => w))) (zfG_w c3 (fun a j w => by omega) (fun _ _ w => w) (fun _ _ w => w)), c4.trans (b4.trans a4)⟩
    · show zD97_35_b (zD97_35 g) _ (nI 4) μ = _
      unfold zD97_35_b
      rw [if_pos (by decide), a1, zcV_ok, b1, zcV_ok]
      exact c1
    · rw [k _ j (by omega) (by omega) (by omega) (by omega), k 14 j (by omega) (by omega) (by omega) (by omega)]
      exact h i hi j hj
    · rw [(c3 201 (by decide) j).1 (by omega), (b3 201 (by decide) j).1 (by omega)]
      exact a2 j hj
    · rw [(c3 202 (by decide) j).1 (by omega)]
      exact b2 j hj
  | succ r ih =>
    intro g n μ hn hg hR h77 hsh h
    obtain ⟨g, rfl⟩ : ∃ k, g = k + 1 := ⟨g - 1, by omega⟩
    have hn4 : n < 4 := by omega
    obtain ⟨μ', a1, a2, a3, a4, a5, a6⟩ := ih g (n + 1) (zcp μ (197 + n) 14) (by omega) (by omega) (zRt_G hR zcp_f) (by rw [zcp_o (by omega)]; exact h77) hsh (fun i hi j hj => by
      rw [zcp_o (c := 14) (by omega)]
      by_cases e : i = n
      · subst e; rw [zcp_a hj]
      · rw [zcp_o (by omega)]; exact h i (by omega) j hj)
    refine ⟨μ', ?_, a2, a3, a4, zfG_t (zfG_w zcp_f (fun a j w => by omega) (fun _ _ w => w) (fun _ _ w => w)) a5, a6⟩
    show zD97_35_b (zD97_35 g) _ (nI n) μ = _
    unfold zD97_35_b
    rw [if_neg (show ¬ (4 : Int32) ≤ nI n from nI_ge (b := 4) hn4 (by decide)), zx_nI hn4 (by decide), hR _ _ _ (zR_196 n hn4), zs_some, za_in (zS_197 n hn4) (by omega), zacp (zsh_in hsh (zS_197 n hn4)) (zsh_in hsh rfl), nI_1]
    exact a1
/-- the reference's rows -/
theorem z177d : ∀ (r g t : Nat) (ν : xe_Mem), t + r = 24 → r < g → (∀ i, i < t → xe_I ν 260 i = -1) → ∃ ν', zD177_100 g v1 (nI t) ν = some (.inl none, ν') ∧ (∀ i, i < 24 → xe_I ν' 260 i = -1) ∧ zfG (fun a j => (a = 259 ∨ a = 260) ∧ j = j) zZu zZu ν ν' := by
  intro r
  induction r with
  | zero =>
    intro g t ν ht hg h
    obtain ⟨g, rfl⟩ : ∃ k, g = k + 1 := ⟨g - 1, by omega⟩
    have : t = 24 := by omega
    subst this
    refine ⟨ν, ?_, h, zfG_r⟩
    show zD177_100_b (zD177_100 g) _ (nI 24) ν = _
    unfold zD177_100_b
    rw [if_pos (by decide)]
  | succ r ih =>
    intro g t ν ht hg h
    obtain ⟨g, rfl⟩ : ∃ k, g = k + 1 := ⟨g - 1, by omega⟩
    have ht24 : t < 24 := by omega
    obtain ⟨ν', a1, a2, a3⟩ := ih g (t + 1) (xe_setI (xe_setI ν 259 t 0) 260 t (-1)) (by omega) (by omega) (fun i hi => by
      by_cases e : i = t
      · subst e; rw [xu_I]
      · rw [xu_In (by omega), xu_In (by omega)]; exact h i (by omega))
    refine ⟨ν', ?_, a2, zfG_t (zfG_t (zfG_I (by omega)) (zfG_I (by omega))) a3⟩
    show zD177_100_b (zD177_100 g) _ (nI t) ν = _
    unfold zD177_100_b
    rw [if_neg (show ¬ (24 : Int32) ≤ nI t from nI_ge (b := 24) ht24 (by decide)), zx_nI ht24 (by decide)]
    simp only [zq_m]
    rw [zx_nI ht24 (by decide), nI_1]
    exact a1
theorem z177c : ∀ (r g t : Nat) (ν : xe_Mem), t + r = 4 → r < g → (∀ i, i < t → xe_I ν 257 i = 0 ∧ xe_I ν 258 i = -1) → ∃ ν', zD177_83 g v1 (nI t) ν = some (.inl none, ν') ∧ (∀ i, i < 4 → xe_I ν' 257 i = 0 ∧ xe_I ν' 258 i = -1) ∧ (∀ i, i < 24 → xe_I ν' 260 i = -1) ∧ zfG (fun a j => (257 ≤ a ∧ a ≤ 260) ∧ j = j) zZu zZu ν ν' := by
  have hz : zfu = 1000000000 := rfl
  intro r
  induction r with
  | zero =>
    intro g t ν ht hg h
    obtain ⟨g, rfl⟩ : ∃ k, g = k + 1 := ⟨g - 1, by omega⟩
    have : t = 4 := by omega
    subst this
    obtain ⟨ν', a1, a2, a3⟩ := z177d (v1 := v1) 24 zfu 0 ν (by omega) (by omega) (fun i hi => by omega)
    refine ⟨ν', ?_, fun i hi => ?_, a2, zfG_w a3 (fun a j w => by omega) (fun _ _ w => w) (fun _ _ w => w)⟩
    · show zD177_83_b (zD177_83 g) _ (nI 4) ν = _
      unfold zD177_83_b
      rw [if_pos (by decide)]
      exact a1
    · rw [(a3 257 (by decide) i).1 (by omega), (a3 258 (by decide) i).1 (by omega)]
      exact h i hi
  | succ r ih =>
    intro g t ν ht hg h
    obtain ⟨g, rfl⟩ : ∃ k, g = k + 1 := ⟨g - 1, by omega⟩
    have ht4 : t < 4 := by omega
    obtain ⟨ν', a1, a2, a3, a4⟩ := ih g (t + 1) (xe_setI (xe_setI ν 257 t 0) 258 t (-1)) (by omega) (by omega) (fun i hi => by
      rw [xu_In (b := 257) (by omega)]
      by_cases e : i = t
      · subst e; rw [xu_I, xu_I]; exact ⟨rfl, rfl⟩
      · rw [xu_In (by omega), xu_In (by omega), xu_In (by omega)]; exact h i (by omega))
    refine ⟨ν', ?_, a2, a3, zfG_t (zfG_t (zfG_I (by omega)) (zfG_I (by omega))) a4⟩
    show zD177_83_b (zD177_83 g) _ (nI t) ν = _
    unfold zD177_83_b
    rw [if_neg (show ¬ (4 : Int32) ≤ nI t from nI_ge (b := 4) ht4 (by decide)), zx_nI ht4 (by decide)]
    simp only [zq_m]
    rw [zx_nI ht4 (by decide), nI_1]
    exact a1
theorem z177b : ∀ (r g t : Nat) (ν : xe_Mem), t + r = 48 → r < g → (∀ i, i < t → xe_I ν 256 i = xe_I ν 255 (i % 12)) → ∃ ν', zD177_66 g v1 (nI t) ν = some (.inl none, ν') ∧ (∀ i, i < 48 → xe_I ν' 256 i = xe_I ν' 255 (i % 12)) ∧ (∀ i, i < 4 → xe_I ν' 257 i = 0 ∧ xe_I ν' 258 i = -1) ∧ (∀ i, i < 24 → xe_I ν' 260 i = -1) ∧ zfG (fun a j => (256 ≤ a ∧ a ≤ 260) ∧ j = j) zZu zZu ν ν' := by
  have hz : zfu = 1000000000 := rfl
  intro r
  induction r with
  | zero =>
    intro g t ν ht hg h
    obtain ⟨g, rfl⟩ : ∃ k, g = k + 1 := ⟨g - 1, by omega⟩
    have : t = 48 := by omega
    subst this
    obtain ⟨ν', a1, a2, a3, a4⟩ := z177c (v1 := v1) 4 zfu 0 ν (by omega) (by omega) (fun i hi => by omega)
    refine ⟨ν', ?_, fun i hi => ?_, a2, a3, zfG_w a4 (fun a j w => by omega) (fun _ _ w => w) (fun _ _ w => w)⟩
    · show zD177_66_b (zD177_66 g) _ (nI 48) ν = _
      unfold zD177_66_b
      rw [if_pos (by decide)]
      exact a1
    · rw [(a4 256 (by decide) i).1 (by omega), (a4 255 (by decide) _).1 (by omega)]
      exact h i hi
  | succ r ih =>
    intro g t ν ht hg h
    obtain ⟨g, rfl⟩ : ∃ k, g = k + 1 := ⟨g - 1, by omega⟩
    have ht48 : t < 48 := by omega
    obtain ⟨ν', a1, a2, a3, a4, a5⟩ := ih g (t + 1) (xe_setI ν 256 t (xe_I ν 255 (t % 12))) (by omega) (by omega) (fun i hi => by
      rw [xu_In (b := 255) (by omega)]
      by_cases e : i = t
      · subst e; rw [xu_I]
      · rw [xu_In (by omega)]; exact h i (by omega))
    refine ⟨ν', ?_, a2, a3, a4, zfG_t (zfG_I (by omega)) a5⟩
    show zD177_66_b (zD177_66 g) _ (nI t) ν = _
    unfold zD177_66_b
    rw [if_neg (show ¬ (48 : Int32) ≤ nI t from nI_ge (b := 48) ht48 (by decide)), show (nI t - nI t / 12 * 12 : Int32) = nI (t % 12) from zn_mod (b := 12) (by omega) (by decide), zx_nI (show t % 12 < 12 by omega) (by decide), zx_nI ht48 (by decide)]
    simp only [zq_m, nI_1]
    exact a1
theorem z177a (hP : P ≤ 12) : ∀ (r g t : Nat) (ν : xe_Mem), t + r = 12 → r < g → xe_I ν 203 12 = nI P → (∀ i, i < t → i < P → xe_I ν 255 i = xe_I ν 211 i) → ∃ ν', zD177_45 g v1 (nI t) ν = some (.inl none, ν') ∧ (∀ i, i < P → xe_I ν' 255 i = xe_I ν' 211 i) ∧ (∀ i, i < 48 → xe_I ν' 256 i = xe_I ν' 255 (i % 12)) ∧ (∀ i, i < 4 → xe_I ν' 257 i = 0 ∧ xe_I ν' 258 i = -1) ∧ (∀ i, i < 24 → xe_I ν' 260 i = -1) ∧ zfG (fun a j => (255 ≤ a ∧ a ≤ 260) ∧ j = j) zZu zZu ν ν' := by
  have hz : zfu = 1000000000 := rfl
  intro r
  induction r with
  | zero =>
    intro g t ν ht hg h12 h
    obtain ⟨g, rfl⟩ : ∃ k, g = k + 1 := ⟨g - 1, by omega⟩
    have : t = 12 := by omega
    subst this
    obtain ⟨ν', a1, a2, a3, a4, a5⟩ := z177b (v1 := v1) 48 zfu 0 ν (by omega) (by omega) (fun i hi => by omega)
    refine ⟨ν', ?_, fun i hi => ?_, a2, a3, a4, zfG_w a5 (fun a j w => by omega) (fun _ _ w => w) (fun _ _ w => w)⟩
    · show zD177_45_b (zD177_45 g) _ (nI 12) ν = _
      unfold zD177_45_b
      rw [if_pos (by decide)]
      exact a1
    · rw [(a5 255 (by decide) i).1 (by omega), (a5 211 (by decide) i).1 (by omega)]
      exact h i (by omega) hi
  | succ r ih =>
    intro g t ν ht hg h12 h
    obtain ⟨g, rfl⟩ : ∃ k, g = k + 1 := ⟨g - 1, by omega⟩
    have ht12 : t < 12 := by omega
    have hstep : ∃ x, zD177_45 (g + 1) v1 (nI t) ν = zD177_45 g v1 (nI (t + 1)) (xe_setI ν 255 t x) ∧ (t < P → x = xe_I ν 211 t) := by
      by_cases w : t < P
      · refine ⟨xe_I ν 211 t, ?_, fun _ => rfl⟩
        show zD177_45_b (zD177_45 g) _ (nI t) ν = _
        unfold zD177_45_b zD177_61
        rw [if_neg (show ¬ (12 : Int32) ≤ nI t from nI_ge (b := 12) ht12 (by decide)), h12, if_neg (nI_ge w (by omega)), zx_nI ht12 (by decide), zx_nI ht12 (by decide)]
        simp only [zq_m, nI_1]
      · refine ⟨0, ?_, fun w2 => absurd w2 w⟩
        show zD177_45_b (zD177_45 g) _ (nI t) ν = _
        unfold zD177_45_b zD177_61
        rw [if_neg (show ¬ (12 : Int32) ≤ nI t from nI_ge (b := 12) ht12 (by decide)), h12, if_pos (nI_le (by omega) (by omega)), zx_nI ht12 (by decide)]
        simp only [zq_m, nI_1]
    obtain ⟨x, x1, x2⟩ := hstep
    obtain ⟨ν', a1, a2, a3, a4, a5, a6⟩ := ih g (t + 1) (xe_setI ν 255 t x) (by omega) (by omega) (by rw [xu_In (by omega)]; exact h12) (fun i hi hiP => by
      rw [xu_In (b := 211) (by omega)]
      by_cases e : i = t
      · subst e; rw [xu_I]; exact x2 hiP
      · rw [xu_In (by omega)]; exact h i (by omega) hiP)
    exact ⟨ν', x1.trans a1, a2, a3, a4, a5, zfG_t (zfG_I (by omega)) a6⟩
/-- reset in both -/
theorem z_reset (hA : zAll P S M T Sw Sl F K Z pr μ ν) (hsh : ∃ g, xe_sh μ = xv_S ++ g) (h77 : xe_I μ 7 7 = nI T) (h14 : ∀ j, j < P → xe_I μ 14 j = xe_I ν 211 j) (hm : m < M) : ∃ μ' ν', zD97 (nI m) μ = some (.inl none, μ') ∧ zD177 (nI m) ν = some (.inl none, ν') ∧ zRu P M T F pr μ' ν' ∧ (xe_I μ' 194 1 = 1 ∧ xe_I ν' 203 70 = 1 ∧ xe_I ν' 203 0 = 0) ∧ zfG zXrs zZu zZu μ μ' ∧ zfG zYrs zZu zZu ν ν' := by
  have hz : zfu = 1000000000 := rfl
  obtain ⟨⟨F0, FM, m1, m4, p12, s4, t24⟩, hF, hall⟩ := id hA
  obtain ⟨d, ns, fm, hV⟩ := hall m hm
  obtain ⟨-, -, -, h74, h12, h17⟩ := hV.2.2.2.2
  have hR := hV.1.1
  -- the class
  obtain ⟨μ1, hμ1⟩ : ∃ μ1, μ1 = xe_setI (xe_setI (xe_setI (xe_setI (xe_setI (xe_setI (xe_setI (xe_setI μ 194 1 1) 194 2 (nI m)) 194 3 0) 194 4 0) 194 5 0) 194 6 (-1)) 194 7 0) 194 8 0 := ⟨_, rfl⟩
  have g0 : zfG zXrs zZu zZu μ μ1 := by
    rw [hμ1]
    exact zfG_t (zfG_t (zfG_t (zfG_t (zfG_t (zfG_t (zfG_t (zfG_I (by unfold zXrs; omega)) (zfG_I (by unfold zXrs; omega))) (zfG_I (by unfold zXrs; omega))) (zfG_I (by unfold zXrs; omega))) (zfG_I (by unfold zXrs; omega))) (zfG_I (by unfold zXrs; omega))) (zfG_I (by unfold zXrs; omega))) (zfG_I (by unfold zXrs; omega))
  have hsh1 : xe_sh μ1 = xe_sh μ := by rw [hμ1]
  have i1 : xe_I μ1 194 1 = 1 ∧ xe_I μ1 194 2 = nI m ∧ xe_I μ1 194 3 = 0 ∧ xe_I μ1 194 4 = 0 ∧ xe_I μ1 194 5 = 0 ∧ xe_I μ1 194 6 = -1 ∧ xe_I μ1 194 7 = 0 ∧ xe_I μ1 194 8 = 0 := by
    rw [hμ1]
    refine ⟨?_, ?_, ?_, ?_, ?_, ?_, ?_, xu_I⟩
    · rw [xu_In (by omega), xu_In (by omega), xu_In (by omega), xu_In (by omega), xu_In (by omega), xu_In (by omega), xu_In (by omega), xu_I]
    · rw [xu_In (by omega), xu_In (by omega), xu_In (by omega), xu_In (by omega), xu_In (by omega), xu_In (by omega), xu_I]
    · rw [xu_In (by omega), xu_In (by omega), xu_In (by omega), xu_In (by omega), xu_In (by omega), xu_I]
    · rw [xu_In (by omega), xu_In (by omega), xu_In (by omega), xu_In (by omega), xu_I]
    · rw [xu_In (by omega), xu_In (by omega), xu_In (by omega), xu_I]
    · rw [xu_In (by omega), xu_In (by omega), xu_I]
    · rw [xu_In (by omega), xu_I]
  have hsh1' : ∃ g, xe_sh μ1 = xv_S ++ g := by rw [hsh1]; exact hsh
  have hR1 := zRt_G hR g0
  obtain ⟨μ2, a1, a2, a3, a4, a5, a6⟩ := z97n (v1 := nI m) t24 4 zfu 0 (zcp μ1 195 14) (by omega) (by omega) (zRt_G hR1 zcp_f) (by rw [zcp_o (by omega), (g0 7 (by decide) 7).1 (by unfold zXrs; omega)]; exact h77) hsh1' (fun i hi => by omega)
  have k2 : ∀ a j, a < 265 → ¬ (195 ≤ a ∧ a ≤ 202) → ¬ (61 ≤ a ∧ a < 181) → xe_I μ2 a j = xe_I μ1 a j := fun a j w1 w2 w3 => by
    rw [(a5 a w1 j).1 (by omega), zcp_o (by omega)]
  have h14' : ∀ j, xe_I μ2 14 j = xe_I μ 14 j := fun j => by rw [k2 14 j (by omega) (by omega) (by omega), (g0 14 (by decide) j).1 (by unfold zXrs; omega)]
  have h195 : ∀ j, j < 12 → xe_I μ2 195 j = xe_I μ 14 j := fun j hj => by
    rw [(a5 195 (by decide) j).1 (by omega), zcp_a hj, (g0 14 (by decide) j).1 (by unfold zXrs; omega)]
  -- the reference
  obtain ⟨ν1, hν1⟩ : ∃ ν1, ν1 = xe_setI (xe_setI (xe_setI (xe_setI (xe_setI (xe_setI (xe_setI (xe_setI (xe_setI ν 203 0 0) 203 70 1) 203 71 (nI m)) 203 72 0) 203 73 0) 203 74 0) 203 75 (-1)) 203 76 0) 203 77 0 := ⟨_, rfl⟩
  have r0 : zfG zYrs zZu zZu ν ν1 := by
    rw [hν1]
    exact zfG_t (zfG_t (zfG_t (zfG_t (zfG_t (zfG_t (zfG_t (zfG_t (zfG_I (by unfold zYrs; omega)) (zfG_I (by unfold zYrs; omega))) (zfG_I (by unfold zYrs; omega))) (zfG_I (by unfold zYrs; omega))) (zfG_I (by unfold zYrs; omega))) (zfG_I (by unfold zYrs; omega))) (zfG_I (by unfold zYrs; omega))) (zfG_I (by unfold zYrs; omega))) (zfG_I (by unfold zYrs; omega))
  have j1 : xe_I ν1 203 0 = 0 ∧ xe_I ν1 203 70 = 1 ∧ xe_I ν1 203 71 = nI m ∧ xe_I ν1 203 72 = 0 ∧ xe_I ν1 203 73 = 0 ∧ xe_I ν1 203 74 = 0 ∧ xe_I ν1 203 75 = -1 ∧ xe_I ν1 203 76 = 0 ∧ xe_I ν1 203 77 = 0 := by
    rw [hν1]
    refine ⟨?_, ?_, ?_, ?_, ?_, ?_, ?_, ?_, xu_I⟩
    · rw [xu_In (by omega), xu_In (by omega), xu_In (by omega), xu_In (by omega), xu_In (by omega), xu_In (by omega), xu_In (by omega), xu_In (by omega), xu_I]
    · rw [xu_In (by omega), xu_In (by omega), xu_In (by omega), xu_In (by omega), xu_In (by omega), xu_In (by omega), xu_In (by omega), xu_I]
    · rw [xu_In (by omega), xu_In (by omega), xu_In (by omega), xu_In (by omega), xu_In (by omega), xu_In (by omega), xu_I]
    · rw [xu_In (by omega), xu_In (by omega), xu_In (by omega), xu_In (by omega), xu_In (by omega), xu_I]
    · rw [xu_In (by omega), xu_In (by omega), xu_In (by omega), xu_In (by omega), xu_I]
    · rw [xu_In (by omega), xu_In (by omega), xu_In (by omega), xu_I]
    · rw [xu_In (by omega), xu_In (by omega), xu_I]
    · rw [xu_In (by omega), xu_I]
  have hν12 : xe_I ν1 203 12 = nI P := ((r0 203 (by decide) 12).1 (by unfold zYrs; omega)).trans h12
  obtain ⟨ν2, b1, b2, b3, b4, b5, b6⟩ := z177a (v1 := nI m) p12 12 zfu 0 ν1 (by omega) (by omega) hν12 (fun i hi => by omega)
  have r2 : ∀ a j, a < 265 → ¬ (255 ≤ a ∧ a ≤ 260) → xe_I ν2 a j = xe_I ν1 a j := fun a j w1 w2 => (b6 a w1 j).1 (by omega)
  have h211 : ∀ j, xe_I ν2 211 j = xe_I ν 211 j := fun j => by rw [r2 211 j (by omega) (by omega), (r0 211 (by decide) j).1 (by unfold zYrs; omega)]
  have hsd : zSd P μ2 ν2 := by
    refine ⟨fun p hp => ?_, fun n hn p hp => ?_⟩
    · rw [h195 p (by omega), b2 p hp, h211]
      exact h14 p hp
    · rw [a2 n hn p (by omega), h14', b3 _ (by omega), show (12 * n + p) % 12 = p by omega, b2 p hp, h211]
      exact h14 p hp
  have ci : ∀ j, xe_I μ2 194 j = xe_I μ1 194 j := fun j => k2 194 j (by omega) (by omega) (by omega)
  have ri : ∀ j, xe_I ν2 203 j = xe_I ν1 203 j := fun j => r2 203 j (by omega) (by omega)
  refine ⟨μ2, ν2, ?_, ?_, ⟨m, 0, hm, Nat.zero_le _, ⟨⟨hsd, by rw [a6]; exact hsh1'⟩, ⟨?_, ?_, ?_, ?_⟩, ⟨?_, ?_, ?_, ?_, ?_⟩, fun j hj => ?_, fun j hj => ?_, fun t ht => ⟨?_, ?_⟩⟩, fun w => absurd w (by omega)⟩, ⟨?_, ?_, ?_⟩, ?_, ?_⟩
  · unfold zD97
    simp only [zq_m]
    rw [← hμ1, zacp (zsh_in hsh1' rfl) (zsh_in hsh1' rfl)]
    exact a1
  · unfold zD177
    rw [h17, z132, zcI_ok, show (nI M - 1 : Int32) = nI M - nI 1 from rfl, zn_sub m1, if_pos (z_in32.mpr (by rw [nI_toInt (by omega), nI_toInt (by omega)]; omega)), if_neg (show ¬ (1 : Int32) = 0 by decide)]
    unfold zD177_14
    simp only [zq_m]
    rw [xu_I, if_pos (by decide), ← hν1]
    exact b1
  · rw [ci]; exact i1.2.1
  · rw [ri]; exact j1.2.2.1
  · rw [ci, i1.2.2.1]; rfl
  · rw [ri, j1.2.2.2.1]; rfl
  · rw [ci, ri, i1.2.2.2.1, j1.2.2.2.2.1]
  · rw [ci, ri, i1.2.2.2.2.1, j1.2.2.2.2.2.1]
  · rw [ci, ri, i1.2.2.2.2.2.1, j1.2.2.2.2.2.2.1]
  · rw [ci, ri, i1.2.2.2.2.2.2.1, j1.2.2.2.2.2.2.2.1]
  · rw [ci, ri, i1.2.2.2.2.2.2.2, j1.2.2.2.2.2.2.2.2]
  · rw [(a3 j hj).1, (b4 j hj).1]
  · rw [(a3 j hj).2, (b4 j hj).2]
  · rw [a4 t ht, b5 t (by omega)]
  · exact Or.inl (b5 t (by omega))
  · rw [ci]; exact i1.1
  · rw [ri]; exact j1.2.1
  · rw [ri]; exact j1.1
  · exact zfG_t (zfG_t g0 (zfG_w zcp_f (fun a j w => by unfold zXrs; omega) (fun _ _ w => w) (fun _ _ w => w))) (zfG_w a5 (fun a j w => by unfold zXrs; omega) (fun _ _ w => w) (fun _ _ w => w))
  · exact zfG_t r0 (zfG_w b6 (fun a j w => by unfold zYrs; omega) (fun _ _ w => w) (fun _ _ w => w))
end
