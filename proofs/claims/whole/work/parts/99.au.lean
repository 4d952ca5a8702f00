/-! reading a program -/
def zclr (μ : xe_Mem) : xe_Mem := xe_setI (xe_setI (xe_setI (xe_setI (xe_setI (xe_setI (xe_setI (xe_setI (xe_setI μ 203 12 0) 203 15 0) 203 17 0) 203 22 0) 203 37 0) 203 43 0) 203 47 0) 203 52 0) 203 70 0
theorem z140 {ν : xe_Mem} : zD140 ν = some (.inl none, zclr ν) := rfl
/-- the reference's search for the last switch, from behind, that goes nowhere -/
def zlo (b : Nat → Bool) : Nat → Int32 → Int32
  | 0, v => v
  | k + 1, v => zlo b k (if b k = true then -1 - nI k else v)
theorem zlo_no {b : Nat → Bool} : ∀ k v, (∀ j, j < k → b j = false) → zlo b k v = v := by
  intro k
  induction k with
  | zero => intro v _; rfl
  | succ k ih =>
    intro v h
    unfold zlo
    rw [if_neg (by rw [h k (by omega)]; decide)]
    exact ih v (fun j hj => h j (by omega))
theorem zlo_yes {b : Nat → Bool} {i : Nat} (hb : b i = true) (hl : ∀ j, j < i → b j = false) : ∀ k v, i < k → zlo b k v = -1 - nI i := by
  intro k
  induction k with
  | zero => intro v h; omega
  | succ k ih =>
    intro v h
    unfold zlo
    by_cases e : i = k
    · subst e
      rw [if_pos hb]
      exact zlo_no i _ hl
    · exact ih _ (by omega)
theorem zm1 : ∀ k, k < 16 → ((-1 : Int32) - (-1 - nI k) = nI k ∧ ¬ (0 : Int32) ≤ -1 - nI k ∧ nI k + -1 = nI k - 1) := by decide +kernel
theorem zm2 : ∀ k, k < 16 → (nI (k + 1) - 1 = nI k ∧ ¬ nI k < 0) := by decide +kernel
section
variable {N P S M T Sw Sl L st p m : Nat} {μ ν : xe_Mem}
theorem z68l (h17 : xe_I ν 203 17 = nI M) (hM : M ≤ 4) : ∀ (k g : Nat) (v : Int32), k ≤ 16 → k < g → zD133_68 g 1 v (nI k - 1) ν = zD133_85 1 (zlo (zbad ν M) k v) ν := by
  intro k
  induction k with
  | zero =>
    intro g v hk hg
    obtain ⟨g, rfl⟩ : ∃ k, g = k + 1 := ⟨g - 1, by omega⟩
    show zD133_68_b (zD133_68 g) 1 v (nI 0 - 1) ν = _
    unfold zD133_68_b
    rw [if_pos (show nI 0 - 1 < (0 : Int32) by decide)]
    rfl
  | succ k ih =>
    intro g v hk hg
    obtain ⟨g, rfl⟩ : ∃ k, g = k + 1 := ⟨g - 1, by omega⟩
    obtain ⟨w1, w2⟩ := zm2 k (by omega)
    show zD133_68_b (zD133_68 g) 1 v (nI (k + 1) - 1) ν = _
    unfold zD133_68_b zD133_83
    rw [w1, if_neg w2, if_neg (show ¬ (1 : Int32) = 0 by decide), zx_nI (show k < 16 by omega) (by decide), show zD152 (xe_L ν 234 k) ν = zint (zV ν M k) ν from z152l h17 hM M zfu 0 (by omega) (zfu_lt (by omega)), zcI_ok, (zm1 k (by omega)).2.2]
    simp only [zq_vI]
    unfold zlo
    rcases zV_or (ν := ν) (M := M) (k := k) with ⟨z, z1, z2, z3⟩ | z3
    · have hbf : zbad ν M k = false := by
        unfold zbad
        rw [z3]
        exact decide_eq_false (nI_pos (by omega))
      rw [if_pos (by rw [z3]; exact nI_pos' (by omega)), if_neg (by rw [hbf]; decide)]
      exact ih g v (by omega) (by omega)
    · have hbt : zbad ν M k = true := by
        unfold zbad
        rw [z3]
        rfl
      rw [if_neg (by rw [z3]; decide), if_pos hbt]
      exact ih g _ (by omega) (by omega)
/-- the program that both hold -/
def zPg (N P S M T Sw Sl L : Nat) (μ ν : xe_Mem) : Prop := zKn P S μ ν ∧ zNn μ ν T M ∧ (xe_I μ 8 2 = nI L ∧ xe_I ν 203 37 = nI Sw ∧ xe_I ν 203 43 = nI Sl ∧ L ≤ 3000) ∧ (1 ≤ M ∧ M ≤ 4 ∧ T ≤ 6 * M ∧ Sw ≤ 4 * M ∧ Sl ≤ 120 * M) ∧ ∃ F K Z pr : Nat → Nat, (F 0 = 0 ∧ K 0 = 0 ∧ Z 0 = 0 ∧ F M = T ∧ K M = Sw ∧ Z M = Sl) ∧ ∀ m, m < M → zMd N P S L (L + T + Sw) μ ν m (pr m) (F m) (F (m + 1)) (K m) (K (m + 1)) (Z m) (Z (m + 1)) ∧ ∀ e, e < K (m + 1) - K m → ∃ z, z < M ∧ xe_I μ (24 + 11 * m + e) 4 = nI z ∧ zV ν M (K m + e) = nI z
/-- the aims are found by both, or the same switch goes nowhere -/
theorem z_aims (h : zBM N P S M μ ν p T Sw Sl L st) (hM1 : 1 ≤ M) :
    (∃ μ' pl, zD66 μ = some (.inl none, μ') ∧ zD133_57 1 ν = zD133_98 1 (nI pl) ν ∧ zPg N P S M T Sw Sl L μ' ν ∧ zW μ ν μ' ν ∧ xe_I μ' 181 9 = xe_I μ 181 9) ∨ (∃ μ' tk pl, zD66 μ = some (.inr (xe_sh μ').length, xe_add μ' (.inl 12) 6) ∧ zD133_57 1 ν = zint (1 + nI pl) (zclr ν) ∧ tk < 3001 ∧ xe_I μ' 181 6 = nI tk ∧ xe_I μ' 5 tk = nI pl ∧ pl ≤ 3000 ∧ zW μ ν μ' ν ∧ xe_I μ' 181 9 = xe_I μ 181 9) := by
  obtain ⟨hP, hK, hNn, hC, ⟨m4, f6, k4, s120⟩, hlow, hO⟩ := id h
  obtain ⟨hx, e1, f1, b1, b2, b3, b4, b5, b6⟩ := id hP
  obtain ⟨hR, hNp, ⟨p1, p2', p3⟩, ct, cm, cv⟩ := id hK
  obtain ⟨⟨n1, n2, n3, n4⟩, ⟨n5, n6, n7, n8⟩⟩ := id hNn
  obtain ⟨c1, c2, c3, c4, c5, c6, c7, c8⟩ := id hC
  have hN3 := hx.2.1
  obtain ⟨F, K, Z, pr, ⟨F0, K0, Z0, FM, KM, ZM⟩, hmd, hb⟩ := zOm_b hO
  have hWf : ∀ μ', zfG zXa zZu zZu μ μ' → xe_sh μ' = xe_sh μ → xe_sl μ' = xe_sl μ → zW μ ν μ' ν := fun μ' G q1 q2 => by
    have hlo : ∀ a j, a < 17 → ¬ zXa a j := fun a j ha w => by
      rcases w with w | ⟨m', e', w1, w2, w3, w4⟩ <;> omega
    refine ⟨⟨fun a ha => ⟨funext fun j => (G a (by omega) j).1 (hlo a j (by omega)), funext fun j => (G a (by omega) j).2.1 (fun w => w.2 rfl), funext fun j => (G a (by omega) j).2.2 (fun w => w.2 rfl)⟩, fun t ht => (G _ (by omega) 0).1 (fun w => by rcases w with w | ⟨m', e', w1, w2, w3, w4⟩ <;> omega), fun i hi => (G _ (by omega) 0).1 (fun w => by rcases w with w | ⟨m', e', w1, w2, w3, w4⟩ <;> omega), fun j => (G 194 (by decide) j).1 (fun w => by rcases w with w | ⟨m', e', w1, w2, w3, w4⟩ <;> omega)⟩, zGr_r, q1, q2⟩
  have h9 : ∀ μ', zfG zXa zZu zZu μ μ' → xe_I μ' 181 9 = xe_I μ 181 9 := fun μ' G => (G 181 (by decide) 9).1 (fun w => by rcases w with w | ⟨m', e', w1, w2, w3, w4⟩ <;> omega)
  have htok : ∀ i, i < N → ∃ pl, pl ≤ 3000 ∧ xe_I μ 5 i = nI pl ∧ xe_I ν 208 i = nI pl := fun i hi => by
    obtain ⟨q, pl, -, -, t3⟩ := hx.2.2 i hi
    exact ⟨pl, t3.2.2.2.1, t3.2.1, t3.2.2.1⟩
  obtain ⟨pl0, q0, q1, q2⟩ := htok p b1
  have h57 : zD133_57 1 ν = zD133_85 1 (zlo (zbad ν M) Sw (nI pl0)) ν := by
    unfold zD133_57
    rw [f1, zx_nI (show p < 3002 by omega) (by decide)]
    simp only [zq_vI]
    rw [q2, c7]
    exact z68l n7 m4 Sw zfu (nI pl0) (by omega) (zfu_lt (by omega))
  have hloop : ∀ (r m g : Nat) (μ1 : xe_Mem), m + r = M → r < g → zfG zXa zZu zZu μ μ1 → xe_sh μ1 = xe_sh μ → xe_sl μ1 = xe_sl μ → (∀ i, i < m → ∀ e, e < K (i + 1) - K i → xe_I μ1 (24 + 11 * i + e) 4 = zV ν M (K i + e)) → (∀ k, k < K m → zbad ν M k = false) →
      (∃ μ', zD66_2 g (nI m) μ1 = some (.inl none, μ') ∧ zfG zXa zZu zZu μ μ' ∧ xe_sh μ' = xe_sh μ ∧ xe_sl μ' = xe_sl μ ∧ (∀ i, i < M → ∀ e, e < K (i + 1) - K i → xe_I μ' (24 + 11 * i + e) 4 = zV ν M (K i + e)) ∧ ∀ k, k < Sw → zbad ν M k = false) ∨
      (∃ μ' k tk, k < Sw ∧ zD66_2 g (nI m) μ1 = some (.inr (xe_sh μ').length, xe_add μ' (.inl 12) 6) ∧ zfG zXa zZu zZu μ μ' ∧ xe_sh μ' = xe_sh μ ∧ xe_sl μ' = xe_sl μ ∧ xe_I μ' 181 6 = nI tk ∧ tk < N ∧ xe_I ν 235 k = xe_I μ 5 tk ∧ zbad ν M k = true ∧ ∀ j, j < k → zbad ν M j = false) := by
    intro r
    induction r with
    | zero =>
      intro m g μ1 hr hg G hsh hsl ht hbd
      obtain ⟨g, rfl⟩ : ∃ k, g = k + 1 := ⟨g - 1, by omega⟩
      have : m = M := by omega
      subst this
      refine Or.inl ⟨μ1, ?_, G, hsh, hsl, ht, fun k hk => hbd k (by omega)⟩
      show zD66_2_b (zD66_2 g) (nI m) μ1 = _
      unfold zD66_2_b
      rw [(G 7 (by decide) 6).1 (fun w => by rcases w with w | ⟨m', e', w1, w2, w3, w4⟩ <;> omega), n6, if_pos (nI_le (Nat.le_refl _) (by omega))]
    | succ r ih =>
      intro m g μ1 hr hg G hsh hsl ht hbd
      obtain ⟨g, rfl⟩ : ∃ k, g = k + 1 := ⟨g - 1, by omega⟩
      have hstep : zD66_2 (g + 1) (nI m) μ1 = zD66_9 (zD66_2 g) zfu (nI m) (nI 0) μ1 := by
        show zD66_2_b (zD66_2 g) (nI m) μ1 = _
        unfold zD66_2_b
        rw [(G 7 (by decide) 6).1 (fun w => by rcases w with w | ⟨m', e', w1, w2, w3, w4⟩ <;> omega), n6, if_neg (nI_ge (by omega) (by omega))]
        rfl
      rw [hstep]
      have hd := hmd m (by omega)
      obtain ⟨⟨bb1, bb2, bb3, bb4, bb5, bb6, bb7, bb8⟩, ⟨g1, g2, g3, g4, g5, g6⟩, -, -, het, -⟩ := id hd
      rcases z_aim1 (M := M) (m := m) (n := K (m + 1) - K m) (K0 := K m) (μ := μ) (ν := ν) (c2 := zD66_2 g) (by omega) m4 (by omega) (fun μ' G i hi => ((G 187 (by decide) i).2.1 (fun w => w.2 rfl)).trans (n8 i hi)) n5 hR g4 (fun e he => by
        obtain ⟨ev, a, b, off, tk, hbb, hcs, hrr, hcd, hep, h13, h6, h5'⟩ := het e he
        exact ⟨tk, by omega, hcs.2.2.2, h6.symm⟩) (K (m + 1) - K m) 0 zfu μ1 (by omega) (zfu_lt (by omega)) G hsh hsl with ⟨μ', w1, w2, w3, w4, w5, w6⟩ | ⟨μ', i, tk, w0, w1, w2, w3, w4, w5, w6, w7, w8, w9⟩
      · rw [w1]
        refine ih (m + 1) g μ' (by omega) (by omega) w2 w3 w4 (fun i hi e he => ?_) (fun k hk => ?_)
        · by_cases q : i = m
          · subst q
            exact (w5 e (by omega) he).1
          · have hbi := (hmd i (by omega)).1.2.2.2.2.2.1
            rw [w6 _ (by omega)]
            exact ht i (by omega) e he
        · by_cases q : k < K m
          · exact hbd k q
          · have := (w5 (k - K m) (by omega) (by omega)).2
            rw [show K m + (k - K m) = k by omega] at this
            exact this
      · rw [w2, zthr (by rw [w4]; exact b4) (by rw [w5]; exact b5), zcV_no]
        obtain ⟨ev, a, b, off, tk', hbb, hcs, hrr, hcd, hep, h13, h6, h5'⟩ := het i w1
        have hKs := (hb (m + 1) (by omega)).2.1
        have hbt : tk' < N := hbb.2.2.2.2.2
        refine Or.inr ⟨μ', K m + i, tk', by omega, rfl, w3, w4, w5, w7.trans (w6.symm.trans hcs.2.2.2), hbt, h5', w8, fun j hj => ?_⟩
        by_cases q : j < K m
        · exact hbd j q
        · have := w9 (j - K m) (by omega) (by omega)
          rw [show K m + (j - K m) = j by omega] at this
          exact this
  rcases hloop M 0 zfu μ (by omega) (zfu_lt (by omega)) zfG_r rfl rfl (fun i hi => absurd hi (by omega)) (fun k hk => absurd hk (by omega)) with ⟨μ', w1, w2, w3, w4, w5, w6⟩ | ⟨μ', k, tk, w0, w1, w2, w3, w4, w5, w6, w7, w8, w9⟩
  · refine Or.inl ⟨μ', pl0, w1, ?_, ?_, hWf μ' w2 w3 w4, h9 μ' w2⟩
    · rw [h57, zlo_no Sw _ w6]
      unfold zD133_85
      rw [if_neg (show ¬ (1 : Int32) = 0 by decide), if_pos (nI_pos' (by omega))]
    · have g : ∀ a j, a < 265 → ¬ zXa a j → xe_I μ' a j = xe_I μ a j := fun a j q1 q2 => (w2 a q1 j).1 q2
      have gL : ∀ a j, a < 265 → xe_L μ' a j = xe_L μ a j := fun a j q1 => (w2 a q1 j).2.1 (fun w => w.2 rfl)
      have hn : ∀ a j, (a < 17 ∨ 181 < a) → ¬ zXa a j := fun a j ha w => by
        rcases w with w | ⟨m', e', w1, w2, w3, w4⟩ <;> omega
      refine ⟨⟨zRt_G hR w2, zNp_k hNp (fun e _ => ⟨g 184 e (by decide) (hn _ _ (by omega)), g 185 e (by decide) (hn _ _ (by omega)), gL 183 e (by decide)⟩) ⟨rfl, rfl⟩ ⟨rfl, rfl⟩, ⟨(g 7 4 (by decide) (hn _ _ (by omega))).trans p1, (g 7 5 (by decide) (hn _ _ (by omega))).trans p2', p3⟩, fun t ht => (g _ 0 (by omega) (fun w => by rcases w with w | ⟨m', e', w1, w2, w3, w4⟩ <;> omega)).trans (ct t ht), fun i hi => (g _ 0 (by omega) (fun w => by rcases w with w | ⟨m', e', w1, w2, w3, w4⟩ <;> omega)).trans (cm i hi), fun j hj => (g 14 j (by decide) (hn _ _ (by omega))).trans (cv j hj)⟩, ⟨⟨(g 190 3 (by decide) (hn _ _ (by omega))).trans n1, (g 7 7 (by decide) (hn _ _ (by omega))).trans n2, n3, fun t ht => ⟨(gL 191 t (by decide)).trans (n4 t ht).1, (n4 t ht).2⟩⟩, ⟨(g 186 3 (by decide) (hn _ _ (by omega))).trans n5, (g 7 6 (by decide) (hn _ _ (by omega))).trans n6, n7, fun i hi => (gL 187 i (by decide)).trans (n8 i hi)⟩⟩, ⟨(g 8 2 (by decide) (hn _ _ (by omega))).trans c1, c7, c8, by omega⟩, ⟨hM1, m4, f6, k4, s120⟩, F, K, Z, pr, ⟨F0, K0, Z0, FM, KM, ZM⟩, fun m hm => ⟨zMd_a (hmd m hm) (by omega) (by have := (hb (m + 1) (by omega)).1; omega) w2, fun e he => ?_⟩⟩
      have hbk : zbad ν M (K m + e) = false := w6 _ (by have := (hb (m + 1) (by omega)).2.1; omega)
      rcases zV_or (ν := ν) (M := M) (k := K m + e) with ⟨z, z1, z2, z3⟩ | z3
      · exact ⟨z, z1, (w5 m hm e he).trans z3, z3⟩
      · unfold zbad at hbk
        rw [z3] at hbk
        exact absurd hbk (by decide)
  · obtain ⟨pl, v0, v1, v2⟩ := htok tk w6
    refine Or.inr ⟨μ', tk, pl, w1, ?_, by omega, w5, ?_, v0, hWf μ' w2 w3 w4, h9 μ' w2⟩
    · obtain ⟨z1, z2, z3⟩ := zm1 k (by omega)
      rw [h57, zlo_yes w8 w9 Sw _ w0]
      unfold zD133_85
      rw [if_neg (show ¬ (1 : Int32) = 0 by decide), if_neg z2, z1, zx_nI (show k < 16 by omega) (by decide)]
      simp only [zq_vI]
      unfold zD133_98
      rw [if_pos rfl, z140, zcV_ok, w7, v1]
    · rw [(w2 5 (by decide) tk).1 (fun w => by rcases w with w | ⟨m', e', w1, w2, w3, w4⟩ <;> omega)]
      exact v1
end
