/-! the aims of switches -/
/-- what the class's aimSwitches may change -/
def zXa (a j : Nat) : Prop := (a = 181 ∧ j = 6) ∨ (∃ m e, m < 4 ∧ e < 4 ∧ a = 24 + 11 * m + e ∧ j = 4)
/-- where the k-th switch goes: a mode, or none -/
def zV (ν : xe_Mem) (M k : Nat) : Int32 := zff (fun i => decide (xe_L ν 213 i = xe_L ν 234 k)) M 0
def zbad (ν : xe_Mem) (M k : Nat) : Bool := decide (zV ν M k < 0)
theorem zff_c {E E' : Nat → Bool} {s : Nat} (h : ∀ e, e < s → E e = E' e) : ∀ m i, i + m ≤ s → zff E m i = zff E' m i := by
  intro m
  induction m with
  | zero => intro i _; rfl
  | succ m ih =>
    intro i hi
    unfold zff
    rw [h i (by omega), ih (i + 1) (by omega)]
theorem zff_or {E : Nat → Bool} {s : Nat} : (∃ z, z < s ∧ E z = true ∧ zff E s 0 = nI z) ∨ zff E s 0 = -1 := by
  by_cases h : ∃ e, e < s ∧ E e = true
  · obtain ⟨e, e1, e2⟩ := h
    exact Or.inl (zff_ge e1 e2)
  · refine Or.inr (zff_no s 0 (fun y _ hy => ?_))
    cases hE : E y with
    | false => rfl
    | true => exact absurd ⟨y, by omega, hE⟩ h
section
variable {N P S L U M T Sw Sl m per f f' k k' s s' e : Nat} {μ ν μ' : xe_Mem}
theorem zV_or : (∃ z, z < M ∧ xe_L ν 213 z = xe_L ν 234 k ∧ zV ν M k = nI z) ∨ zV ν M k = -1 := by
  rcases zff_or (E := fun i => decide (xe_L ν 213 i = xe_L ν 234 k)) (s := M) with ⟨z, z1, z2, z3⟩ | h
  · exact Or.inl ⟨z, z1, of_decide_eq_true z2, z3⟩
  · exact Or.inr h
theorem zEt_a (h : zEt N P S L U μ ν m per k e) (hx : ∀ j, j < 4 → xe_I μ' (24 + 11 * m + e) j = xe_I μ (24 + 11 * m + e) j) (h9 : ∀ i, xe_I μ' 9 i = xe_I μ 9 i ∧ xe_I μ' 10 i = xe_I μ 10 i) (h5 : ∀ i, xe_I μ' 5 i = xe_I μ 5 i ∧ xe_L μ' 6 i = xe_L μ 6 i) : zEt N P S L U μ' ν m per k e := by
  obtain ⟨ev, a, b, off, tk, hb, hcs, hr, hcd, hep, h13, h6, h5'⟩ := h
  refine ⟨ev, a, b, off, tk, hb, ?_, hr, zCd_c hcd (fun i _ => h9 i) (fun _ _ => ⟨rfl, rfl⟩), ?_, h13, ?_, ?_⟩
  · rw [hx 0 (by omega), hx 1 (by omega), hx 2 (by omega), hx 3 (by omega)]
    exact hcs
  · obtain ⟨n, hn⟩ := hep
    exact ⟨n, zEy_c n a b hn (fun i _ _ => h9 i)⟩
  · rw [(h5 tk).2]
    exact h6
  · rw [(h5 tk).1]
    exact h5'
theorem zMd_a (h : zMd N P S L U μ ν m per f f' k k' s s') (hm : m < 4) (hf : f' ≤ 24) (G : zfG zXa zZu zZu μ μ') : zMd N P S L U μ' ν m per f f' k k' s s' := by
  obtain ⟨⟨b1, b2, b3, b4, b5, b6, b7, b8⟩, ⟨h1, h2, h3, h4, h5, h6⟩, hr, ht, he, hs⟩ := h
  have g : ∀ a j, a < 265 → ¬ zXa a j → xe_I μ' a j = xe_I μ a j := fun a j q1 q2 => (G a q1 j).1 q2
  have gL : ∀ a j, a < 265 → xe_L μ' a j = xe_L μ a j := fun a j q1 => (G a q1 j).2.1 (fun w => w.2 rfl)
  have n17 : ∀ j, ¬ zXa (17 + 11 * m) j := fun j w => by
    rcases w with w | ⟨m', e', w1, w2, w3, w4⟩ <;> omega
  have hlo : ∀ a j, a < 17 → ¬ zXa a j := fun a j ha w => by
    rcases w with w | ⟨m', e', w1, w2, w3, w4⟩ <;> omega
  have h9 : ∀ i, xe_I μ' 9 i = xe_I μ 9 i ∧ xe_I μ' 10 i = xe_I μ 10 i := fun i => ⟨g 9 i (by decide) (hlo 9 i (by decide)), g 10 i (by decide) (hlo 10 i (by decide))⟩
  have hc : zKc 0 24 L μ μ' := by
    refine ⟨fun a j q => ?_, fun a j q => gL a j (by unfold zPL at q; omega), fun a j q => ?_⟩
    · rcases q with ⟨i, h1, h2⟩ | ⟨i, h1, h2⟩ | h1 | h1
      · omega
      · refine g a j (by omega) (fun w => ?_)
        rcases w with w | ⟨m', e', w1, w2, w3, w4⟩ <;> omega
      · exact g a j (by omega) (hlo a j (by omega))
      · exact g a j (by omega) (hlo a j (by omega))
    · obtain ⟨i, h1, h2⟩ := q
      omega
  have hd : zKd 0 24 0 0 U ν ν := ⟨fun _ _ _ => rfl, fun _ _ _ => rfl⟩
  refine ⟨⟨b1, b2, b3, b4, b5, b6, b7, b8⟩, ⟨(g _ 1 (by omega) (n17 1)).trans h1, h2, (g _ 3 (by omega) (n17 3)).trans h3, (g _ 6 (by omega) (n17 6)).trans h4, (g _ 10 (by omega) (n17 10)).trans h5, (gL 187 m (by decide)).trans h6⟩, fun i hi => ?_, fun t q1 q2 => zTs_k (ht t q1 q2) (by omega) hc hd (Nat.le_refl _) (Nat.le_refl _), fun i hi => zEt_a (he i hi) (fun j hj => g _ j (by omega) (fun w => by rcases w with w | ⟨m', e', w1, w2, w3, w4⟩ <;> omega)) h9 (fun i => ⟨g 5 i (by decide) (hlo 5 i (by decide)), gL 6 i (by decide)⟩), ?_⟩
  · rw [(G (18 + 11 * m) (by omega) i).2.2 (fun w => w.2 rfl)]
    exact hr i hi
  · refine ⟨hs.1, hs.2.1, fun k hk => ?_⟩
    rw [g (20 + 11 * m) k (by omega) (fun w => by rcases w with w | ⟨m', e', w1, w2, w3, w4⟩ <;> omega)]
    exact hs.2.2 k hk
end
/-! the class's loop -/
section
variable {N P S L U M m n K0 : Nat} {μ ν : xe_Mem} {c2 : Int32 → xe_Mem → zO}
/-- one mode's switches: all aimed, or the first that can't be -/
theorem z_aim1 (hm : m < M) (hM : M ≤ 4) (hn : n ≤ 4) (hnames : ∀ (μ' : xe_Mem), zfG zXa zZu zZu μ μ' → ∀ i, i < M → xe_L μ' 187 i = xe_L ν 213 i) (h186 : xe_I μ 186 3 = nI M) (hR : zRt μ) (h6 : xe_I μ (17 + 11 * m) 6 = nI n) (htk : ∀ e, e < n → ∃ tk, tk < 3001 ∧ xe_I μ (24 + 11 * m + e) 3 = nI tk ∧ xe_L μ 6 tk = xe_L ν 234 (K0 + e)) : ∀ (r e g : Nat) (μ1 : xe_Mem), e + r = n → r < g → zfG zXa zZu zZu μ μ1 → xe_sh μ1 = xe_sh μ → xe_sl μ1 = xe_sl μ →
    (∃ μ', zD66_9 c2 g (nI m) (nI e) μ1 = c2 (nI (m + 1)) μ' ∧ zfG zXa zZu zZu μ μ' ∧ xe_sh μ' = xe_sh μ ∧ xe_sl μ' = xe_sl μ ∧ (∀ i, e ≤ i → i < n → xe_I μ' (24 + 11 * m + i) 4 = zV ν M (K0 + i) ∧ zbad ν M (K0 + i) = false) ∧ (∀ a, a < 24 + 11 * m + e → xe_I μ' a 4 = xe_I μ1 a 4)) ∨
    (∃ μ' i tk, e ≤ i ∧ i < n ∧ zD66_9 c2 g (nI m) (nI e) μ1 = zq_cV (zq_thr 12 μ') (fun m33 => zD66_9 c2 (g - (i - e) - 1) (nI m) (nI i + 1) m33) ∧ zfG zXa zZu zZu μ μ' ∧ xe_sh μ' = xe_sh μ ∧ xe_sl μ' = xe_sl μ ∧ xe_I μ (24 + 11 * m + i) 3 = nI tk ∧ xe_I μ' 181 6 = nI tk ∧ zbad ν M (K0 + i) = true ∧ ∀ j, e ≤ j → j < i → zbad ν M (K0 + j) = false) := by
  intro r
  induction r with
  | zero =>
    intro e g μ1 hr hg G hsh hsl
    obtain ⟨g, rfl⟩ : ∃ k, g = k + 1 := ⟨g - 1, by omega⟩
    refine Or.inl ⟨μ1, ?_, G, hsh, hsl, fun i h1 h2 => absurd h1 (by omega), fun _ _ => rfl⟩
    show zD66_9_b c2 (zD66_9 c2 g) (nI m) (nI e) μ1 = _
    unfold zD66_9_b
    rw [zx_nI (show m < 4 by omega) (by decide), zRt_G hR G 15 m _ (zR_15 m (by omega)), zs_some, zo_in (zS_mode m (by omega)) (by omega), (G (17 + 11 * m) (by omega) 6).1 (fun w => by rcases w with w | ⟨m', e', w1, w2, w3, w4⟩ <;> omega), h6, if_pos (nI_le (by omega) (by omega)), nI_1]
  | succ r ih =>
    intro e g μ1 hr hg G hsh hsl
    obtain ⟨g, rfl⟩ : ∃ k, g = k + 1 := ⟨g - 1, by omega⟩
    obtain ⟨tk, k1, k2, k3⟩ := htk e (by omega)
    have hR1 := zRt_G hR G
    have k2' : xe_I μ1 (24 + 11 * m + e) 3 = nI tk := ((G (24 + 11 * m + e) (by omega) 3).1 (fun w => by rcases w with w | ⟨m', e', w1, w2, w3, w4⟩ <;> omega)).trans k2
    have hna : zNa 186 4 := Or.inr (Or.inl ⟨rfl, rfl⟩)
    have hV : zD39 186 (xe_L (xe_setI μ1 181 6 (nI tk)) 6 tk) (xe_setI μ1 181 6 (nI tk)) = zint (zV ν M (K0 + e)) (xe_setI μ1 181 6 (nI tk)) := by
      rw [z39n hna (zRt_sI hR1) (s := M) ((xu_In (by omega)).trans (((G 186 (by decide) 3).1 (fun w => by rcases w with w | ⟨m', e', w1, w2, w3, w4⟩ <;> omega)).trans h186)) (by omega)]
      unfold zV
      rw [zff_c (E' := fun i => decide (xe_L ν 213 i = xe_L ν 234 (K0 + e))) (s := M) (fun i hi => ?_) M 0 (by omega)]
      show decide (xe_L μ1 187 i = xe_L μ1 6 tk) = _
      rw [hnames μ1 G i hi, (G 6 (by decide) tk).2.1 (fun w => w.2 rfl), k3]
    have hstep : zD66_9 c2 (g + 1) (nI m) (nI e) μ1 = if 0 ≤ zV ν M (K0 + e) then zD66_47 (zD66_9 c2 g) (nI m) (nI e) 0 (xe_setI (xe_setI μ1 181 6 (nI tk)) (24 + 11 * m + e) 4 (zV ν M (K0 + e))) else zD66_47 (zD66_9 c2 g) (nI m) (nI e) 1 (xe_setI (xe_setI μ1 181 6 (nI tk)) (24 + 11 * m + e) 4 (zV ν M (K0 + e))) := by
      show zD66_9_b c2 (zD66_9 c2 g) (nI m) (nI e) μ1 = _
      unfold zD66_9_b
      rw [zx_nI (show m < 4 by omega) (by decide), hR1 15 m _ (zR_15 m (by omega)), zs_some, zo_in (zS_mode m (by omega)) (by omega), (G (17 + 11 * m) (by omega) 6).1 (fun w => by rcases w with w | ⟨m', e', w1, w2, w3, w4⟩ <;> omega), h6, if_neg (nI_ge (by omega) (by omega)), zx_nI (show m < 4 by omega) (by decide), hR1 15 m _ (zR_15 m (by omega)), zs_some, zo_in (zS_mode m (by omega)) (by omega), hR1 _ _ _ (zR_m m (by omega)).2.1, zs_some, za_in (zS_18 m (by omega)).2.1 (by omega), zx_nI (show e < 4 by omega) (by decide), hR1 _ _ _ (zR_x m (by omega) e (by omega)), zs_some, zo_in (zS_x m (by omega) e (by omega)) (by omega), k2']
      simp only [zq_m]
      rw [show xe_I (xe_setI μ1 181 6 (nI tk)) 181 6 = nI tk from xu_I, zx_nI k1 (by decide), hV, zcI_ok, show xe_I (xe_setI (xe_setI μ1 181 6 (nI tk)) (24 + 11 * m + e) 4 (zV ν M (K0 + e))) (24 + 11 * m + e) 4 = zV ν M (K0 + e) from xu_I]
    have G2 : zfG zXa zZu zZu μ (xe_setI (xe_setI μ1 181 6 (nI tk)) (24 + 11 * m + e) 4 (zV ν M (K0 + e))) := zfG_t G (zfG_t (zfG_I (Or.inl ⟨rfl, rfl⟩)) (zfG_I (Or.inr ⟨m, e, by omega, by omega, rfl, rfl⟩)))
    rw [hstep]
    rcases zV_or (ν := ν) (M := M) (k := K0 + e) with ⟨z, z1, z2, z3⟩ | z3
    · have hbf : zbad ν M (K0 + e) = false := by
        unfold zbad
        rw [z3]
        exact decide_eq_false (nI_pos (by omega))
      rw [if_pos (by rw [z3]; exact nI_pos' (by omega))]
      unfold zD66_47
      rw [z37_0, zcV_ok, nI_1]
      rcases ih (e + 1) g _ (by omega) (by omega) G2 hsh hsl with ⟨μ', w1, w2, w3, w4, w5, w6⟩ | ⟨μ', i, tk', w0, w1, w2, w3, w4, w5, w6, w7, w8, w9⟩
      · refine Or.inl ⟨μ', w1, w2, w3, w4, fun i q1 q2 => ?_, fun a ha => ?_⟩
        · by_cases q : i = e
          · subst q
            exact ⟨(w6 _ (by omega)).trans xu_I, hbf⟩
          · exact w5 i (by omega) q2
        · rw [w6 a (by omega), xu_In (by omega), xu_In (by omega)]
      · refine Or.inr ⟨μ', i, tk', by omega, w1, ?_, w3, w4, w5, w6, w7, w8, fun j q1 q2 => ?_⟩
        · rw [w2, show g - (i - (e + 1)) - 1 = g + 1 - (i - e) - 1 by omega]
        · by_cases q : j = e
          · rw [q]
            exact hbf
          · exact w9 j (by omega) q2
    · have hbt : zbad ν M (K0 + e) = true := by
        unfold zbad
        rw [z3]
        rfl
      rw [if_neg (by rw [z3]; decide)]
      refine Or.inr ⟨_, e, tk, Nat.le_refl _, by omega, ?_, G2, hsh, hsl, k2, (xu_In (by omega)).trans xu_I, hbt, fun j q1 q2 => absurd q1 (by omega)⟩
      unfold zD66_47
      rw [z37_1, show g + 1 - (e - e) - 1 = g by omega]
end
