/-! checking a mode: the reference gives slots, both judge -/
def zl2 (b : Nat → Bool) : Nat → Int32 → Int32
  | 0, v => v
  | k + 1, v => zl2 b k (if b k = true then nI (1001 + k) else v)
theorem zl2_no {b : Nat → Bool} : ∀ k v, (∀ j, j < k → b j = false) → zl2 b k v = v := by
  intro k
  induction k with
  | zero => intro v _; rfl
  | succ k ih =>
    intro v h
    unfold zl2
    rw [if_neg (by rw [h k (by omega)]; decide)]
    exact ih v (fun j hj => h j (by omega))
theorem zl2_yes {b : Nat → Bool} {i : Nat} (hb : b i = true) (hl : ∀ j, j < i → b j = false) : ∀ k v, i < k → zl2 b k v = nI (1001 + i) := by
  intro k
  induction k with
  | zero => intro v h; omega
  | succ k ih =>
    intro v h
    unfold zl2
    by_cases e : i = k
    · subst e
      rw [if_pos hb]
      exact zl2_no i _ hl
    · exact ih _ (by omega)
section
variable {d : Nat → Nat → Nat} {f n m per T s s' Sl j tot : Nat} {ns fm q : Nat → Nat} {hs : Nat → Bool} {μ ν ν' : xe_Mem} {o : Option Nat}
theorem zTq_k (h : zTq ν m s s' Sl hs per q) (k1 : ∀ i, xe_I ν' 236 i = xe_I ν 236 i ∧ xe_I ν' 237 i = xe_I ν 237 i) (k2 : xe_I ν' 203 43 = xe_I ν 203 43) : zTq ν' m s s' Sl hs per q := by
  obtain ⟨b, h43, hA, hB, hC, hD⟩ := h
  refine ⟨b, k2.trans h43, fun i h1 h2 => ?_, hB, fun i h1 h2 => ?_, hD⟩
  · rw [(k1 i).1, (k1 i).2]
    exact hA i h1 h2
  · rw [(k1 i).1]
    exact hC i h1 h2
/-- all slots of the mode get their messages -/
theorem z211 (hst0 : zSt m f n per T d ns fm μ ν) (hQ : zTq ν m s s' Sl hs per q) (hF : zFi d f n per ns fm) (h0 : ∀ x, s ≤ x → x < s' → xe_I ν 238 x = -1) (hdone : ∀ i, s ≤ i → i < s' → ∀ t, f ≤ t → t < f + n → ∃ dd, xe_I ν 230 (120 * t + q i / d 0 t) = nI dd ∧ dd ≤ 240 ∧ (zLf d f n (q i) t = 0 ↔ dd ≤ q i)) : ∃ ν', zD171_211 zfu (nI m) (nI tot) (nI 0) ν = zD171_238 zfu (nI m) (nI tot) (nI tot - 1) ν' ∧ zfG (fun a j => a = 238 ∧ s ≤ j ∧ j < s') zZu zZu ν ν' ∧ ∀ x, s ≤ x → x < s' → xe_I ν' 238 x = zms d f n ns fm hs (q x) := by
  obtain ⟨hR, ⟨b1, b2, b3, b4, b5, b6⟩, -, hst, ⟨r1, r2, r3⟩⟩ := id hst0
  obtain ⟨⟨d1, d2, d3⟩, h43, hA, hB, hC, hD⟩ := id hQ
  have hl : ∀ (r g i : Nat) (ν1 : xe_Mem), i + r = Sl → r < g → zfG (fun a j => a = 238 ∧ s ≤ j ∧ j < s') zZu zZu ν ν1 → zMs d f n ns fm q hs s s' i ν1 → ∃ ν', zD171_211 g (nI m) (nI tot) (nI i) ν1 = zD171_238 zfu (nI m) (nI tot) (nI tot - 1) ν' ∧ zfG (fun a j => a = 238 ∧ s ≤ j ∧ j < s') zZu zZu ν ν' ∧ ∀ x, s ≤ x → x < s' → xe_I ν' 238 x = zms d f n ns fm hs (q x) := by
    intro r
    induction r with
    | zero =>
      intro g i ν1 hi hg G hM
      obtain ⟨g, rfl⟩ : ∃ k, g = k + 1 := ⟨g - 1, by omega⟩
      refine ⟨ν1, ?_, G, fun x w1 w2 => by rw [hM x w1 w2, if_pos (by omega)]⟩
      show zD171_211_b (zD171_211 g) (nI m) (nI tot) (nI i) ν1 = _
      unfold zD171_211_b
      rw [(G 203 (by decide) 43).1 (fun w => by omega), h43, if_pos (nI_le (by omega) (by omega))]
      rfl
    | succ r ih =>
      intro g i ν1 hi hg G hM
      obtain ⟨g, rfl⟩ : ∃ k, g = k + 1 := ⟨g - 1, by omega⟩
      have gk : ∀ a j, a < 265 → a ≠ 238 → xe_I ν1 a j = xe_I ν a j := fun a j q1 q2 => (G a q1 j).1 (fun w => q2 w.1)
      show ∃ ν', zD171_211_b (zD171_211 g) (nI m) (nI tot) (nI i) ν1 = _ ∧ _
      unfold zD171_211_b zD171_232
      rw [gk 203 43 (by decide) (by decide), h43, if_neg (nI_ge (by omega) (by omega)), zx_nI (show i < 480 by omega) (by decide), gk 236 i (by decide) (by decide), nI_1]
      by_cases e : s ≤ i ∧ i < s'
      · obtain ⟨a1, a2, a3⟩ := hA i e.1 e.2
        have h175 := z175 (zSt_k2 hst0 zfG_r (zfG_w G (fun a j w => by unfold zX8b; omega) (fun a j w => w) (fun a j w => w))) (zTq_k hQ (fun i => ⟨gk 236 i (by decide) (by decide), gk 237 i (by decide) (by decide)⟩) (gk 203 43 (by decide) (by decide))) hF e.1 e.2 hM (fun t h1 h2 => by
          rw [gk 230 _ (by decide) (by decide)]
          exact hdone i e.1 e.2 t h1 h2)
        rw [if_pos a1, zx_nI (show i < 480 by omega) (by decide), gk 237 i (by decide) (by decide), a3, h175, zcI_ok, zx_nI (show i < 480 by omega) (by decide)]
        simp only [zq_m]
        refine ih g (i + 1) _ (by omega) (by omega) (zfG_t G (zfG_I ⟨rfl, e.1, e.2⟩)) (fun x w1 w2 => ?_)
        by_cases ex : x = i
        · rw [ex, if_pos (by omega)]
          exact xu_I
        · rw [xu_In (by omega), hM x w1 w2]
          by_cases el : x < i
          · rw [if_pos el, if_pos (by omega)]
          · rw [if_neg el, if_neg (by omega)]
      · rw [if_neg (hC i (by omega) e)]
        refine ih g (i + 1) ν1 (by omega) (by omega) G (fun x w1 w2 => ?_)
        rw [hM x w1 w2]
        by_cases el : x < i
        · rw [if_pos el, if_pos (by omega)]
        · rw [if_neg el, if_neg (by omega)]
  exact hl Sl zfu 0 ν (by omega) (zfu_lt (by omega)) zfG_r (fun x w1 w2 => by rw [if_neg (by omega)]; exact h0 x w1 w2)
/-- the reference's verdict over the messages -/
theorem z238 (hQ : zTq ν m s s' Sl hs per q) (hm : m < 4) (h120 : per ≤ 120) {b : Nat → Bool} {v3 : Int32} (hb : ∀ k, k < tot → (b k = true ↔ ∀ x, s ≤ x → x < s' → ¬ xe_I ν 238 x = nI k)) (ht : tot ≤ 1440) : ∃ ν', zD171_238 zfu (nI m) v3 (nI tot - 1) ν = some (.inl none, ν') ∧ zfG (fun a j => a = 215 ∧ j = m) zZu zZu ν ν' ∧ xe_I ν' 215 m = zl2 b tot (xe_I ν 215 m) := by
  have hl : ∀ (k g : Nat) (ν1 : xe_Mem), k ≤ tot → k < g → zfG (fun a j => a = 215 ∧ j = m) zZu zZu ν ν1 → ∃ ν', zD171_238 g (nI m) v3 (nI k - 1) ν1 = some (.inl none, ν') ∧ zfG (fun a j => a = 215 ∧ j = m) zZu zZu ν ν' ∧ xe_I ν' 215 m = zl2 b k (xe_I ν1 215 m) := by
    intro k
    induction k with
    | zero =>
      intro g ν1 hk hg G
      obtain ⟨g, rfl⟩ : ∃ k, g = k + 1 := ⟨g - 1, by omega⟩
      refine ⟨ν1, ?_, G, rfl⟩
      show zD171_238_b (zD171_238 g) (nI m) v3 (nI 0 - 1) ν1 = _
      unfold zD171_238_b
      rw [if_pos (show nI 0 - 1 < (0 : Int32) by decide)]
    | succ k ih =>
      intro g ν1 hk hg G
      obtain ⟨g, rfl⟩ : ∃ k, g = k + 1 := ⟨g - 1, by omega⟩
      have gk : ∀ a j, a < 265 → a ≠ 215 → xe_I ν1 a j = xe_I ν a j := fun a j q1 q2 => (G a q1 j).1 (fun w => q2 w.1)
      have hQ1 := zTq_k hQ (ν' := ν1) (fun i => ⟨gk 236 i (by decide) (by decide), gk 237 i (by decide) (by decide)⟩) (gk 203 43 (by decide) (by decide))
      have hm1 : (nI (k + 1) - 1 : Int32) = nI k := nI_pred k
      have hm2 : (nI k + -1 : Int32) = nI k - 1 := (Int32.sub_eq_add_neg ..).symm
      show ∃ ν', zD171_238_b (zD171_238 g) (nI m) v3 (nI (k + 1) - 1) ν1 = _ ∧ _
      unfold zD171_238_b zD171_252
      rw [hm1, if_neg (nI_pos (by omega)), hm2]
      unfold zl2
      rcases z176 (M := nI k) hQ1 hm h120 with ⟨x, x1, x2, x3, x4, x5⟩ | ⟨x1, x2⟩
      · have hqx := (hQ.2.2.1 x x1 x2).2.1
        have hbf : ¬ b k = true := fun w => (hb k (by omega)).mp w x x1 x2 (by rw [← gk 238 x (by decide) (by decide)]; exact x3)
        rw [x5, zcI_ok, if_pos (nI_pos' (by omega)), if_neg hbf]
        exact ih g ν1 (by omega) (by omega) G
      · have hbt : b k = true := (hb k (by omega)).mpr (fun x w1 w2 => by rw [← gk 238 x (by decide) (by decide)]; exact x1 x w1 w2)
        rw [x2, zcI_ok, if_neg (show ¬ (0 : Int32) ≤ -1 by decide), zx_nI hm (by decide), if_pos hbt, show (1001 + nI k : Int32) = nI (1001 + k) from by rw [show (1001 : Int32) = nI 1001 from rfl, nI_add]]
        simp only [zq_m]
        obtain ⟨ν2, y1, y2, y3⟩ := ih g (xe_setI ν1 215 m (nI (1001 + k))) (by omega) (by omega) (zfG_t G (zfG_I ⟨rfl, rfl⟩))
        refine ⟨ν2, y1, y2, ?_⟩
        rw [y3, xu_I]
  exact hl tot zfu ν (Nat.le_refl _) (zfu_lt (by omega)) zfG_r
/-- the class's verdict over the messages -/
theorem z80l (hR : zRt μ) (hm : m < 4) (h10 : xe_I μ (17 + 11 * m) 10 = nI tot) (ht : tot ≤ 1440) {b : Nat → Bool} (hb : ∀ k, k < tot → (b k = true ↔ ¬ 0 ≤ xe_I μ (23 + 11 * m) k)) (h12 : xe_I μ (17 + 11 * m) 12 = 0) : ∃ μ', zD80 (17 + 11 * m) μ = some (.inl none, μ') ∧ zfG (fun a j => a = 17 + 11 * m ∧ j = 12) zZu zZu μ μ' ∧ xe_I μ' (17 + 11 * m) 12 = zl2 b tot 0 := by
  obtain ⟨q8, q9, q11⟩ := zR_m8 m hm
  obtain ⟨s1, s2, s3⟩ := zS_m8 m hm
  have hl : ∀ r g i : Nat, i + r = tot → r < g → (∀ j, j < i → b j = false) → ∃ μ', zD80_8 g (17 + 11 * m) (nI i) μ = some (.inl none, μ') ∧ zfG (fun a j => a = 17 + 11 * m ∧ j = 12) zZu zZu μ μ' ∧ xe_I μ' (17 + 11 * m) 12 = zl2 b tot 0 := by
    intro r
    induction r with
    | zero =>
      intro g i hi hg h1
      obtain ⟨g, rfl⟩ : ∃ k, g = k + 1 := ⟨g - 1, by omega⟩
      refine ⟨μ, ?_, zfG_r, ?_⟩
      · show zD80_8_b (zD80_8 g) (17 + 11 * m) (nI i) μ = _
        unfold zD80_8_b
        rw [zo_in (zS_mode m hm) (by omega), h10, if_pos (nI_le (by omega) (by omega))]
      · rw [zl2_no tot 0 (fun j hj => h1 j (by omega))]
        exact h12
    | succ r ih =>
      intro g i hi hg h1
      obtain ⟨g, rfl⟩ : ∃ k, g = k + 1 := ⟨g - 1, by omega⟩
      show ∃ μ', zD80_8_b (zD80_8 g) (17 + 11 * m) (nI i) μ = _ ∧ _
      unfold zD80_8_b
      rw [zo_in (zS_mode m hm) (by omega), h10, if_neg (nI_ge (by omega) (by omega)), hR _ _ _ q11, zs_some, za_in s3 (by omega), zx_nI (show i < 1440 by omega) (by decide)]
      cases hbi : b i with
      | true =>
        rw [if_neg ((hb i (by omega)).mp hbi), show (1000 + nI i + 1 : Int32) = nI (1001 + i) from by rw [show (1000 : Int32) = nI 1000 from rfl, nI_add, nI_1]; congr 1; omega]
        exact ⟨_, rfl, zfG_I ⟨rfl, rfl⟩, by rw [zl2_yes hbi h1 tot 0 (by omega)]; exact xu_I⟩
      | false =>
        rw [if_pos (by
          by_cases w : 0 ≤ xe_I μ (23 + 11 * m) i
          · exact w
          · have := (hb i (by omega)).mpr w
            rw [hbi] at this
            cases this), nI_1]
        refine ih g (i + 1) (by omega) (by omega) (fun j hj => ?_)
        by_cases e : j = i
        · rw [e]
          exact hbi
        · exact h1 j (by omega)
  unfold zD80
  rw [zo_in (zS_mode m hm) (by omega), h12, if_pos rfl]
  exact hl tot zfu 0 (by omega) (zfu_lt (by omega)) (fun j hj => absurd hj (by omega))
end
