/-! checking a mode: slots, the reference -/
/-- the slots of a mode, s to s', with their ticks -/
def zTq (ν : xe_Mem) (m s s' Sl : Nat) (hs : Nat → Bool) (per : Nat) (q : Nat → Nat) : Prop := (s ≤ s' ∧ s' ≤ Sl ∧ Sl ≤ 480) ∧ xe_I ν 203 43 = nI Sl ∧ (∀ i, s ≤ i → i < s' → xe_I ν 236 i = nI m ∧ q i < per ∧ xe_I ν 237 i = nI (q i)) ∧ (∀ i i', s ≤ i → i < i' → i' < s' → q i < q i') ∧ (∀ i, i < Sl → ¬ (s ≤ i ∧ i < s') → ¬ xe_I ν 236 i = nI m) ∧ (∀ k, k < per → (hs k = true ↔ ∃ i, s ≤ i ∧ i < s' ∧ q i = k))
section
variable {d : Nat → Nat → Nat} {f n m per T s s' Sl j : Nat} {ns fm q : Nat → Nat} {hs : Nat → Bool} {μ ν : xe_Mem}
/-- the message that the slot at j is given to -/
def zms (d : Nat → Nat → Nat) (f n : Nat) (ns fm : Nat → Nat) (hs : Nat → Bool) (j : Nat) : Int32 := match zgv d f n ns hs j with
  | none => -1
  | some t => nI (zix d f n ns fm hs j t)
/-- the slots below i have their messages, the others none -/
def zMs (d : Nat → Nat → Nat) (f n : Nat) (ns fm q : Nat → Nat) (hs : Nat → Bool) (s s' i : Nat) (ν : xe_Mem) : Prop := ∀ x, s ≤ x → x < s' → xe_I ν 238 x = if x < i then zms d f n ns fm hs (q x) else -1
/-- slotOf -/
theorem z176 (hQ : zTq ν m s s' Sl hs per q) (hm : m < 4) (h120 : per ≤ 120) {M : Int32} : (∃ x, s ≤ x ∧ x < s' ∧ xe_I ν 238 x = M ∧ (∀ y, s ≤ y → y < x → ¬ xe_I ν 238 y = M) ∧ zD176 (nI m) M ν = zint (nI (q x)) ν) ∨ ((∀ x, s ≤ x → x < s' → ¬ xe_I ν 238 x = M) ∧ zD176 (nI m) M ν = zint (-1) ν) := by
  obtain ⟨⟨b1, b2, b3⟩, h43, hA, hB, hC, hD⟩ := hQ
  have hl : ∀ r g i : Nat, i + r = Sl → r < g → (∀ y, s ≤ y → y < s' → y < i → ¬ xe_I ν 238 y = M) → (∃ x, s ≤ x ∧ x < s' ∧ xe_I ν 238 x = M ∧ (∀ y, s ≤ y → y < x → ¬ xe_I ν 238 y = M) ∧ zD176_2 g (nI m) M (nI i) ν = zint (nI (q x)) ν) ∨ ((∀ x, s ≤ x → x < s' → ¬ xe_I ν 238 x = M) ∧ zD176_2 g (nI m) M (nI i) ν = zint (-1) ν) := by
    intro r
    induction r with
    | zero =>
      intro g i hi hg h1
      obtain ⟨g, rfl⟩ : ∃ k, g = k + 1 := ⟨g - 1, by omega⟩
      refine Or.inr ⟨fun x w1 w2 => h1 x w1 w2 (by omega), ?_⟩
      show zD176_2_b (zD176_2 g) (nI m) M (nI i) ν = _
      unfold zD176_2_b
      rw [h43, if_pos (nI_le (by omega) (by omega))]
    | succ r ih =>
      intro g i hi hg h1
      obtain ⟨g, rfl⟩ : ∃ k, g = k + 1 := ⟨g - 1, by omega⟩
      show (∃ x, _ ∧ _ ∧ _ ∧ _ ∧ zD176_2_b (zD176_2 g) (nI m) M (nI i) ν = _) ∨ (_ ∧ zD176_2_b (zD176_2 g) (nI m) M (nI i) ν = _)
      unfold zD176_2_b zD176_23
      rw [h43, if_neg (nI_ge (by omega) (by omega)), zx_nI (show i < 480 by omega) (by decide), nI_1]
      by_cases e : s ≤ i ∧ i < s'
      · obtain ⟨a1, a2, a3⟩ := hA i e.1 e.2
        rw [if_pos a1, zx_nI (show i < 480 by omega) (by decide)]
        by_cases e2 : xe_I ν 238 i = M
        · rw [if_pos e2, zx_nI (show i < 480 by omega) (by decide), a3]
          exact Or.inl ⟨i, e.1, e.2, e2, fun y w1 w2 => h1 y w1 (by omega) w2, rfl⟩
        · rw [if_neg e2]
          refine ih g (i + 1) (by omega) (by omega) (fun y w1 w2 w3 => ?_)
          by_cases ey : y = i
          · rw [ey]
            exact e2
          · exact h1 y w1 w2 (by omega)
      · rw [if_neg (hC i (by omega) e)]
        exact ih g (i + 1) (by omega) (by omega) (fun y w1 w2 w3 => h1 y w1 w2 (by omega))
  exact hl Sl zfu 0 (by omega) (zfu_lt (by omega)) (fun y _ _ h => absurd h (by omega))
theorem zms_n {t : Nat} (h : zgv d f n ns hs j = some t) : zms d f n ns fm hs j = nI (zix d f n ns fm hs j t) := by
  unfold zms
  rw [h]
theorem zms_0 (h : zgv d f n ns hs j = none) : zms d f n ns fm hs j = -1 := by
  unfold zms
  rw [h]
/-- a message of the span at hand: whether the slots below i have it -/
theorem z176k (hQ : zTq ν m s s' Sl hs per q) (hm : m < 4) (h120 : per ≤ 120) (hF : zFi d f n per ns fm) {i t kk : Nat} (hi : s ≤ i) (hi2 : i < s') (hM : zMs d f n ns fm q hs s s' i ν) (h1 : f ≤ t) (h2 : t < f + n) (hkk : kk < ns t) : ∃ x, zD176 (nI m) (nI (fm t + q i / d 0 t * ns t + kk)) ν = zint x ν ∧ (0 ≤ x ↔ kk < zcg d f n ns hs (q i) t) := by
  obtain ⟨-, -, hA, hB, -, hD⟩ := id hQ
  have hqi := (hA i hi hi2).2.1
  have hg := zix_g (fm := fm) (hs := hs) hF h1 h2 hqi hkk
  have hbound : fm t + q i / d 0 t * ns t + kk < 1440 := by
    obtain ⟨q1, q2, q3, q4, q5⟩ := hF.2 t h1 h2
    have hdk : q i / d 0 t < per / d 0 t := by
      have a1 := zdiv_s (a := q i) q3
      have a2 := Nat.div_add_mod per (d 0 t)
      rw [q5, Nat.add_zero, Nat.mul_comm] at a2
      have : q i / d 0 t * d 0 t < per / d 0 t * d 0 t := by omega
      exact Nat.lt_of_mul_lt_mul_right this
    have hmm : (q i / d 0 t + 1) * ns t ≤ per / d 0 t * ns t := Nat.mul_le_mul_right _ hdk
    rw [Nat.add_mul, Nat.one_mul] at hmm
    omega
  rcases z176 (M := nI (fm t + q i / d 0 t * ns t + kk)) hQ hm h120 with ⟨x, x1, x2, x3, x4, x5⟩ | ⟨x1, x2⟩
  · have hqx := (hA x x1 x2).2.1
    refine ⟨_, x5, ⟨fun _ => ?_, fun _ => nI_pos' (by omega)⟩⟩
    rw [hM x x1 x2] at x3
    by_cases e : x < i
    · rw [if_pos e] at x3
      cases hz : zgv d f n ns hs (q x) with
      | none =>
        rw [zms_0 hz] at x3
        exact absurd x3 (fun w => by
          have := nI_pos (n := fm t + q i / d 0 t * ns t + kk) (by omega)
          rw [← w] at this
          exact this (by decide))
      | some t' =>
        obtain ⟨c1, c2, c3⟩ := zix_b (fm := fm) hF hqx hz
        obtain ⟨e1, e2, -⟩ := zgv_in hz
        have hb := (hF.2 t' e1 e2).1
        rw [zms_n hz, zi_eq (by omega) (by omega)] at x3
        exact hg.mp ⟨q x, t', hB x i x1 e hi2, hz, x3⟩
    · rw [if_neg e] at x3
      exact absurd x3 (fun w => by
        have := nI_pos (n := fm t + q i / d 0 t * ns t + kk) (by omega)
        rw [← w] at this
        exact this (by decide))
  · refine ⟨-1, x2, ⟨fun w => absurd w (by decide), fun w => ?_⟩⟩
    obtain ⟨j', t', a1, a2, a3⟩ := hg.mpr w
    obtain ⟨-, -, a4, -⟩ := zgv_in a2
    obtain ⟨x, y1, y2, y3⟩ := (hD j' (by omega)).mp a4
    have hxi : x < i := by
      rcases Nat.lt_trichotomy x i with w | w | w
      · exact w
      · rw [w] at y3
        omega
      · have := hB i x hi w y2
        omega
    refine absurd ?_ (x1 x y1 y2)
    rw [hM x y1 y2, if_pos hxi, y3, zms_n a2, a3]
/-- the best message so far, and its end -/
def zbm (d : Nat → Nat → Nat) (f n : Nat) (ns fm : Nat → Nat) (hs : Nat → Bool) (j : Nat) (b : Option Nat) : Int32 := match b with
  | none => -1
  | some t => nI (zix d f n ns fm hs j t)
def zbe (d : Nat → Nat → Nat) (j : Nat) (b : Option Nat) : Int32 := match b with
  | none => 0
  | some t => nI (zEn d j t)
def zstp (d : Nat → Nat → Nat) (j t : Nat) (b : Option Nat) : Option Nat := match b with
  | none => some t
  | some b => if zEn d j t < zEn d j b then some t else some b
/-- messageFor -/
theorem z175 (hst0 : zSt m f n per T d ns fm μ ν) (hQ : zTq ν m s s' Sl hs per q) (hF : zFi d f n per ns fm) {i : Nat} (hi : s ≤ i) (hi2 : i < s') (hM : zMs d f n ns fm q hs s s' i ν) (hdone : ∀ t, f ≤ t → t < f + n → ∃ dd, xe_I ν 230 (120 * t + q i / d 0 t) = nI dd ∧ dd ≤ 240 ∧ (zLf d f n (q i) t = 0 ↔ dd ≤ q i)) : zD175 (nI m) (nI (q i)) ν = zint (zms d f n ns fm hs (q i)) ν := by
  obtain ⟨hR, ⟨b1, b2, b3, b4, b5, b6⟩, -, hst, ⟨r1, r2, r3⟩⟩ := id hst0
  obtain ⟨-, -, hA, hB, -, hD⟩ := id hQ
  have hqi := (hA i hi hi2).2.1
  have hsq : hs (q i) = true := (hD (q i) hqi).mpr ⟨i, hi, hi2, rfl⟩
  -- the best so far
  have hix : ∀ t, f ≤ t → t < f + n → zcg d f n ns hs (q i) t < ns t → zix d f n ns fm hs (q i) t < 1440 := fun t h1 h2 h3 => by
    obtain ⟨q1, q2, q3, q4, q5⟩ := hF.2 t h1 h2
    have hdk : q i / d 0 t < per / d 0 t := by
      have a1 := zdiv_s (a := q i) q3
      have a2 := Nat.div_add_mod per (d 0 t)
      rw [q5, Nat.add_zero, Nat.mul_comm] at a2
      have : q i / d 0 t * d 0 t < per / d 0 t * d 0 t := by omega
      exact Nat.lt_of_mul_lt_mul_right this
    have hmm : (q i / d 0 t + 1) * ns t ≤ per / d 0 t * ns t := Nat.mul_le_mul_right _ hdk
    unfold zix
    rw [Nat.add_mul, Nat.one_mul] at hmm
    omega
  have hok : zpk (fun t => decide (xe_I ν 218 t = nI m) && (decide (zLf d f n (q i) t = 0) && decide (zcg d f n ns hs (q i) t < ns t))) (zEn d (q i)) 0 T = zgv d f n ns hs (q i) := by
    have hout : ∀ t, t < T → ¬ (f ≤ t ∧ t < f + n) → (decide (xe_I ν 218 t = nI m) && (decide (zLf d f n (q i) t = 0) && decide (zcg d f n ns hs (q i) t < ns t))) = false := fun t h1 h2 => by
      rw [decide_eq_false (r3 t h1 h2), Bool.false_and]
    unfold zgv
    rw [if_pos hsq, show T = f + n + (T - (f + n)) by omega, zpk_e (T - (f + n)) (fun t h1 h2 => hout t (by omega) (by omega)), zpk_a (fun t h1 => hout t (by omega) (by omega)) n]
    refine zpk_c n (fun t h1 h2 => ⟨?_, rfl⟩)
    rw [decide_eq_true (hst t h1 h2).2.2.1, Bool.true_and]
  -- one task
  have hin : ∀ (c6 : Int32 → Int32 → Int32 → Int32 → Int32 → xe_Mem → zO) (t : Nat), f ≤ t → t < f + n → ∀ b0 : Option Nat, (∀ b, b0 = some b → f ≤ b ∧ b < f + n ∧ zcg d f n ns hs (q i) b < ns b) → ∀ r g kk, kk + r = ns t → r < g → zD175_31 c6 g (nI m) (nI (q i)) (zbm d f n ns fm hs (q i) (if zLf d f n (q i) t = 0 ∧ zcg d f n ns hs (q i) t < kk then zstp d (q i) t b0 else b0)) (zbe d (q i) (if zLf d f n (q i) t = 0 ∧ zcg d f n ns hs (q i) t < kk then zstp d (q i) t b0 else b0)) (nI t) (nI (q i / d 0 t)) (nI (ns t)) (nI kk) ν = c6 (nI m) (nI (q i)) (zbm d f n ns fm hs (q i) (if zLf d f n (q i) t = 0 ∧ zcg d f n ns hs (q i) t < ns t then zstp d (q i) t b0 else b0)) (zbe d (q i) (if zLf d f n (q i) t = 0 ∧ zcg d f n ns hs (q i) t < ns t then zstp d (q i) t b0 else b0)) (nI (t + 1)) ν := by
    intro c6 t h1 h2 b0 hb0 r
    obtain ⟨q1, q2, q3, q4, q5⟩ := hF.2 t h1 h2
    obtain ⟨⟨p1, p2, p3, p4, p5⟩, -, ⟨v1, v2, v3, v4, v5, v6, v7⟩⟩ := hst t h1 h2
    obtain ⟨dd, d1, d2, d3⟩ := hdone t h1 h2
    have ht24 : t < 24 := by omega
    have hdv : q i / d 0 t ≤ q i := Nat.div_le_self _ _
    have hen := zEn_lt (d := d) (k := q i) (t := t) (Or.inr trivial) p1 (by omega) (by omega)
    have h173 : zD173 (nI t) (nI (q i)) ν = zint (nI (zEn d (q i) t)) ν := z173 (sp := d 0) ht24 v3 p1 (by omega) (by omega)
    induction r with
    | zero =>
      intro g kk hk hg
      obtain ⟨g, rfl⟩ : ∃ k, g = k + 1 := ⟨g - 1, by omega⟩
      have : kk = ns t := by omega
      subst this
      show zD175_31_b c6 (zD175_31 c6 g) (nI m) (nI (q i)) _ _ (nI t) (nI (q i / d 0 t)) (nI (ns t)) (nI (ns t)) ν = _
      unfold zD175_31_b zD175_84
      rw [if_pos (nI_le (Nat.le_refl _) (by omega)), nI_1]
    | succ r ih =>
      intro g kk hk hg
      obtain ⟨g, rfl⟩ : ∃ k, g = k + 1 := ⟨g - 1, by omega⟩
      have e := ih g (kk + 1) (by omega) (by omega)
      show zD175_31_b c6 (zD175_31 c6 g) (nI m) (nI (q i)) _ _ (nI t) (nI (q i / d 0 t)) (nI (ns t)) (nI kk) ν = _
      unfold zD175_31_b zD175_62 zD175_63 zD175_75 zD175_82
      rw [if_neg (nI_ge (by omega) (by omega)), zx_nI ht24 (by decide), v6, nI_1]
      simp only [zq_vI, if_true]
      rw [zn_mul, nI_add, nI_add, show (120 * nI t + nI (q i / d 0 t) : Int32) = nI (120 * t + q i / d 0 t) from by rw [show (120 : Int32) = nI 120 from rfl, zn_mul, nI_add], zx_nI (show 120 * t + q i / d 0 t < 2880 by omega) (by decide), d1]
      by_cases hz : zLf d f n (q i) t = 0
      · have hdd : dd ≤ q i := d3.mp hz
        rw [if_neg (nI_nlt hdd (by omega))]
        obtain ⟨x, x1, x2⟩ := z176k hQ b1 b6 hF hi hi2 hM h1 h2 (show kk < ns t by omega)
        rw [x1, zcI_ok]
        by_cases hc : kk < zcg d f n ns hs (q i) t
        · rw [if_pos (x2.mpr hc), if_neg (fun w => absurd w.2 (by omega))]
          rw [if_neg (fun w => absurd w.2 (by omega))] at e
          exact e
        · rw [if_neg (fun w => hc (x2.mp w)), if_neg (show ¬ (1 : Int32) = 0 by decide), h173]
          simp only [zcI_ok]
          rw [if_pos ⟨hz, by omega⟩] at e
          by_cases hkc : zcg d f n ns hs (q i) t < kk
          · rw [if_pos (show zLf d f n (q i) t = 0 ∧ zcg d f n ns hs (q i) t < kk from ⟨hz, hkc⟩)]
            -- a later message of the same task
            have hst2 : ∃ b, zstp d (q i) t b0 = some b ∧ ¬ zEn d (q i) t < zEn d (q i) b ∧ f ≤ b ∧ b < f + n ∧ zcg d f n ns hs (q i) b < ns b := by
              cases hb : b0 with
              | none => exact ⟨t, rfl, Nat.lt_irrefl _, h1, h2, by omega⟩
              | some b =>
                obtain ⟨w1, w2, w3⟩ := hb0 b hb
                by_cases hlt : zEn d (q i) t < zEn d (q i) b
                · exact ⟨t, if_pos hlt, Nat.lt_irrefl _, h1, h2, by omega⟩
                · exact ⟨b, if_neg hlt, hlt, w1, w2, w3⟩
            obtain ⟨b, y1, y2, y3, y4, y5⟩ := hst2
            have hxb := hix b y3 y4 y5
            obtain ⟨⟨p1', p2', -⟩, -⟩ := hst b y3 y4
            have henb := zEn_lt (d := d) (k := q i) (t := b) (Or.inr trivial) p1' (by omega) (by omega)
            rw [y1] at e ⊢
            rw [if_neg (show ¬ zbm d f n ns fm hs (q i) (some b) < 0 from nI_pos (by omega)), if_neg (show ¬ nI (zEn d (q i) t) < zbe d (q i) (some b) from nI_nlt (by omega) (by omega))]
            exact e
          · have hkk : kk = zcg d f n ns hs (q i) t := by omega
            rw [if_neg (show ¬ (zLf d f n (q i) t = 0 ∧ zcg d f n ns hs (q i) t < kk) from fun w => hkc w.2)]
            have hxe : nI (fm t + q i / d 0 t * ns t + kk) = zbm d f n ns fm hs (q i) (some t) := by
              rw [hkk]
              rfl
            cases hb : b0 with
            | none =>
              rw [hb] at e
              rw [if_pos (show zbm d f n ns fm hs (q i) none < 0 by show (-1 : Int32) < 0; decide), hxe]
              exact e
            | some b =>
              obtain ⟨y3, y4, y5⟩ := hb0 b hb
              have hxb := hix b y3 y4 y5
              obtain ⟨⟨p1', p2', -⟩, -⟩ := hst b y3 y4
              have henb := zEn_lt (d := d) (k := q i) (t := b) (Or.inr trivial) p1' (by omega) (by omega)
              rw [hb] at e
              rw [if_neg (show ¬ zbm d f n ns fm hs (q i) (some b) < 0 from nI_pos (by omega))]
              by_cases hlt : zEn d (q i) t < zEn d (q i) b
              · rw [if_pos (show nI (zEn d (q i) t) < zbe d (q i) (some b) from nI_lt hlt (by omega)), hxe, h173, zcI_ok]
                rw [show zstp d (q i) t (some b) = some t from if_pos hlt] at e ⊢
                exact e
              · rw [if_neg (show ¬ nI (zEn d (q i) t) < zbe d (q i) (some b) from nI_nlt (by omega) (by omega))]
                rw [show zstp d (q i) t (some b) = some b from if_neg hlt] at e ⊢
                exact e
      · have hdd : q i < dd := by
          rcases Nat.lt_or_ge (q i) dd with w | w
          · exact w
          · exact absurd (d3.mpr w) hz
        rw [if_pos (nI_lt hdd (by omega)), if_neg (fun w => hz w.1)]
        rw [if_neg (fun w => hz w.1)] at e
        exact e
  -- all tasks
  have hl : ∀ r g k : Nat, k + r = T → r < g → zD175_6 g (nI m) (nI (q i)) (zbm d f n ns fm hs (q i) (zpk (fun t => decide (xe_I ν 218 t = nI m) && (decide (zLf d f n (q i) t = 0) && decide (zcg d f n ns hs (q i) t < ns t))) (zEn d (q i)) 0 k)) (zbe d (q i) (zpk (fun t => decide (xe_I ν 218 t = nI m) && (decide (zLf d f n (q i) t = 0) && decide (zcg d f n ns hs (q i) t < ns t))) (zEn d (q i)) 0 k)) (nI k) ν = zint (zbm d f n ns fm hs (q i) (zpk (fun t => decide (xe_I ν 218 t = nI m) && (decide (zLf d f n (q i) t = 0) && decide (zcg d f n ns hs (q i) t < ns t))) (zEn d (q i)) 0 T)) ν := by
    intro r
    induction r with
    | zero =>
      intro g k hk hg
      obtain ⟨g, rfl⟩ : ∃ k, g = k + 1 := ⟨g - 1, by omega⟩
      have : k = T := by omega
      subst this
      show zD175_6_b (zD175_6 g) (nI m) (nI (q i)) _ _ (nI k) ν = _
      unfold zD175_6_b
      rw [r1, if_pos (nI_le (Nat.le_refl _) (by omega))]
    | succ r ih =>
      intro g k hk hg
      obtain ⟨g, rfl⟩ : ∃ k, g = k + 1 := ⟨g - 1, by omega⟩
      have hk24 : k < 24 := by omega
      have e := ih g (k + 1) (by omega) (by omega)
      show zD175_6_b (zD175_6 g) (nI m) (nI (q i)) _ _ (nI k) ν = _
      unfold zD175_6_b zD175_84
      rw [r1, if_neg (nI_ge (by omega) (by omega)), zx_nI hk24 (by decide), nI_1]
      by_cases h0 : xe_I ν 218 k = nI m
      · have hkin : f ≤ k ∧ k < f + n := by
          by_cases w : f ≤ k ∧ k < f + n
          · exact w
          · exact absurd h0 (r3 k (by omega) w)
        obtain ⟨⟨p1, p2, p3, p4, p5⟩, -, ⟨v1, v2, v3, v4, v5, v6, v7⟩⟩ := hst k hkin.1 hkin.2
        have hnk := (hF.2 k hkin.1 hkin.2).2.1
        rw [if_pos h0, zx_nI hk24 (by decide), v3, zd_ok (nI_ne0 p1 (by omega)), zn_div (by omega) (by omega)]
        simp only [zq_vI]
        rw [zx_nI hk24 (by decide), v5]
        have hone := hin (zD175_6 g) k hkin.1 hkin.2 (zpk (fun t => decide (xe_I ν 218 t = nI m) && (decide (zLf d f n (q i) t = 0) && decide (zcg d f n ns hs (q i) t < ns t))) (zEn d (q i)) 0 k) (fun b hb => by
          obtain ⟨w1, w2, w3⟩ := zpk_in k b hb
          rw [Bool.and_eq_true, Bool.and_eq_true] at w3
          have hbm := of_decide_eq_true w3.1
          have hbin : f ≤ b ∧ b < f + n := by
            by_cases w : f ≤ b ∧ b < f + n
            · exact w
            · exact absurd hbm (r3 b (by omega) w)
          exact ⟨hbin.1, hbin.2, of_decide_eq_true w3.2.2⟩) (ns k) zfu 0 (by omega) (zfu_lt (by omega))
        rw [if_neg (fun w => absurd w.2 (by omega))] at hone
        rw [show zD175_31 (zD175_6 g) zfu (nI m) (nI (q i)) _ _ (nI k) (nI (q i / d 0 k)) (nI (ns k)) 0 ν = _ from hone]
        rw [zpk_s, Nat.zero_add] at e
        by_cases hok2 : zLf d f n (q i) k = 0 ∧ zcg d f n ns hs (q i) k < ns k
        · rw [if_pos (by rw [decide_eq_true h0, decide_eq_true hok2.1, decide_eq_true hok2.2]; rfl)] at e
          rw [if_pos hok2]
          exact e
        · rw [if_neg (fun w => hok2 (by
            rw [Bool.and_eq_true, Bool.and_eq_true] at w
            exact ⟨of_decide_eq_true w.2.1, of_decide_eq_true w.2.2⟩))] at e
          rw [if_neg hok2]
          exact e
      · rw [if_neg h0]
        rw [zpk_s, Nat.zero_add, if_neg (by rw [decide_eq_false h0, Bool.false_and]; decide)] at e
        exact e
  have := hl T zfu 0 (by omega) (zfu_lt (by omega))
  rw [hok] at this
  exact this
end
