/-! checking a mode: spans end and begin -/
def zov (o : Option Nat) : Int32 := match o with
  | none => 0
  | some t => nI (t + 1)
/-- the first that misses, if none has yet -/
def zof (ms : Nat → Bool) (f : Nat) (o : Option Nat) : Nat → Option Nat
  | 0 => o
  | i + 1 => match zof ms f o i with
    | some x => some x
    | none => if ms (f + i) = true then some (f + i) else none
theorem zof_s {ms : Nat → Bool} {f i : Nat} {o : Option Nat} : zof ms f o (i + 1) = match zof ms f o i with
    | some x => some x
    | none => if ms (f + i) = true then some (f + i) else none := rfl
theorem zof_c {ms ms' : Nat → Bool} {f : Nat} {o : Option Nat} : ∀ i, (∀ t, f ≤ t → t < f + i → ms t = ms' t) → zof ms f o i = zof ms' f o i := by
  intro i
  induction i with
  | zero => intro _; rfl
  | succ i ih =>
    intro h
    rw [zof_s, zof_s, ih (fun t h1 h2 => h t h1 (by omega)), h (f + i) (by omega) (by omega)]
theorem zof_0 {ms : Nat → Bool} {f : Nat} {o : Option Nat} : ∀ i, (∀ t, f ≤ t → t < f + i → ms t = false) → zof ms f o i = o := by
  intro i
  induction i with
  | zero => intro _; rfl
  | succ i ih =>
    intro h
    rw [zof_s, ih (fun t h1 h2 => h t h1 (by omega)), h (f + i) (by omega) (by omega)]
    cases o <;> rfl
theorem zof_a {ms : Nat → Bool} {f : Nat} {o : Option Nat} (h : ∀ t, t < f → ms t = false) : ∀ i, zof ms 0 o (f + i) = zof ms f o i := by
  intro i
  induction i with
  | zero => exact zof_0 f (fun t _ h2 => h t (by omega))
  | succ i ih =>
    show zof ms 0 o (f + i + 1) = _
    rw [zof_s, zof_s, ih, Nat.zero_add]
theorem zof_e {ms : Nat → Bool} {n : Nat} {o : Option Nat} : ∀ r, (∀ t, n ≤ t → t < n + r → ms t = false) → zof ms 0 o (n + r) = zof ms 0 o n := by
  intro r
  induction r with
  | zero => intro _; rfl
  | succ r ih =>
    intro h
    show zof ms 0 o (n + r + 1) = _
    rw [zof_s, ih (fun t h1 h2 => h t h1 (by omega)), Nat.zero_add, h (n + r) (by omega) (by omega)]
    cases zof ms 0 o n <;> rfl
theorem zof_in {ms : Nat → Bool} {f : Nat} {o : Option Nat} : ∀ i, (∀ x, o = some x → x < 24) → f + i ≤ 24 → ∀ x, zof ms f o i = some x → x < 24 := by
  intro i
  induction i with
  | zero => intro h _ x e; exact h x e
  | succ i ih =>
    intro h hf x e
    rw [zof_s] at e
    cases hz : zof ms f o i with
    | some y =>
      rw [hz] at e
      injection e with e
      subst e
      exact ih h (by omega) y hz
    | none =>
      rw [hz] at e
      simp only at e
      split at e
      · injection e with e
        omega
      · cases e
/-- none has missed: none misses here -/
theorem zof_n {ms : Nat → Bool} {f : Nat} {o : Option Nat} : ∀ i, zof ms f o i = none → o = none ∧ ∀ t, f ≤ t → t < f + i → ms t = false := by
  intro i
  induction i with
  | zero => intro h; exact ⟨h, fun t h1 h2 => absurd h1 (by omega)⟩
  | succ i ih =>
    intro h
    rw [zof_s] at h
    cases hz : zof ms f o i with
    | some y => rw [hz] at h; cases h
    | none =>
      rw [hz] at h
      simp only at h
      obtain ⟨h1, h2⟩ := ih hz
      refine ⟨h1, fun t q1 q2 => ?_⟩
      by_cases e : t = f + i
      · rw [e]
        split at h
        · cases h
        · rename_i hne
          cases hm : ms (f + i) with
          | false => rfl
          | true => exact absurd hm hne
      · exact h2 t q1 (by omega)
theorem zEn_1 {d : Nat → Nat → Nat} {k t : Nat} (h : 1 ≤ d 0 t) : zEn d k t = k + 1 ↔ (k + 1) % d 0 t = 0 := by
  unfold zEn
  have hs := zdiv_s (a := k) h
  constructor
  · intro e
    rw [← e]
    exact Nat.mul_mod_left _ _
  · intro e
    have h1 := Nat.div_add_mod (k + 1) (d 0 t)
    rw [e, Nat.add_zero, Nat.mul_comm] at h1
    have h2 : k / d 0 t * d 0 t < (k + 1) / d 0 t * d 0 t := by omega
    have h3 : k / d 0 t < (k + 1) / d 0 t := Nat.lt_of_mul_lt_mul_right h2
    have h4 : (k / d 0 t + 1) * d 0 t ≤ (k + 1) / d 0 t * d 0 t := Nat.mul_le_mul_right _ h3
    omega
section
variable {m f n per T k v : Nat} {d : Nat → Nat → Nat} {ns fm l en : Nat → Nat} {μ ν μ' ν' : xe_Mem} {o : Option Nat}
/-- what the ends of spans may change, and the begins -/
def zX9 (m f n a j : Nat) : Prop := (a = 17 + 11 * m ∧ j = 12) ∨ ∃ t, f ≤ t ∧ t < f + n ∧ a = 61 + 5 * t ∧ j = 13
def zX4 (f n a j : Nat) : Prop := ∃ t, f ≤ t ∧ t < f + n ∧ a = 63 + 5 * t ∧ (j ≤ 1 ∨ j = 3 ∨ j = 4)
theorem zX7_9 : ∀ a j, zX9 m f n a j → zX7 m f n a j := fun a j h => by
  rcases h with h | ⟨t, h1, h2, h3, h4⟩
  · exact Or.inl h
  · exact Or.inr (Or.inr (Or.inr ⟨t, h1, h2, Or.inl ⟨h3, h4⟩⟩))
theorem zX7_4 : ∀ a j, zX4 f n a j → zX7 m f n a j := fun a j h => by
  obtain ⟨t, h1, h2, h3, h4⟩ := h
  exact Or.inr (Or.inr (Or.inr ⟨t, h1, h2, Or.inr ⟨h3, h4⟩⟩))
/-- endSpans -/
theorem z79 (hs : zSt m f n per T d ns fm μ ν) (hk : k < per) (hl : ∀ t, f ≤ t → t < f + n → xe_I μ (63 + 5 * t) 0 = nI (l t) ∧ l t ≤ 200 ∧ xe_I μ (63 + 5 * t) 1 = nI (en t) ∧ en t < 1000) (ho : xe_I μ (17 + 11 * m) 12 = zov o) (ho2 : ∀ x, o = some x → x < 24) : ∃ μ', zD79 (17 + 11 * m) (nI (k + 1)) μ = some (.inl none, μ') ∧ zfG (zX9 m f n) zZu zZu μ μ' ∧ (∀ t, f ≤ t → t < f + n → xe_I μ' (61 + 5 * t) 13 = if en t = k + 1 ∧ 0 < l t then -1 else xe_I μ (61 + 5 * t) 13) ∧ xe_I μ' (17 + 11 * m) 12 = zov (zof (fun t => decide (en t = k + 1) && decide (0 < l t)) f o n) := by
  obtain ⟨hR, ⟨b1, b2, b3, b4, b5, b6⟩, ⟨c1, c2, c3⟩, hst, -⟩ := id hs
  have hlp : ∀ (r g i : Nat) (μ1 : xe_Mem), i + r = n → r < g → zfG (zX9 m f n) zZu zZu μ μ1 → (∀ t, f ≤ t → t < f + n → xe_I μ1 (61 + 5 * t) 13 = if t < f + i ∧ en t = k + 1 ∧ 0 < l t then -1 else xe_I μ (61 + 5 * t) 13) → xe_I μ1 (17 + 11 * m) 12 = zov (zof (fun t => decide (en t = k + 1) && decide (0 < l t)) f o i) → ∃ μ', zD79_2 g (17 + 11 * m) (nI (k + 1)) (nI i) μ1 = some (.inl none, μ') ∧ zfG (zX9 m f n) zZu zZu μ μ' ∧ (∀ t, f ≤ t → t < f + n → xe_I μ' (61 + 5 * t) 13 = if en t = k + 1 ∧ 0 < l t then -1 else xe_I μ (61 + 5 * t) 13) ∧ xe_I μ' (17 + 11 * m) 12 = zov (zof (fun t => decide (en t = k + 1) && decide (0 < l t)) f o n) := by
    intro r
    induction r with
    | zero =>
      intro g i μ1 hi hg G h1 h2
      obtain ⟨g, rfl⟩ : ∃ k, g = k + 1 := ⟨g - 1, by omega⟩
      have : i = n := by omega
      subst this
      refine ⟨μ1, ?_, G, fun t q1 q2 => ?_, h2⟩
      · show zD79_2_b (zD79_2 g) (17 + 11 * m) (nI (k + 1)) (nI i) μ1 = _
        unfold zD79_2_b
        rw [zo_in (zS_mode m b1) (by omega), (G (17 + 11 * m) (by omega) 3).1 (fun w => by rcases w with w | ⟨t, w1, w2, w3⟩ <;> omega), c1, if_pos (nI_le (by omega) (by omega))]
      · rw [h1 t q1 q2]
        by_cases e : en t = k + 1 ∧ 0 < l t
        · rw [if_pos e, if_pos ⟨q2, e⟩]
        · rw [if_neg e, if_neg (fun w => e w.2)]
    | succ r ih =>
      intro g i μ1 hi hg G h1 h2
      obtain ⟨g, rfl⟩ : ∃ k, g = k + 1 := ⟨g - 1, by omega⟩
      have hR1 := zRt_G hR G
      have ht24 : f + i < 24 := by omega
      obtain ⟨a1, a2, a3, a4⟩ := hl (f + i) (by omega) (by omega)
      obtain ⟨-, ⟨u0, -⟩, -⟩ := hst (f + i) (by omega) (by omega)
      have k0 : xe_I μ1 (63 + 5 * (f + i)) 0 = nI (l (f + i)) := ((G _ (by omega) 0).1 (fun w => by rcases w with w | ⟨t, w1, w2, w3⟩ <;> omega)).trans a1
      have k1 : xe_I μ1 (63 + 5 * (f + i)) 1 = nI (en (f + i)) := ((G _ (by omega) 1).1 (fun w => by rcases w with w | ⟨t, w1, w2, w3⟩ <;> omega)).trans a3
      have kn : xe_I μ1 (61 + 5 * (f + i)) 0 = nI (f + i) := ((G _ (by omega) 0).1 (fun w => by rcases w with w | ⟨t, w1, w2, w3⟩ <;> omega)).trans u0
      have r14 : xe_R μ1 (61 + 5 * (f + i)) 14 = some (63 + 5 * (f + i)) := hR1 _ _ _ (zR_62 (f + i) ht24).2
      have hstep : zD79_2 (g + 1) (17 + 11 * m) (nI (k + 1)) (nI i) μ1 = if en (f + i) = k + 1 ∧ 0 < l (f + i) then zD79_2 g (17 + 11 * m) (nI (k + 1)) (nI (i + 1)) (xe_setI (xe_setI μ1 (61 + 5 * (f + i)) 13 (-1)) (17 + 11 * m) 12 (if xe_I μ1 (17 + 11 * m) 12 = 0 then nI (f + i + 1) else xe_I μ1 (17 + 11 * m) 12)) else zD79_2 g (17 + 11 * m) (nI (k + 1)) (nI (i + 1)) μ1 := by
        show zD79_2_b (zD79_2 g) (17 + 11 * m) (nI (k + 1)) (nI i) μ1 = _
        unfold zD79_2_b zD79_34 zD79_35
        rw [zo_in (zS_mode m b1) (by omega), (G (17 + 11 * m) (by omega) 3).1 (fun w => by rcases w with w | ⟨t, w1, w2, w3⟩ <;> omega), c1, if_neg (nI_ge (by omega) (by omega)), hR1 _ _ _ (zR_m m b1).1, zs_some, za_in (zS_18 m b1).1 (by omega), zx_nI (show i < 6 by omega) (by decide), (G (18 + 11 * m) (by omega) i).2.2 (fun w => w.2 rfl), c3 i (by omega), zs_some, zo_in (zS_task (f + i) ht24) (by omega), r14, zs_some, zo_in (zS_62 (f + i) ht24).2 (by omega), k1, nI_1]
        by_cases e1 : en (f + i) = k + 1
        · rw [if_pos (by rw [e1]), zs_some, zo_in (zS_62 (f + i) ht24).2 (by omega), k0]
          by_cases e2 : 0 < l (f + i)
          · rw [if_neg (show ¬ nI (l (f + i)) ≤ (0 : Int32) from nI_nle e2 (by omega)), if_pos ⟨e1, e2⟩]
            simp only [zq_m]
            rw [show xe_I (xe_setI μ1 (61 + 5 * (f + i)) 13 (-1)) (17 + 11 * m) 12 = xe_I μ1 (17 + 11 * m) 12 from xu_In (by omega), zo_in (zS_mode m b1) (by omega), zo_in (zS_mode m b1) (by omega), show xe_I (xe_setI μ1 (61 + 5 * (f + i)) 13 (-1)) (61 + 5 * (f + i)) 0 = nI (f + i) from (xu_In (by omega)).trans kn, show (1 + nI (f + i) : Int32) = nI (f + i + 1) from by rw [show (1 : Int32) = nI 1 from rfl, nI_add, Nat.add_comm]]
            by_cases e3 : xe_I μ1 (17 + 11 * m) 12 = 0
            · rw [if_pos e3, if_pos e3]
            · rw [if_neg e3, if_neg e3]
          · rw [if_pos (show nI (l (f + i)) ≤ (0 : Int32) from by rw [show l (f + i) = 0 by omega]; decide), if_neg (fun w => e2 w.2)]
        · rw [if_neg (show ¬ nI (en (f + i)) = nI (k + 1) from fun w => e1 (by rw [zi_eq (by omega) (by omega)] at w; exact w)), if_neg (fun w => e1 w.1)]
      rw [hstep]
      by_cases e : en (f + i) = k + 1 ∧ 0 < l (f + i)
      · rw [if_pos e]
        have hms : (decide (en (f + i) = k + 1) && decide (0 < l (f + i))) = true := by rw [decide_eq_true e.1, decide_eq_true e.2]; rfl
        refine ih g (i + 1) _ (by omega) (by omega) (zfG_t G (zfG_t (zfG_I (Or.inr ⟨f + i, by omega, by omega, rfl, rfl⟩)) (zfG_I (Or.inl ⟨rfl, rfl⟩)))) (fun t q1 q2 => ?_) ?_
        · rw [xu_In (by omega)]
          by_cases et : t = f + i
          · rw [et, if_pos ⟨by omega, e⟩]
            exact xu_I
          · rw [xu_In (by omega), h1 t q1 q2]
            by_cases e3 : t < f + i ∧ en t = k + 1 ∧ 0 < l t
            · rw [if_pos e3, if_pos ⟨by omega, e3.2⟩]
            · rw [if_neg e3, if_neg (fun w => e3 ⟨by omega, w.2⟩)]
        · rw [zof_s, h2]
          cases hz : zof (fun t => decide (en t = k + 1) && decide (0 < l t)) f o i with
          | none =>
            rw [if_pos (show zov none = 0 from rfl)]
            show xe_I _ _ _ = zov (if (decide (en (f + i) = k + 1) && decide (0 < l (f + i))) = true then some (f + i) else none)
            rw [if_pos hms]
            exact xu_I
          | some y =>
            have hy : zov (some y) = nI (y + 1) := rfl
            rw [hy]
            have hy24 := zof_in i ho2 (by omega) y hz
            rw [if_neg (nI_ne0 (show 0 < y + 1 by omega) (by omega))]
            exact xu_I
      · rw [if_neg e]
        have hms : ¬ (decide (en (f + i) = k + 1) && decide (0 < l (f + i))) = true := fun w => by
          rw [Bool.and_eq_true] at w
          exact e ⟨of_decide_eq_true w.1, of_decide_eq_true w.2⟩
        refine ih g (i + 1) _ (by omega) (by omega) G (fun t q1 q2 => ?_) ?_
        · rw [h1 t q1 q2]
          by_cases e3 : t < f + i ∧ en t = k + 1 ∧ 0 < l t
          · rw [if_pos e3, if_pos ⟨by omega, e3.2⟩]
          · rw [if_neg e3, if_neg (fun w => e3 ⟨by
              have : t ≠ f + i := fun wt => e (by rw [← wt]; exact w.2)
              omega, w.2⟩)]
        · rw [zof_s, h2]
          cases hz : zof (fun t => decide (en t = k + 1) && decide (0 < l t)) f o i with
          | none =>
            show zov none = zov (if (decide (en (f + i) = k + 1) && decide (0 < l (f + i))) = true then some (f + i) else none)
            rw [if_neg hms]
          | some y => rfl
  exact hlp n zfu 0 μ (by omega) (zfu_lt (by omega)) zfG_r (fun t q1 q2 => by rw [if_neg (fun w => absurd w.1 (by omega))]) ho
/-- beginSpans -/
theorem z74 (hs : zSt m f n per T d ns fm μ ν) (hk : k < per) : ∃ μ', zD74 (17 + 11 * m) (nI k) μ = some (.inl none, μ') ∧ zfG (zX4 f n) zZu zZu μ μ' ∧ (∀ t, f ≤ t → t < f + n → (k % d 0 t = 0 → xe_I μ' (63 + 5 * t) 0 = nI (d 1 t) ∧ xe_I μ' (63 + 5 * t) 1 = nI (k + d 0 t) ∧ xe_I μ' (63 + 5 * t) 3 = 0 ∧ xe_I μ' (63 + 5 * t) 4 = 0) ∧ (¬ k % d 0 t = 0 → ∀ j, xe_I μ' (63 + 5 * t) j = xe_I μ (63 + 5 * t) j)) := by
  obtain ⟨hR, ⟨b1, b2, b3, b4, b5, b6⟩, ⟨c1, c2, c3⟩, hst, -⟩ := id hs
  have hlp : ∀ (r g i : Nat) (μ1 : xe_Mem), i + r = n → r < g → zfG (zX4 f n) zZu zZu μ μ1 → (∀ t, f ≤ t → t < f + i → (k % d 0 t = 0 → xe_I μ1 (63 + 5 * t) 0 = nI (d 1 t) ∧ xe_I μ1 (63 + 5 * t) 1 = nI (k + d 0 t) ∧ xe_I μ1 (63 + 5 * t) 3 = 0 ∧ xe_I μ1 (63 + 5 * t) 4 = 0) ∧ (¬ k % d 0 t = 0 → ∀ j, xe_I μ1 (63 + 5 * t) j = xe_I μ (63 + 5 * t) j)) → (∀ t, f + i ≤ t → t < f + n → ∀ j, xe_I μ1 (63 + 5 * t) j = xe_I μ (63 + 5 * t) j) → ∃ μ', zD74_2 g (17 + 11 * m) (nI k) (nI i) μ1 = some (.inl none, μ') ∧ zfG (zX4 f n) zZu zZu μ μ' ∧ (∀ t, f ≤ t → t < f + n → (k % d 0 t = 0 → xe_I μ' (63 + 5 * t) 0 = nI (d 1 t) ∧ xe_I μ' (63 + 5 * t) 1 = nI (k + d 0 t) ∧ xe_I μ' (63 + 5 * t) 3 = 0 ∧ xe_I μ' (63 + 5 * t) 4 = 0) ∧ (¬ k % d 0 t = 0 → ∀ j, xe_I μ' (63 + 5 * t) j = xe_I μ (63 + 5 * t) j)) := by
    intro r
    induction r with
    | zero =>
      intro g i μ1 hi hg G h1 h2
      obtain ⟨g, rfl⟩ : ∃ k, g = k + 1 := ⟨g - 1, by omega⟩
      have : i = n := by omega
      subst this
      refine ⟨μ1, ?_, G, h1⟩
      show zD74_2_b (zD74_2 g) (17 + 11 * m) (nI k) (nI i) μ1 = _
      unfold zD74_2_b
      rw [zo_in (zS_mode m b1) (by omega), (G (17 + 11 * m) (by omega) 3).1 (fun w => by obtain ⟨t, w1, w2, w3, w4⟩ := w; omega), c1, if_pos (nI_le (by omega) (by omega))]
    | succ r ih =>
      intro g i μ1 hi hg G h1 h2
      obtain ⟨g, rfl⟩ : ∃ k, g = k + 1 := ⟨g - 1, by omega⟩
      have hR1 := zRt_G hR G
      have ht24 : f + i < 24 := by omega
      obtain ⟨⟨q1, q2, q3, q4, q5⟩, ⟨u0, u1, u2, u3, -⟩, -⟩ := hst (f + i) (by omega) (by omega)
      have r18 : xe_R μ1 (18 + 11 * m) i = some (61 + 5 * (f + i)) := ((G (18 + 11 * m) (by omega) i).2.2 (fun w => w.2 rfl)).trans (c3 i (by omega))
      have r2 : xe_R μ1 (17 + 11 * m) 2 = some (18 + 11 * m) := hR1 _ _ _ (zR_m m b1).1
      have r14 : xe_R μ1 (61 + 5 * (f + i)) 14 = some (63 + 5 * (f + i)) := hR1 _ _ _ (zR_62 (f + i) ht24).2
      have k3 : xe_I μ1 (61 + 5 * (f + i)) 3 = nI (d 0 (f + i)) := ((G _ (by omega) 3).1 (fun w => by obtain ⟨t, w1, w2, w3, w4⟩ := w; omega)).trans u2
      have k4 : xe_I μ1 (61 + 5 * (f + i)) 4 = nI (d 1 (f + i)) := ((G _ (by omega) 4).1 (fun w => by obtain ⟨t, w1, w2, w3, w4⟩ := w; omega)).trans u3
      have hmod : k % d 0 (f + i) ≤ k := Nat.mod_le _ _
      have hstep : zD74_2 (g + 1) (17 + 11 * m) (nI k) (nI i) μ1 = if k % d 0 (f + i) = 0 then zD74_2 g (17 + 11 * m) (nI k) (nI (i + 1)) (xe_setI (xe_setI (xe_setI (xe_setI μ1 (63 + 5 * (f + i)) 0 (nI (d 1 (f + i)))) (63 + 5 * (f + i)) 1 (nI (k + d 0 (f + i)))) (63 + 5 * (f + i)) 3 0) (63 + 5 * (f + i)) 4 0) else zD74_2 g (17 + 11 * m) (nI k) (nI (i + 1)) μ1 := by
        show zD74_2_b (zD74_2 g) (17 + 11 * m) (nI k) (nI i) μ1 = _
        unfold zD74_2_b zD74_32
        rw [zo_in (zS_mode m b1) (by omega), (G (17 + 11 * m) (by omega) 3).1 (fun w => by obtain ⟨t, w1, w2, w3, w4⟩ := w; omega), c1, if_neg (nI_ge (by omega) (by omega)), r2, zs_some, za_in (zS_18 m b1).1 (by omega), zx_nI (show i < 6 by omega) (by decide), r18, zs_some, zo_in (zS_task (f + i) ht24) (by omega), k3, zd_ok (nI_ne0 q1 (by omega)), zn_mod (by omega) (by omega), nI_1]
        by_cases e : k % d 0 (f + i) = 0
        · rw [if_pos (show nI (k % d 0 (f + i)) = 0 by rw [e]; rfl), if_pos e, zs_some, za_in (zS_18 m b1).1 (by omega), zx_nI (show i < 6 by omega) (by decide), r18, zs_some, zo_in (zS_task (f + i) ht24) (by omega), r14, zs_some, zs_some, za_in (zS_18 m b1).1 (by omega), zx_nI (show i < 6 by omega) (by decide), r18, zs_some, zo_in (zS_task (f + i) ht24) (by omega), zs_some, za_in (zS_18 m b1).1 (by omega), zx_nI (show i < 6 by omega) (by decide), r18, zs_some, zo_in (zS_task (f + i) ht24) (by omega), zo_in (zS_62 (f + i) ht24).2 (by omega), k4, k3, nI_add]
          unfold zD75
          rw [zo_in (zS_62 (f + i) ht24).2 (by omega)]
          rfl
        · rw [if_neg (show ¬ nI (k % d 0 (f + i)) = 0 from nI_ne0 (by omega) (by omega)), if_neg e]
      rw [hstep]
      by_cases e : k % d 0 (f + i) = 0
      · rw [if_pos e]
        have kk : ∀ t j, t ≠ f + i → xe_I (xe_setI (xe_setI (xe_setI (xe_setI μ1 (63 + 5 * (f + i)) 0 (nI (d 1 (f + i)))) (63 + 5 * (f + i)) 1 (nI (k + d 0 (f + i)))) (63 + 5 * (f + i)) 3 0) (63 + 5 * (f + i)) 4 0) (63 + 5 * t) j = xe_I μ1 (63 + 5 * t) j := fun t j w => by
          rw [xu_In (by omega), xu_In (by omega), xu_In (by omega), xu_In (by omega)]
        refine ih g (i + 1) _ (by omega) (by omega) ?_ (fun t w1 w2 => ?_) (fun t w1 w2 j => ?_)
        · refine zfG_t (zfG_t (zfG_t (zfG_t G (zfG_I ⟨f + i, by omega, by omega, rfl, by omega⟩)) (zfG_I ⟨f + i, by omega, by omega, rfl, by omega⟩)) (zfG_I ⟨f + i, by omega, by omega, rfl, by omega⟩)) (zfG_I ⟨f + i, by omega, by omega, rfl, by omega⟩)
        · by_cases et : t = f + i
          · subst et
            refine ⟨fun _ => ⟨?_, ?_, ?_, xu_I⟩, fun w => absurd e w⟩
            · rw [xu_In (by omega), xu_In (by omega), xu_In (by omega)]
              exact xu_I
            · rw [xu_In (by omega), xu_In (by omega)]
              exact xu_I
            · rw [xu_In (by omega)]
              exact xu_I
          · simp only [kk t _ et]
            exact h1 t w1 (by omega)
        · rw [kk t j (by omega)]
          exact h2 t (by omega) w2 j
      · rw [if_neg e]
        refine ih g (i + 1) _ (by omega) (by omega) G (fun t w1 w2 => ?_) (fun t w1 w2 j => h2 t (by omega) w2 j)
        by_cases et : t = f + i
        · subst et
          exact ⟨fun w => absurd w e, fun _ j => h2 (f + i) (by omega) (by omega) j⟩
        · exact h1 t w1 (by omega)
  exact hlp n zfu 0 μ (by omega) (zfu_lt (by omega)) zfG_r (fun t q1 q2 => absurd q1 (by omega)) (fun t q1 q2 j => rfl)
end
