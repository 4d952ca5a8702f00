/-! checking a mode: spans end and begin, the reference -/
def zXd2 (a j : Nat) : Prop := (a = 259 ∨ a = 230) ∧ j = j
/-- a row of the reference behind the ends and begins at k -/
def zRw2 (d : Nat → Nat → Nat) (l : Nat → Nat) (per k t : Nat) (ν ν' : xe_Mem) : Prop := xe_I ν' 259 t = (if k % d 0 t = 0 ∧ k < per then nI (d 1 t) else xe_I ν 259 t) ∧ ∀ r, r < 120 → xe_I ν' 230 (120 * t + r) = if k % d 0 t = 0 ∧ k < per ∧ r = k / d 0 t then nI k else if k % d 0 t = 0 ∧ 0 < l t ∧ r + 1 = k / d 0 t then -1 else xe_I ν 230 (120 * t + r)
def zrA (d : Nat → Nat → Nat) (l : Nat → Nat) (k t : Nat) (ν : xe_Mem) : xe_Mem := if 0 < l t then xe_setI ν 230 (120 * t + k / d 0 t - 1) (-1) else ν
def zrB (d : Nat → Nat → Nat) (per k t : Nat) (ν : xe_Mem) : xe_Mem := if k = per then ν else xe_setI (xe_setI ν 259 t (nI (d 1 t))) 230 (120 * t + k / d 0 t) (nI k)
section
variable {m f n per T k v : Nat} {d : Nat → Nat → Nat} {ns fm l : Nat → Nat} {μ ν μ' ν' : xe_Mem} {o : Option Nat}
theorem zrA_o {t c j : Nat} (h : c ≠ 230 ∨ j ≠ 120 * t + k / d 0 t - 1) : xe_I (zrA d l k t ν) c j = xe_I ν c j := by
  unfold zrA
  split
  · exact xu_In (by omega)
  · rfl
theorem zrB_o {t c j : Nat} (h : k = per ∨ c ≠ 230 ∨ j ≠ 120 * t + k / d 0 t) (h2 : c ≠ 259 ∨ j ≠ t) : xe_I (zrB d per k t ν) c j = xe_I ν c j := by
  unfold zrB
  split
  · rfl
  · rename_i hne
    rw [xu_In (by omega), xu_In (by omega)]
theorem zrA_L {t : Nat} : xe_L (zrA d l k t ν) = xe_L ν ∧ xe_R (zrA d l k t ν) = xe_R ν := by
  unfold zrA
  split <;> exact ⟨rfl, rfl⟩
theorem zrB_L {t : Nat} : xe_L (zrB d per k t ν) = xe_L ν ∧ xe_R (zrB d per k t ν) = xe_R ν := by
  unfold zrB
  split <;> exact ⟨rfl, rfl⟩
theorem zfG_AB {t : Nat} : zfG zXd2 zZu zZu ν (zrB d per k t (zrA d l k t ν)) := fun a ha j => ⟨fun q => by
  rw [zrB_o (Or.inr (Or.inl (fun w => q ⟨Or.inr w, rfl⟩))) (Or.inl (fun w => q ⟨Or.inl w, rfl⟩)), zrA_o (Or.inl (fun w => q ⟨Or.inr w, rfl⟩))], fun _ => by rw [zrB_L.1, zrA_L.1], fun _ => by rw [zrB_L.2, zrA_L.2]⟩
/-- one task's row -/
theorem zRw2_1 {t : Nat} (hk : k ≤ per) (h120 : per ≤ 120) (h1 : 1 ≤ d 0 t) (h0 : k % d 0 t = 0) (hr1 : 0 < l t → 1 ≤ k / d 0 t) : zRw2 d l per k t ν (zrB d per k t (zrA d l k t ν)) := by
  have hdv : k / d 0 t ≤ k := Nat.div_le_self _ _
  generalize hq : k / d 0 t = q at hdv hr1
  refine ⟨?_, fun r hr => ?_⟩
  · by_cases e : k = per
    · rw [if_neg (fun w => absurd w.2 (by omega))]
      have : zrB d per k t (zrA d l k t ν) = zrA d l k t ν := if_pos e
      rw [this, zrA_o (by omega)]
    · rw [if_pos ⟨h0, by omega⟩]
      have : zrB d per k t (zrA d l k t ν) = xe_setI (xe_setI (zrA d l k t ν) 259 t (nI (d 1 t))) 230 (120 * t + k / d 0 t) (nI k) := if_neg e
      rw [this, xu_In (by omega)]
      exact xu_I
  · rw [hq]
    have hA : xe_I (zrA d l k t ν) 230 (120 * t + r) = if 0 < l t ∧ r + 1 = q then -1 else xe_I ν 230 (120 * t + r) := by
      unfold zrA
      by_cases hl : 0 < l t
      · rw [if_pos hl]
        have := hr1 hl
        by_cases e2 : r + 1 = q
        · rw [if_pos ⟨hl, e2⟩, show 120 * t + r = 120 * t + k / d 0 t - 1 by omega]
          exact xu_I
        · rw [if_neg (fun w => e2 w.2)]
          exact xu_In (by omega)
      · rw [if_neg hl, if_neg (fun w => hl w.1)]
    by_cases e : k = per
    · rw [if_neg (fun w => absurd w.2.1 (by omega))]
      have : zrB d per k t (zrA d l k t ν) = zrA d l k t ν := if_pos e
      rw [this, hA]
      by_cases e2 : 0 < l t ∧ r + 1 = q
      · rw [if_pos e2, if_pos ⟨h0, e2⟩]
      · rw [if_neg e2, if_neg (fun w => e2 w.2)]
    · have : zrB d per k t (zrA d l k t ν) = xe_setI (xe_setI (zrA d l k t ν) 259 t (nI (d 1 t))) 230 (120 * t + k / d 0 t) (nI k) := if_neg e
      rw [this]
      by_cases e3 : r = q
      · rw [if_pos ⟨h0, by omega, e3⟩, show 120 * t + r = 120 * t + k / d 0 t by omega]
        exact xu_I
      · rw [if_neg (fun w => e3 w.2.2), xu_In (by omega), xu_In (by omega), hA]
        by_cases e2 : 0 < l t ∧ r + 1 = q
        · rw [if_pos e2, if_pos ⟨h0, e2⟩]
        · rw [if_neg e2, if_neg (fun w => e2 w.2)]
theorem zRw2_n {t : Nat} (h0 : ¬ k % d 0 t = 0) (e : xe_I ν' 259 t = xe_I ν 259 t) (e2 : ∀ r, r < 120 → xe_I ν' 230 (120 * t + r) = xe_I ν 230 (120 * t + r)) : zRw2 d l per k t ν ν' := by
  refine ⟨?_, fun r hr => ?_⟩
  · rw [if_neg (fun w => h0 w.1)]
    exact e
  · rw [if_neg (fun w => h0 w.1), if_neg (fun w => h0 w.1)]
    exact e2 r hr
/-- the reference's loop over the tasks at the begin of a tick -/
theorem z52 {c44 : Int32 → Int32 → Int32 → Int32 → xe_Mem → zO} {v3 : Int32} (hs : zSt m f n per T d ns fm μ ν) (hk : k ≤ per) (hl : ∀ t, f ≤ t → t < f + n → xe_I ν 259 t = nI (l t) ∧ l t ≤ 200 ∧ (0 < l t → 0 < k)) (ho2 : ∀ x, o = some x → x < 24) : ∃ ν', zD171_52 c44 zfu (nI m) (zoi o) v3 (nI k) (nI 0) ν = zD171_127 c44 zfu (nI m) (zoi (zof (fun t => decide (k % d 0 t = 0) && decide (0 < l t)) f o n)) v3 (nI k) (nI 0) ν' ∧ zfG zXd2 zZu zZu ν ν' ∧ ∀ t, f ≤ t → t < f + n → zRw2 d l per k t ν ν' := by
  obtain ⟨hR, ⟨b1, b2, b3, b4, b5, b6⟩, -, hst, ⟨r1, r2, r3⟩⟩ := id hs
  have hms : zof (fun t => decide (xe_I ν 218 t = nI m) && (decide (k % d 0 t = 0) && decide (0 < l t))) 0 o T = zof (fun t => decide (k % d 0 t = 0) && decide (0 < l t)) f o n := by
    have hout : ∀ t, t < T → ¬ (f ≤ t ∧ t < f + n) → (decide (xe_I ν 218 t = nI m) && (decide (k % d 0 t = 0) && decide (0 < l t))) = false := fun t h1 h2 => by
      rw [decide_eq_false (r3 t h1 h2), Bool.false_and]
    rw [show T = f + n + (T - (f + n)) by omega, zof_e (T - (f + n)) (fun t h1 h2 => hout t (by omega) (by omega)), zof_a (fun t h1 => hout t (by omega) (by omega)) n]
    refine zof_c n (fun t h1 h2 => ?_)
    rw [decide_eq_true (hst t h1 h2).2.2.1, Bool.true_and]
  have hlp : ∀ (r g i : Nat) (ν1 : xe_Mem), i + r = T → r < g → zfG zXd2 zZu zZu ν ν1 → (∀ t, f ≤ t → t < f + n → t < i → zRw2 d l per k t ν ν1) → (∀ t, i ≤ t → t < T → xe_I ν1 259 t = xe_I ν 259 t ∧ ∀ r, r < 120 → xe_I ν1 230 (120 * t + r) = xe_I ν 230 (120 * t + r)) → ∃ ν', zD171_52 c44 g (nI m) (zoi (zof (fun t => decide (xe_I ν 218 t = nI m) && (decide (k % d 0 t = 0) && decide (0 < l t))) 0 o i)) v3 (nI k) (nI i) ν1 = zD171_127 c44 zfu (nI m) (zoi (zof (fun t => decide (xe_I ν 218 t = nI m) && (decide (k % d 0 t = 0) && decide (0 < l t))) 0 o T)) v3 (nI k) (nI 0) ν' ∧ zfG zXd2 zZu zZu ν ν' ∧ ∀ t, f ≤ t → t < f + n → zRw2 d l per k t ν ν' := by
    intro r
    induction r with
    | zero =>
      intro g i ν1 hi hg G h1 h2
      obtain ⟨g, rfl⟩ : ∃ k, g = k + 1 := ⟨g - 1, by omega⟩
      have : i = T := by omega
      subst this
      refine ⟨ν1, ?_, G, fun t q1 q2 => h1 t q1 q2 (by omega)⟩
      show zD171_52_b c44 (zD171_52 c44 g) (nI m) _ v3 (nI k) (nI i) ν1 = _
      unfold zD171_52_b
      rw [(G 203 (by decide) 22).1 (fun w => by unfold zXd2 at w; omega), r1, if_pos (nI_le (by omega) (by omega))]
      rfl
    | succ r ih =>
      intro g i ν1 hi hg G h1 h2
      obtain ⟨g, rfl⟩ : ∃ k, g = k + 1 := ⟨g - 1, by omega⟩
      have gk : ∀ a j, a < 265 → a ≠ 259 → a ≠ 230 → xe_I ν1 a j = xe_I ν a j := fun a j q1 q2 q3 => (G a q1 j).1 (fun w => by unfold zXd2 at w; omega)
      have hi24 : i < 24 := by omega
      have e0 := ih g (i + 1)
      have e := ih g (i + 1)
      rw [zof_s, Nat.zero_add] at e
      show ∃ ν', zD171_52_b c44 (zD171_52 c44 g) (nI m) _ v3 (nI k) (nI i) ν1 = _ ∧ _
      unfold zD171_52_b zD171_123
      rw [gk 203 22 (by decide) (by decide) (by decide), r1, if_neg (nI_ge (by omega) (by omega)), zx_nI hi24 (by decide), gk 218 i (by decide) (by decide) (by decide), nI_1]
      by_cases h0 : xe_I ν 218 i = nI m
      · have hin : f ≤ i ∧ i < f + n := by
          by_cases w : f ≤ i ∧ i < f + n
          · exact w
          · exact absurd h0 (r3 i (by omega) w)
        obtain ⟨⟨q1, q2, q3, q4, q5⟩, -, ⟨v1, v2, v3', v4, -⟩⟩ := hst i hin.1 hin.2
        obtain ⟨l1, l2, l3⟩ := hl i hin.1 hin.2
        have hmod : k % d 0 i ≤ k := Nat.mod_le _ _
        have hdv : k / d 0 i ≤ k := Nat.div_le_self _ _
        rw [if_pos h0, zx_nI hi24 (by decide), gk 221 i (by decide) (by decide) (by decide), v3', zd_ok (nI_ne0 q1 (by omega)), zn_mod (by omega) (by omega)]
        by_cases hm0 : k % d 0 i = 0
        · have hr1 : 0 < l i → 1 ≤ k / d 0 i := fun w => by
            have := l3 w
            have h5 := Nat.div_add_mod k (d 0 i)
            rcases Nat.eq_zero_or_pos (k / d 0 i) with w2 | w2
            · rw [w2, hm0, Nat.mul_zero] at h5
              omega
            · exact w2
          rw [if_pos (show nI (k % d 0 i) = 0 by rw [hm0]; rfl), zx_nI hi24 (by decide), gk 221 i (by decide) (by decide) (by decide), v3', zd_ok (nI_ne0 q1 (by omega)), zn_div (by omega) (by omega)]
          simp only [zq_vI]
          rw [zx_nI hi24 (by decide), (h2 i (Nat.le_refl _) (by omega)).1, l1]
          -- the tail
          have htail : ∀ (o' : Option Nat) (ν2 : xe_Mem), zfG zXd2 zZu zZu ν ν2 → zD171_99 (zD171_52 c44 g) (nI m) (zoi o') v3 (nI k) (nI i) (nI (k / d 0 i)) ν2 = zD171_52 c44 g (nI m) (zoi o') v3 (nI k) (nI (i + 1)) (zrB d per k i ν2) := fun o' ν2 G2 => by
            have gk2 : ∀ a j, a < 265 → a ≠ 259 → a ≠ 230 → xe_I ν2 a j = xe_I ν a j := fun a j q1 q2 q3 => (G2 a q1 j).1 (fun w => by unfold zXd2 at w; omega)
            unfold zD171_99 zD171_123
            rw [zx_nI b1 (by decide), gk2 214 m (by decide) (by decide) (by decide), r2, nI_1]
            unfold zrB
            by_cases ek : k = per
            · rw [if_pos (by rw [ek]), if_pos ek]
            · rw [if_neg (show ¬ nI k = nI per from fun w => ek (by rw [zi_eq (by omega) (by omega)] at w; exact w)), if_neg ek, zx_nI hi24 (by decide), zx_nI hi24 (by decide), gk2 222 i (by decide) (by decide) (by decide), v4]
              simp only [zq_m]
              rw [show (120 * nI i + nI (k / d 0 i) : Int32) = nI (120 * i + k / d 0 i) from by rw [show (120 : Int32) = nI 120 from rfl, zn_mul, nI_add], zx_nI (show 120 * i + k / d 0 i < 2880 by omega) (by decide)]
          have hrow : ∀ o', (o' = match zof (fun t => decide (xe_I ν 218 t = nI m) && (decide (k % d 0 t = 0) && decide (0 < l t))) 0 o i with | some x => some x | none => if (decide (xe_I ν 218 i = nI m) && (decide (k % d 0 i = 0) && decide (0 < l i))) = true then some i else none) → ∃ ν', zD171_52 c44 g (nI m) (zoi o') v3 (nI k) (nI (i + 1)) (zrB d per k i (zrA d l k i ν1)) = zD171_127 c44 zfu (nI m) (zoi (zof (fun t => decide (xe_I ν 218 t = nI m) && (decide (k % d 0 t = 0) && decide (0 < l t))) 0 o T)) v3 (nI k) (nI 0) ν' ∧ zfG zXd2 zZu zZu ν ν' ∧ ∀ t, f ≤ t → t < f + n → zRw2 d l per k t ν ν' := fun o' ho' => by
            rw [ho']
            have hrw1 := zRw2_1 (ν := ν1) (l := l) hk b6 q1 hm0 hr1
            have hoth : ∀ t, t ≠ i → xe_I (zrB d per k i (zrA d l k i ν1)) 259 t = xe_I ν1 259 t ∧ ∀ r, r < 120 → xe_I (zrB d per k i (zrA d l k i ν1)) 230 (120 * t + r) = xe_I ν1 230 (120 * t + r) := fun t ht => by
              refine ⟨by rw [zrB_o (by omega) (by omega), zrA_o (by omega)], fun r hr => ?_⟩
              by_cases hl0 : 0 < l i
              · have := hr1 hl0
                generalize hq : k / d 0 i = q at hdv this
                rw [zrB_o (by rw [hq]; omega) (by omega), zrA_o (by rw [hq]; omega)]
              · have : zrA d l k i ν1 = ν1 := if_neg hl0
                rw [this]
                generalize hq : k / d 0 i = q at hdv
                rw [zrB_o (by rw [hq]; omega) (by omega)]
            refine e _ (by omega) (by omega) (zfG_t G zfG_AB) (fun t w1 w2 w3 => ?_) (fun t w1 w2 => ?_)
            · by_cases et : t = i
              · subst et
                refine ⟨?_, fun r hr => ?_⟩
                · rw [hrw1.1, (h2 t (Nat.le_refl _) (by omega)).1]
                · rw [hrw1.2 r hr, (h2 t (Nat.le_refl _) (by omega)).2 r hr]
              · obtain ⟨y1, y2⟩ := h1 t w1 w2 (by omega)
                refine ⟨(hoth t et).1.trans y1, fun r hr => ((hoth t et).2 r hr).trans (y2 r hr)⟩
            · refine ⟨(hoth t (by omega)).1.trans (h2 t (by omega) w2).1, fun r hr => ((hoth t (by omega)).2 r hr).trans ((h2 t (by omega) w2).2 r hr)⟩
          by_cases hl0 : 0 < l i
          · have hr2 := hr1 hl0
            have hAe : zrA d l k i ν1 = xe_setI ν1 230 (120 * i + k / d 0 i - 1) (-1) := if_pos hl0
            rw [if_neg (show ¬ nI (l i) ≤ (0 : Int32) from nI_nle hl0 (by omega)), show (120 * nI i + nI (k / d 0 i) - 1 : Int32) = nI (120 * i + k / d 0 i - 1) from by rw [show (120 : Int32) = nI 120 from rfl, zn_mul, nI_add, show (1 : Int32) = nI 1 from rfl, zn_sub (by omega)], zx_nI (show 120 * i + k / d 0 i - 1 < 2880 by omega) (by decide)]
            simp only [zq_m]
            have hmsi : (decide (xe_I ν 218 i = nI m) && (decide (k % d 0 i = 0) && decide (0 < l i))) = true := by rw [decide_eq_true h0, decide_eq_true hm0, decide_eq_true hl0]; rfl
            unfold zD171_98
            rw [← hAe]
            cases hz : zof (fun t => decide (xe_I ν 218 t = nI m) && (decide (k % d 0 t = 0) && decide (0 < l t))) 0 o i with
            | none =>
              rw [if_neg (show ¬ (0 : Int32) ≤ zoi none by decide), show zD171_99 (zD171_52 c44 g) (nI m) (nI i) v3 (nI k) (nI i) (nI (k / d 0 i)) (zrA d l k i ν1) = _ from htail (some i) _ (zfG_t G (fun a ha j => ⟨fun q => zrA_o (Or.inl (fun w => q ⟨Or.inr w, rfl⟩)), fun _ => by rw [zrA_L.1], fun _ => by rw [zrA_L.2]⟩))]
              refine hrow (some i) ?_
              rw [hz]
              show some i = if (decide (xe_I ν 218 i = nI m) && (decide (k % d 0 i = 0) && decide (0 < l i))) = true then some i else none
              rw [if_pos hmsi]
            | some y =>
              have hy := zof_in i ho2 (by omega) y hz
              rw [if_pos (show (0 : Int32) ≤ zoi (some y) from nI_pos' (by omega)), htail (some y) _ (zfG_t G (fun a ha j => ⟨fun q => zrA_o (Or.inl (fun w => q ⟨Or.inr w, rfl⟩)), fun _ => by rw [zrA_L.1], fun _ => by rw [zrA_L.2]⟩))]
              exact hrow (some y) (by rw [hz])
          · have hAe : zrA d l k i ν1 = ν1 := if_neg hl0
            rw [if_pos (show nI (l i) ≤ (0 : Int32) from by rw [show l i = 0 by omega]; decide), htail _ ν1 G]
            have := hrow (zof (fun t => decide (xe_I ν 218 t = nI m) && (decide (k % d 0 t = 0) && decide (0 < l t))) 0 o i) (by
              cases hz : zof (fun t => decide (xe_I ν 218 t = nI m) && (decide (k % d 0 t = 0) && decide (0 < l t))) 0 o i with
              | none =>
                show none = if (decide (xe_I ν 218 i = nI m) && (decide (k % d 0 i = 0) && decide (0 < l i))) = true then some i else none
                rw [if_neg (by rw [decide_eq_false hl0, Bool.and_false, Bool.and_false]; decide)]
              | some y => rfl)
            rw [hAe] at this
            exact this
        · rw [if_neg (show ¬ nI (k % d 0 i) = 0 from nI_ne0 (by omega) (by omega))]
          have he : zof (fun t => decide (xe_I ν 218 t = nI m) && (decide (k % d 0 t = 0) && decide (0 < l t))) 0 o (i + 1) = zof (fun t => decide (xe_I ν 218 t = nI m) && (decide (k % d 0 t = 0) && decide (0 < l t))) 0 o i := by
            rw [zof_s, Nat.zero_add]
            cases zof (fun t => decide (xe_I ν 218 t = nI m) && (decide (k % d 0 t = 0) && decide (0 < l t))) 0 o i with
            | none =>
              show (if (decide (xe_I ν 218 i = nI m) && (decide (k % d 0 i = 0) && decide (0 < l i))) = true then some i else none) = none
              rw [if_neg (by rw [decide_eq_false hm0, Bool.false_and, Bool.and_false]; decide)]
            | some y => rfl
          rw [he] at e0
          refine e0 ν1 (by omega) (by omega) G (fun t w1 w2 w3 => ?_) (fun t w1 w2 => h2 t (by omega) w2)
          by_cases et : t = i
          · subst et
            exact zRw2_n hm0 (h2 t (Nat.le_refl _) (by omega)).1 (h2 t (Nat.le_refl _) (by omega)).2
          · exact h1 t w1 w2 (by omega)
      · rw [if_neg h0]
        have he : zof (fun t => decide (xe_I ν 218 t = nI m) && (decide (k % d 0 t = 0) && decide (0 < l t))) 0 o (i + 1) = zof (fun t => decide (xe_I ν 218 t = nI m) && (decide (k % d 0 t = 0) && decide (0 < l t))) 0 o i := by
          rw [zof_s, Nat.zero_add]
          cases zof (fun t => decide (xe_I ν 218 t = nI m) && (decide (k % d 0 t = 0) && decide (0 < l t))) 0 o i with
          | none =>
            show (if (decide (xe_I ν 218 i = nI m) && (decide (k % d 0 i = 0) && decide (0 < l i))) = true then some i else none) = none
            rw [if_neg (by rw [decide_eq_false h0, Bool.false_and]; decide)]
          | some y => rfl
        rw [he] at e0
        refine e0 ν1 (by omega) (by omega) G (fun t w1 w2 w3 => ?_) (fun t w1 w2 => h2 t (by omega) w2)
        by_cases et : t = i
        · subst et
          exact absurd (hst t w1 w2).2.2.1 h0
        · exact h1 t w1 w2 (by omega)
  obtain ⟨ν', w1, w2, w3⟩ := hlp T zfu 0 ν (by omega) (zfu_lt (by omega)) zfG_r (fun t _ _ h => absurd h (by omega)) (fun t _ _ => ⟨rfl, fun _ _ => rfl⟩)
  rw [hms] at w1
  exact ⟨ν', w1, w2, w3⟩
end
