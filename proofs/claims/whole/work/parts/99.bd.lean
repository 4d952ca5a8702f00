/-! the first to run, and the like: the least end, and of those the first -/
def zpk (ok : Nat → Bool) (en : Nat → Nat) (f : Nat) : Nat → Option Nat
  | 0 => none
  | i + 1 => if ok (f + i) = true then (match zpk ok en f i with
      | none => some (f + i)
      | some b => if en (f + i) < en b then some (f + i) else some b) else zpk ok en f i
theorem zpk_s {ok : Nat → Bool} {en : Nat → Nat} {f i : Nat} : zpk ok en f (i + 1) = if ok (f + i) = true then (match zpk ok en f i with
      | none => some (f + i)
      | some b => if en (f + i) < en b then some (f + i) else some b) else zpk ok en f i := rfl
theorem zpk_in {ok : Nat → Bool} {en : Nat → Nat} {f : Nat} : ∀ i t, zpk ok en f i = some t → f ≤ t ∧ t < f + i ∧ ok t = true := by
  intro i
  induction i with
  | zero => intro t h; cases h
  | succ i ih =>
    intro t h
    unfold zpk at h
    split at h
    · rename_i hok
      split at h
      · injection h with h
        subst h
        exact ⟨by omega, by omega, hok⟩
      · rename_i b hb
        split at h
        · injection h with h
          subst h
          exact ⟨by omega, by omega, hok⟩
        · injection h with h
          subst h
          obtain ⟨h1, h2, h3⟩ := ih _ hb
          exact ⟨h1, by omega, h3⟩
    · obtain ⟨h1, h2, h3⟩ := ih _ h
      exact ⟨h1, by omega, h3⟩
theorem zpk_c {ok ok' : Nat → Bool} {en en' : Nat → Nat} {f : Nat} : ∀ i, (∀ t, f ≤ t → t < f + i → ok t = ok' t ∧ en t = en' t) → zpk ok en f i = zpk ok' en' f i := by
  intro i
  induction i with
  | zero => intro _; rfl
  | succ i ih =>
    intro h
    have e := ih (fun t h1 h2 => h t h1 (by omega))
    unfold zpk
    rw [e, (h (f + i) (by omega) (by omega)).1]
    cases hz : zpk ok' en' f i with
    | none => rfl
    | some b =>
      obtain ⟨h1, h2, -⟩ := zpk_in i b hz
      show (if ok' (f + i) = true then (if en (f + i) < en b then some (f + i) else some b) else some b) = (if ok' (f + i) = true then (if en' (f + i) < en' b then some (f + i) else some b) else some b)
      rw [(h (f + i) (by omega) (by omega)).2, (h b h1 (by omega)).2]
theorem zpk_0 {ok : Nat → Bool} {en : Nat → Nat} {f : Nat} : ∀ i, (∀ t, f ≤ t → t < f + i → ok t = false) → zpk ok en f i = none := by
  intro i
  induction i with
  | zero => intro _; rfl
  | succ i ih =>
    intro h
    unfold zpk
    rw [if_neg (by rw [h (f + i) (by omega) (by omega)]; decide)]
    exact ih (fun t h1 h2 => h t h1 (by omega))
theorem zpk_a {ok : Nat → Bool} {en : Nat → Nat} {f : Nat} (h : ∀ t, t < f → ok t = false) : ∀ i, zpk ok en 0 (f + i) = zpk ok en f i := by
  intro i
  induction i with
  | zero => exact zpk_0 f (fun t _ h2 => h t (by omega))
  | succ i ih =>
    show zpk ok en 0 (f + i + 1) = _
    unfold zpk
    rw [ih, Nat.zero_add]
theorem zpk_e {ok : Nat → Bool} {en : Nat → Nat} {n : Nat} : ∀ r, (∀ t, n ≤ t → t < n + r → ok t = false) → zpk ok en 0 (n + r) = zpk ok en 0 n := by
  intro r
  induction r with
  | zero => intro _; rfl
  | succ r ih =>
    intro h
    show zpk ok en 0 (n + r + 1) = _
    unfold zpk
    rw [Nat.zero_add, if_neg (by rw [h (n + r) (by omega) (by omega)]; decide), ih (fun t h1 h2 => h t h1 (by omega))]
    cases n <;> rfl
def zoi (b : Option Nat) : Int32 := match b with
  | none => -1
  | some t => nI t
def zoa (b : Option Nat) : Option Nat := match b with
  | none => none
  | some t => some (61 + 5 * t)
theorem zcO_ok {b : Option Nat} {μ : xe_Mem} {g : Option Nat → xe_Mem → zO} : zq_cO (some (.inl (some (va_rf b)), μ)) g = g b μ := by
  cases b <;> rfl
section
variable {μ ν : xe_Mem} {m f n T v k : Nat} {nd l en sp : Nat → Nat}
/-- firstToRun -/
theorem z78 (hR : zRt μ) (hm : m < 4) (hs : xe_I μ (17 + 11 * m) 3 = nI n) (hn : n ≤ 6) (hf : f + n ≤ 24) (hv : v < 4) (hr : ∀ i, i < n → xe_R μ (18 + 11 * m) i = some (61 + 5 * (f + i))) (hd : ∀ t, f ≤ t → t < f + n → nd t < 4 ∧ l t ≤ 200 ∧ en t < 1000 ∧ xe_I μ (61 + 5 * t) 2 = nI (nd t) ∧ xe_I μ (63 + 5 * t) 0 = nI (l t) ∧ xe_I μ (63 + 5 * t) 1 = nI (en t)) : zD78 (17 + 11 * m) (nI v) μ = some (.inl (some (va_rf (zoa (zpk (fun t => decide (nd t = v) && decide (0 < l t)) en f n)))), μ) := by
  have hl : ∀ r g i : Nat, i + r = n → r < g → zD78_4 g (17 + 11 * m) (nI v) (zoa (zpk (fun t => decide (nd t = v) && decide (0 < l t)) en f i)) (nI i) μ = some (.inl (some (va_rf (zoa (zpk (fun t => decide (nd t = v) && decide (0 < l t)) en f n)))), μ) := by
    intro r
    induction r with
    | zero =>
      intro g i hi hg
      obtain ⟨g, rfl⟩ : ∃ k, g = k + 1 := ⟨g - 1, by omega⟩
      have : i = n := by omega
      subst this
      show zD78_4_b (zD78_4 g) (17 + 11 * m) (nI v) _ (nI i) μ = _
      unfold zD78_4_b
      rw [zo_in (zS_mode m hm) (by omega), hs, if_pos (nI_le (by omega) (by omega))]
    | succ r ih =>
      intro g i hi hg
      obtain ⟨g, rfl⟩ : ∃ k, g = k + 1 := ⟨g - 1, by omega⟩
      have e := ih g (i + 1) (by omega) (by omega)
      have ht24 : f + i < 24 := by omega
      obtain ⟨d1, d2, d3, d4, d5, d6⟩ := hd (f + i) (by omega) (by omega)
      show zD78_4_b (zD78_4 g) (17 + 11 * m) (nI v) _ (nI i) μ = _
      unfold zD78_4_b zD78_30 zD78_32
      rw [zo_in (zS_mode m hm) (by omega), hs, if_neg (nI_ge (by omega) (by omega)), hR _ _ _ (zR_m m hm).1, zs_some, za_in (zS_18 m hm).1 (by omega), zx_nI (show i < 6 by omega) (by decide), hr i (by omega), zs_some, zo_in (zS_task (f + i) ht24) (by omega), d4, nI_1]
      rw [zpk_s] at e
      by_cases h1 : nd (f + i) = v
      · rw [if_pos (by rw [h1]), hR _ _ _ (zR_62 (f + i) ht24).2, zs_some, zo_in (zS_62 (f + i) ht24).2 (by omega), d5]
        by_cases h2 : 0 < l (f + i)
        · have hok : (decide (nd (f + i) = v) && decide (0 < l (f + i))) = true := by rw [decide_eq_true h1, decide_eq_true h2]; rfl
          rw [if_neg (show ¬ nI (l (f + i)) ≤ (0 : Int32) from nI_nle h2 (by omega))]
          rw [if_pos hok] at e
          cases hz : zpk (fun t => decide (nd t = v) && decide (0 < l t)) en f i with
          | none =>
            rw [hz] at e
            exact e
          | some b =>
            rw [hz] at e
            obtain ⟨b1, b2, -⟩ := zpk_in i b hz
            obtain ⟨c1, c2, c3, c4, c5, c6⟩ := hd b b1 (by omega)
            have hb24 : b < 24 := by omega
            show (zq_s (some (63 + 5 * (f + i))) fun b14 => zq_o b14 6 <| zq_o (61 + 5 * b) 8 <| zq_s (xe_R μ (61 + 5 * b) 14) fun b17 => zq_o b17 6 <| if (xe_I μ b17 1) ≤ (xe_I μ b14 1) then _ else _) = _
            rw [zs_some, zo_in (zS_62 (f + i) ht24).2 (by omega), zo_in (zS_task b hb24) (by omega), hR _ _ _ (zR_62 b hb24).2, zs_some, zo_in (zS_62 b hb24).2 (by omega), c6, d6]
            by_cases h3 : en (f + i) < en b
            · rw [if_neg (nI_ge h3 (by omega))]
              rw [show (match some b with | none => some (f + i) | some b => if en (f + i) < en b then some (f + i) else some b) = some (f + i) from if_pos h3] at e
              exact e
            · rw [if_pos (nI_le (by omega) (by omega))]
              rw [show (match some b with | none => some (f + i) | some b => if en (f + i) < en b then some (f + i) else some b) = some b from if_neg h3] at e
              exact e
        · have hok : ¬ (decide (nd (f + i) = v) && decide (0 < l (f + i))) = true := by rw [decide_eq_false h2, Bool.and_false]; decide
          rw [if_pos (show nI (l (f + i)) ≤ (0 : Int32) from by rw [show l (f + i) = 0 by omega]; decide)]
          rw [if_neg hok] at e
          exact e
      · have hok : ¬ (decide (nd (f + i) = v) && decide (0 < l (f + i))) = true := by rw [decide_eq_false h1, Bool.false_and]; decide
        rw [if_neg (show ¬ nI (nd (f + i)) = nI v from fun w => h1 (by rw [zi_eq (by omega) (by omega)] at w; exact w))]
        rw [if_neg hok] at e
        exact e
  exact hl n zfu 0 (by omega) (zfu_lt (by omega))
/-- endOf -/
theorem z173 {t : Nat} (ht : t < 24) (hsp : xe_I ν 221 t = nI (sp t)) (h1 : 1 ≤ sp t) (h2 : sp t ≤ 120) (hk : k ≤ 120) : zD173 (nI t) (nI k) ν = zint (nI ((k / sp t + 1) * sp t)) ν := by
  unfold zD173
  rw [zx_nI ht (by decide), hsp, zd_ok (nI_ne0 h1 (by omega)), zx_nI ht (by decide), hsp, zn_div (by omega) (by omega), nI_1, zn_mul]
theorem zend_lt {a b : Nat} (ha : a ≤ 120) (h1 : 1 ≤ b) (h2 : b ≤ 120) : (a / b + 1) * b < 1000 := by
  have := Nat.div_mul_le_self a b
  rw [Nat.add_mul]
  omega
/-- chosen -/
theorem z172 (h22 : xe_I ν 203 22 = nI T) (hT : T ≤ 24) (hm : m < 4) (hv : v < 4) (hk : k ≤ 120) (hd : ∀ t, t < T → xe_I ν 218 t = nI m → nd t < 4 ∧ l t ≤ 200 ∧ 1 ≤ sp t ∧ sp t ≤ 120 ∧ xe_I ν 219 t = nI (nd t) ∧ xe_I ν 259 t = nI (l t) ∧ xe_I ν 221 t = nI (sp t)) : zD172 (nI m) (nI v) (nI k) ν = zint (zoi (zpk (fun t => decide (xe_I ν 218 t = nI m) && (decide (nd t = v) && decide (0 < l t))) (fun t => (k / sp t + 1) * sp t) 0 T)) ν := by
  have hl : ∀ r g i : Nat, i + r = T → r < g → zD172_4 g (nI m) (nI v) (nI k) (zoi (zpk (fun t => decide (xe_I ν 218 t = nI m) && (decide (nd t = v) && decide (0 < l t))) (fun t => (k / sp t + 1) * sp t) 0 i)) (nI i) ν = zint (zoi (zpk (fun t => decide (xe_I ν 218 t = nI m) && (decide (nd t = v) && decide (0 < l t))) (fun t => (k / sp t + 1) * sp t) 0 T)) ν := by
    intro r
    induction r with
    | zero =>
      intro g i hi hg
      obtain ⟨g, rfl⟩ : ∃ k, g = k + 1 := ⟨g - 1, by omega⟩
      have : i = T := by omega
      subst this
      show zD172_4_b (zD172_4 g) (nI m) (nI v) (nI k) _ (nI i) ν = _
      unfold zD172_4_b
      rw [h22, if_pos (nI_le (by omega) (by omega))]
    | succ r ih =>
      intro g i hi hg
      obtain ⟨g, rfl⟩ : ∃ k, g = k + 1 := ⟨g - 1, by omega⟩
      have e := ih g (i + 1) (by omega) (by omega)
      have ht24 : i < 24 := by omega
      rw [zpk_s] at e
      rw [Nat.zero_add] at e
      show zD172_4_b (zD172_4 g) (nI m) (nI v) (nI k) _ (nI i) ν = _
      unfold zD172_4_b zD172_27 zD172_28 zD172_42 zD172_44
      rw [h22, if_neg (nI_ge (by omega) (by omega)), zx_nI ht24 (by decide), nI_1]
      by_cases h0 : xe_I ν 218 i = nI m
      · obtain ⟨d1, d2, d3, d4, d5, d6, d7⟩ := hd i (by omega) h0
        rw [if_pos h0, zx_nI ht24 (by decide), d5]
        by_cases h1 : nd i = v
        · rw [if_pos (by rw [h1]), zx_nI ht24 (by decide), d6]
          by_cases h2 : 0 < l i
          · have hok : (decide (xe_I ν 218 i = nI m) && (decide (nd i = v) && decide (0 < l i))) = true := by rw [decide_eq_true h0, decide_eq_true h1, decide_eq_true h2]; rfl
            rw [if_neg (show ¬ nI (l i) ≤ (0 : Int32) from nI_nle h2 (by omega)), if_neg (show ¬ (1 : Int32) = 0 by decide)]
            rw [if_pos hok] at e
            cases hz : zpk (fun t => decide (xe_I ν 218 t = nI m) && (decide (nd t = v) && decide (0 < l t))) (fun t => (k / sp t + 1) * sp t) 0 i with
            | none =>
              rw [hz] at e
              rw [if_pos (show zoi none < 0 by decide)]
              exact e
            | some b =>
              rw [hz] at e
              obtain ⟨b1, b2, b3⟩ := zpk_in i b hz
              have hb0 : xe_I ν 218 b = nI m := by
                rw [Bool.and_eq_true] at b3
                exact of_decide_eq_true b3.1
              obtain ⟨c1, c2, c3, c4, c5, c6, c7⟩ := hd b (by omega) hb0
              have hb24 : b < 24 := by omega
              have hE1 := zend_lt (a := k) (b := sp i) hk d3 d4
              have hE2 := zend_lt (a := k) (b := sp b) hk c3 c4
              rw [if_neg (show ¬ zoi (some b) < 0 from nI_pos (by omega)), z173 ht24 d7 d3 d4 hk, zcI_ok, show zD173 (zoi (some b)) (nI k) ν = _ from z173 hb24 c7 c3 c4 hk, zcI_ok]
              by_cases h3 : (k / sp i + 1) * sp i < (k / sp b + 1) * sp b
              · rw [if_neg (nI_ge h3 (by omega))]
                rw [show (match some b with | none => some i | some b => if (k / sp i + 1) * sp i < (k / sp b + 1) * sp b then some i else some b) = some i from if_pos h3] at e
                exact e
              · rw [if_pos (nI_le (by omega) (by omega))]
                rw [show (match some b with | none => some i | some b => if (k / sp i + 1) * sp i < (k / sp b + 1) * sp b then some i else some b) = some b from if_neg h3] at e
                exact e
          · have hok : ¬ (decide (xe_I ν 218 i = nI m) && (decide (nd i = v) && decide (0 < l i))) = true := by rw [decide_eq_false h2, Bool.and_false, Bool.and_false]; decide
            rw [if_pos (show nI (l i) ≤ (0 : Int32) from by rw [show l i = 0 by omega]; decide), if_pos rfl]
            rw [if_neg hok] at e
            exact e
        · have hok : ¬ (decide (xe_I ν 218 i = nI m) && (decide (nd i = v) && decide (0 < l i))) = true := by rw [decide_eq_false h1, Bool.false_and, Bool.and_false]; decide
          rw [if_neg (show ¬ nI (nd i) = nI v from fun w => h1 (by rw [zi_eq (by omega) (by omega)] at w; exact w)), if_pos rfl]
          rw [if_neg hok] at e
          exact e
      · have hok : ¬ (decide (xe_I ν 218 i = nI m) && (decide (nd i = v) && decide (0 < l i))) = true := by rw [decide_eq_false h0, Bool.false_and]; decide
        rw [if_neg h0, if_pos rfl]
        rw [if_neg hok] at e
        exact e
  exact hl T zfu 0 (by omega) (zfu_lt (by omega))
end
