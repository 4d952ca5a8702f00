/-! names are looked up -/
def zff (E : Nat → Bool) : Nat → Nat → Int32
  | 0, _ => -1
  | m + 1, i => if E i = true then nI i else zff E m (i + 1)
theorem zff_no {E : Nat → Bool} : ∀ m i, (∀ y, i ≤ y → y < i + m → E y = false) → zff E m i = -1 := by
  intro m
  induction m with
  | zero => intro i _; rfl
  | succ m ih =>
    intro i h
    unfold zff
    rw [if_neg (by rw [h i (by omega) (by omega)]; decide)]
    exact ih (i + 1) (fun y h1 h2 => h y (by omega) (by omega))
theorem zff_one {E : Nat → Bool} {z : Nat} (hz : E z = true) : ∀ m i, i ≤ z → z < i + m → (∀ y, i ≤ y → y < z → E y = false) → zff E m i = nI z := by
  intro m
  induction m with
  | zero => intro i h1 h2; omega
  | succ m ih =>
    intro i h1 h2 h
    unfold zff
    by_cases hw : i = z
    · subst hw
      rw [if_pos hz]
    · rw [if_neg (by rw [h i (by omega) (by omega)]; decide)]
      exact ih (i + 1) (by omega) (by omega) (fun y h3 h4 => h y (by omega) (by omega))
section
variable {μ : xe_Mem} {x : Int64}
/-- Names.find, of an object at a whose names are at b -/
theorem z39l {a b cap : Nat} (ha : xv_S[a]? = some (.inl 3)) (ha2 : a < 203) (hR : xe_R μ a 0 = some b) (hb : xv_S[b]? = some (.inr (1, cap))) (hb2 : b < 203) (hcap : cap ≤ 100) {s : Nat} (hs : xe_I μ a 3 = nI s) (hsc : s ≤ cap) : ∀ m f i : Nat, i + m = s → m < f → zD39_2 f a x (nI i) μ = zint (zff (fun e => decide (xe_L μ b e = x)) m i) μ := by
  intro m
  induction m with
  | zero =>
    intro f i hi hf
    obtain ⟨f, rfl⟩ : ∃ g, f = g + 1 := ⟨f - 1, by omega⟩
    show zD39_2_b (zD39_2 f) a x (nI i) μ = _
    unfold zD39_2_b
    rw [zo_in ha ha2, hs, if_pos (nI_le (by omega) (by omega))]
    rfl
  | succ m ih =>
    intro f i hi hf
    obtain ⟨f, rfl⟩ : ∃ g, f = g + 1 := ⟨f - 1, by omega⟩
    show zD39_2_b (zD39_2 f) a x (nI i) μ = _
    unfold zD39_2_b
    rw [zo_in ha ha2, hs, if_neg (nI_ge (by omega) (by omega)), hR, zs_some, za_in hb hb2, zx_nI (show i < cap by omega) (by omega)]
    unfold zff
    by_cases h : xe_L μ b i = x
    · rw [if_pos ((lg_cmp_eq _ _).mpr h)]
      simp only [decide_eq_true h, if_true]
    · rw [if_neg (fun q => h ((lg_cmp_eq _ _).mp q)), nI_1, ih f (i + 1) (by omega) (by omega)]
      simp only [decide_eq_false h, Bool.false_eq_true, if_false]
theorem z144l {s : Nat} (hs : xe_I μ 203 12 = nI s) (hsc : s ≤ 12) : ∀ m f i : Nat, i + m = s → m < f → zD144_2 f x (nI i) μ = zint (zff (fun e => decide (xe_L μ 210 e = x)) m i) μ := by
  intro m
  induction m with
  | zero =>
    intro f i hi hf
    obtain ⟨f, rfl⟩ : ∃ g, f = g + 1 := ⟨f - 1, by omega⟩
    show zD144_2_b (zD144_2 f) x (nI i) μ = _
    unfold zD144_2_b
    rw [hs, if_pos (nI_le (by omega) (by omega))]
    rfl
  | succ m ih =>
    intro f i hi hf
    obtain ⟨f, rfl⟩ : ∃ g, f = g + 1 := ⟨f - 1, by omega⟩
    show zD144_2_b (zD144_2 f) x (nI i) μ = _
    unfold zD144_2_b
    rw [hs, if_neg (nI_ge (by omega) (by omega)), zx_nI (show i < 12 by omega) (by decide)]
    unfold zff
    by_cases h : xe_L μ 210 i = x
    · rw [if_pos ((lg_cmp_eq _ _).mpr h)]
      simp only [decide_eq_true h, if_true]
    · rw [if_neg (fun q => h ((lg_cmp_eq _ _).mp q)), nI_1, ih f (i + 1) (by omega) (by omega)]
      simp only [decide_eq_false h, Bool.false_eq_true, if_false]
theorem z145l {s : Nat} (hs : xe_I μ 203 15 = nI s) (hsc : s ≤ 4) : ∀ m f i : Nat, i + m = s → m < f → zD145_2 f x (nI i) μ = zint (zff (fun e => decide (xe_L μ 212 e = x)) m i) μ := by
  intro m
  induction m with
  | zero =>
    intro f i hi hf
    obtain ⟨f, rfl⟩ : ∃ g, f = g + 1 := ⟨f - 1, by omega⟩
    show zD145_2_b (zD145_2 f) x (nI i) μ = _
    unfold zD145_2_b
    rw [hs, if_pos (nI_le (by omega) (by omega))]
    rfl
  | succ m ih =>
    intro f i hi hf
    obtain ⟨f, rfl⟩ : ∃ g, f = g + 1 := ⟨f - 1, by omega⟩
    show zD145_2_b (zD145_2 f) x (nI i) μ = _
    unfold zD145_2_b
    rw [hs, if_neg (nI_ge (by omega) (by omega)), zx_nI (show i < 4 by omega) (by decide)]
    unfold zff
    by_cases h : xe_L μ 212 i = x
    · rw [if_pos ((lg_cmp_eq _ _).mpr h)]
      simp only [decide_eq_true h, if_true]
    · rw [if_neg (fun q => h ((lg_cmp_eq _ _).mp q)), nI_1, ih f (i + 1) (by omega) (by omega)]
      simp only [decide_eq_false h, Bool.false_eq_true, if_false]
theorem z152l {s : Nat} (hs : xe_I μ 203 17 = nI s) (hsc : s ≤ 4) : ∀ m f i : Nat, i + m = s → m < f → zD152_2 f x (nI i) μ = zint (zff (fun e => decide (xe_L μ 213 e = x)) m i) μ := by
  intro m
  induction m with
  | zero =>
    intro f i hi hf
    obtain ⟨f, rfl⟩ : ∃ g, f = g + 1 := ⟨f - 1, by omega⟩
    show zD152_2_b (zD152_2 f) x (nI i) μ = _
    unfold zD152_2_b
    rw [hs, if_pos (nI_le (by omega) (by omega))]
    rfl
  | succ m ih =>
    intro f i hi hf
    obtain ⟨f, rfl⟩ : ∃ g, f = g + 1 := ⟨f - 1, by omega⟩
    show zD152_2_b (zD152_2 f) x (nI i) μ = _
    unfold zD152_2_b
    rw [hs, if_neg (nI_ge (by omega) (by omega)), zx_nI (show i < 4 by omega) (by decide)]
    unfold zff
    by_cases h : xe_L μ 213 i = x
    · rw [if_pos ((lg_cmp_eq _ _).mpr h)]
      simp only [decide_eq_true h, if_true]
    · rw [if_neg (fun q => h ((lg_cmp_eq _ _).mp q)), nI_1, ih f (i + 1) (by omega) (by omega)]
      simp only [decide_eq_false h, Bool.false_eq_true, if_false]
end
/-- what both know of names: P ports, S sensors, and Lc locals of the task at hand; tk: a task is at hand -/
def zNm (μ ν : xe_Mem) (P S Lc : Nat) (tk : Bool) : Prop := P ≤ 12 ∧ S ≤ 4 ∧ Lc ≤ 6 ∧ xe_I μ 182 3 = nI (P + S + Lc) ∧ xe_I ν 203 12 = nI P ∧ xe_I ν 203 15 = nI S ∧
  (∀ e, e < P + S → (∃ p, p < P ∧ xe_I μ 184 e = 2 ∧ xe_I μ 185 e = nI p ∧ xe_L μ 183 e = xe_L ν 210 p) ∨ (∃ s, s < S ∧ xe_I μ 184 e = 3 ∧ xe_I μ 185 e = nI s ∧ xe_L μ 183 e = xe_L ν 212 s)) ∧
  (∀ p, p < P → ∃ e, e < P + S ∧ xe_I μ 184 e = 2 ∧ xe_I μ 185 e = nI p ∧ xe_L μ 183 e = xe_L ν 210 p) ∧
  (∀ s, s < S → ∃ e, e < P + S ∧ xe_I μ 184 e = 3 ∧ xe_I μ 185 e = nI s ∧ xe_L μ 183 e = xe_L ν 212 s) ∧
  (∀ e e', e < P + S + Lc → e' < P + S + Lc → xe_L μ 183 e = xe_L μ 183 e' → e = e') ∧
  (∀ l, l < Lc → tk = true ∧ xe_L μ 183 (P + S + l) = xe_L ν 241 l ∧ xe_I μ 185 (P + S + l) = nI l ∧ ((xe_I μ 184 (P + S + l) = 4 ∧ xe_I ν 242 l = 1) ∨ (xe_I μ 184 (P + S + l) = 0 ∧ xe_I ν 242 l = 0))) ∧
  (tk = true → ∀ l, Lc ≤ l → l < 6 → xe_I ν 242 l = 0)
section
variable {μ ν : xe_Mem} {P S Lc : Nat} {tk : Bool} {x : Int64}
/-- what a name x is, to both -/
theorem z_look (h : zNm μ ν P S Lc tk) (hR : xe_R μ 182 0 = some 183) :
    (∃ e p, e < P + S ∧ p < P ∧ zD39 182 x μ = zint (nI e) μ ∧ xe_I μ 184 e = 2 ∧ xe_I μ 185 e = nI p ∧ zD144 x ν = zint (nI p) ν ∧ zD145 x ν = zint (-1) ν ∧ ∀ l, l < Lc → ¬ xe_L ν 241 l = x) ∨
    (∃ e s, e < P + S ∧ s < S ∧ zD39 182 x μ = zint (nI e) μ ∧ xe_I μ 184 e = 3 ∧ xe_I μ 185 e = nI s ∧ zD144 x ν = zint (-1) ν ∧ zD145 x ν = zint (nI s) ν ∧ ∀ l, l < Lc → ¬ xe_L ν 241 l = x) ∨
    (∃ l, l < Lc ∧ zD39 182 x μ = zint (nI (P + S + l)) μ ∧ xe_L ν 241 l = x ∧ zD144 x ν = zint (-1) ν ∧ zD145 x ν = zint (-1) ν ∧ ∀ y, y < Lc → xe_L ν 241 y = x → y = l) ∨
    (zD39 182 x μ = zint (-1) μ ∧ zD144 x ν = zint (-1) ν ∧ zD145 x ν = zint (-1) ν ∧ (∀ l, l < Lc → ¬ xe_L ν 241 l = x) ∧ ∀ e, e < P + S + Lc → ¬ xe_L μ 183 e = x) := by
  obtain ⟨h1, h2, h3, h4, h5, h6, h7, h8, h9, h10, h11, h12⟩ := h
  have eC : zD39 182 x μ = zint (zff (fun e => decide (xe_L μ 183 e = x)) (P + S + Lc) 0) μ := z39l (cap := 22) rfl (by decide) hR rfl (by decide) (by decide) h4 (by omega) (P + S + Lc) zfu 0 (by omega) (zfu_lt (by omega))
  have eP : zD144 x ν = zint (zff (fun e => decide (xe_L ν 210 e = x)) P 0) ν := z144l h5 h1 P zfu 0 (by omega) (zfu_lt (by omega))
  have eS : zD145 x ν = zint (zff (fun e => decide (xe_L ν 212 e = x)) S 0) ν := z145l h6 h2 S zfu 0 (by omega) (zfu_lt (by omega))
  have fnd : ∀ e, e < P + S + Lc → xe_L μ 183 e = x → zD39 182 x μ = zint (nI e) μ := by
    intro e he hx
    rw [eC, zff_one (E := fun e => decide (xe_L μ 183 e = x)) (z := e) (decide_eq_true hx) (P + S + Lc) 0 (by omega) (by omega) (fun y q1 q2 => decide_eq_false (fun hy => by
      have := h10 y e (by omega) he (hy.trans hx.symm)
      omega))]
  have noP : (∀ p, p < P → ¬ xe_L ν 210 p = x) → zD144 x ν = zint (-1) ν := fun q => by
    rw [eP, zff_no P 0 (fun y q1 q2 => decide_eq_false (q y (by omega)))]
  have noS : (∀ s, s < S → ¬ xe_L ν 212 s = x) → zD145 x ν = zint (-1) ν := fun q => by
    rw [eS, zff_no S 0 (fun y q1 q2 => decide_eq_false (q y (by omega)))]
  by_cases hex : ∃ e, e < P + S + Lc ∧ xe_L μ 183 e = x
  · obtain ⟨e, he, hx⟩ := hex
    have hf := fnd e he hx
    by_cases hps : e < P + S
    · have noL : ∀ l, l < Lc → ¬ xe_L ν 241 l = x := fun l hl hy => by
        have := h10 (P + S + l) e (by omega) he (((h11 l hl).2.1.trans hy).trans hx.symm)
        omega
      rcases h7 e hps with ⟨p, hp, a1, a2, a3⟩ | ⟨s, hs, a1, a2, a3⟩
      · refine Or.inl ⟨e, p, hps, hp, hf, a1, a2, ?_, noS (fun s hs hy => ?_), noL⟩
        · rw [eP, zff_one (E := fun e => decide (xe_L ν 210 e = x)) (z := p) (decide_eq_true (a3.symm.trans hx)) P 0 (by omega) (by omega) (fun y q1 q2 => decide_eq_false (fun hy => by
            obtain ⟨e', b1, b2, b3, b4⟩ := h8 y (by omega)
            have := h10 e' e (by omega) he ((b4.trans hy).trans hx.symm)
            rw [this, a2, zi_eq (by omega) (by omega)] at b3
            omega))]
        · obtain ⟨e', b1, b2, b3, b4⟩ := h9 s hs
          have := h10 e' e (by omega) he ((b4.trans hy).trans hx.symm)
          rw [this, a1] at b2
          exact absurd b2 (by decide)
      · refine Or.inr (Or.inl ⟨e, s, hps, hs, hf, a1, a2, noP (fun p hp hy => ?_), ?_, noL⟩)
        · obtain ⟨e', b1, b2, b3, b4⟩ := h8 p hp
          have := h10 e' e (by omega) he ((b4.trans hy).trans hx.symm)
          rw [this, a1] at b2
          exact absurd b2 (by decide)
        · rw [eS, zff_one (E := fun e => decide (xe_L ν 212 e = x)) (z := s) (decide_eq_true (a3.symm.trans hx)) S 0 (by omega) (by omega) (fun y q1 q2 => decide_eq_false (fun hy => by
            obtain ⟨e', b1, b2, b3, b4⟩ := h9 y (by omega)
            have := h10 e' e (by omega) he ((b4.trans hy).trans hx.symm)
            rw [this, a2, zi_eq (by omega) (by omega)] at b3
            omega))]
    · obtain ⟨l, rfl⟩ : ∃ l, e = P + S + l := ⟨e - (P + S), by omega⟩
      refine Or.inr (Or.inr (Or.inl ⟨l, by omega, hf, (h11 l (by omega)).2.1.symm.trans hx, noP (fun p hp hy => ?_), noS (fun s hs hy => ?_), fun y hy hyx => ?_⟩))
      · obtain ⟨e', b1, b2, b3, b4⟩ := h8 p hp
        have := h10 e' (P + S + l) (by omega) he ((b4.trans hy).trans hx.symm)
        omega
      · obtain ⟨e', b1, b2, b3, b4⟩ := h9 s hs
        have := h10 e' (P + S + l) (by omega) he ((b4.trans hy).trans hx.symm)
        omega
      · have := h10 (P + S + y) (P + S + l) (by omega) he (((h11 y hy).2.1.trans hyx).trans hx.symm)
        omega
  · have hn : ∀ e, e < P + S + Lc → ¬ xe_L μ 183 e = x := fun e he hx => hex ⟨e, he, hx⟩
    refine Or.inr (Or.inr (Or.inr ⟨?_, noP (fun p hp hy => ?_), noS (fun s hs hy => ?_), fun l hl hy => hn (P + S + l) (by omega) ((h11 l hl).2.1.trans hy), hn⟩))
    · rw [eC, zff_no (P + S + Lc) 0 (fun y q1 q2 => decide_eq_false (hn y (by omega)))]
    · obtain ⟨e', b1, b2, b3, b4⟩ := h8 p hp
      exact hn e' (by omega) (b4.trans hy)
    · obtain ⟨e', b1, b2, b3, b4⟩ := h9 s hs
      exact hn e' (by omega) (b4.trans hy)
end
