/-! checking a mode: the nodes of a tick -/
def zvl (d : Nat → Nat → Nat) (ν : xe_Mem) (t r : Nat) : Int32 := if 0 ≤ xe_I ν 230 (120 * t + r) then nI ((r + 1) * d 0 t) - xe_I ν 230 (120 * t + r) else -1
def zmi (g : Nat → Int32) (s : Nat) : Nat → Int32
  | 0 => nI s
  | r + 1 => zmin2 (g r) (zmi g s r)
theorem zmi_c {g g' : Nat → Int32} {s : Nat} : ∀ k, (∀ r, r < k → g r = g' r) → zmi g s k = zmi g' s k := by
  intro k
  induction k with
  | zero => intro _; rfl
  | succ k ih =>
    intro h
    show zmin2 (g k) (zmi g s k) = zmin2 (g' k) (zmi g' s k)
    rw [h k (by omega), ih (fun r hr => h r (by omega))]
/-- a run that is behind: missed, or done at dd -/
def zDn (d : Nat → Nat → Nat) (f n : Nat) (ν : xe_Mem) (t r : Nat) : Prop := xe_I ν 230 (120 * t + r) = -1 ∨ ∃ dd, xe_I ν 230 (120 * t + r) = nI dd ∧ r * d 0 t ≤ dd ∧ dd ≤ (r + 1) * d 0 t ∧ ∀ j, r * d 0 t ≤ j → j < (r + 1) * d 0 t → (zLf d f n j t = 0 ↔ dd ≤ j)
/-- both within the tick k, the nodes below v have run -/
def zNi (m f n per T : Nat) (d : Nat → Nat → Nat) (ns fm : Nat → Nat) (v k : Nat) (μ ν : xe_Mem) : Prop := zSt m f n per T d ns fm μ ν ∧ ∀ t, f ≤ t → t < f + n → (xe_I μ (63 + 5 * t) 0 = nI (zAv d f n v k t) ∧ xe_I μ (63 + 5 * t) 1 = nI (zEn d k t) ∧ xe_I ν 259 t = nI (zAv d f n v k t)) ∧
  (zAv d f n v k t = 0 → ∃ dd, xe_I ν 230 (120 * t + k / d 0 t) = nI dd ∧ k / d 0 t * d 0 t ≤ dd ∧ dd ≤ k + 1 ∧ ∀ j, k / d 0 t * d 0 t ≤ j → j ≤ k → (zLf d f n j t = 0 ↔ dd ≤ j)) ∧
  (∀ r, r < k / d 0 t → zDn d f n ν t r) ∧ xe_I μ (61 + 5 * t) 13 = zmi (zvl d ν t) (d 0 t) (k / d 0 t + (if zAv d f n v k t = 0 then 1 else 0))
def zX7n (f n a j : Nat) : Prop := ∃ t, f ≤ t ∧ t < f + n ∧ ((a = 61 + 5 * t ∧ j = 13) ∨ (a = 63 + 5 * t ∧ j = 0))
section
variable {m f n per T k v : Nat} {d : Nat → Nat → Nat} {ns fm : Nat → Nat} {μ ν μ' ν' : xe_Mem}
/-- within a span what is left grows never -/
theorem zLf_m {t : Nat} (h1 : 1 ≤ d 0 t) (h2 : d 2 t < 4) : ∀ i j, j / d 0 t = (j + i) / d 0 t → zLf d f n (j + i) t ≤ zLf d f n j t := by
  intro i
  induction i with
  | zero => intro j _; exact Nat.le_refl _
  | succ i ih =>
    intro j h
    have hm1 : j / d 0 t ≤ (j + i) / d 0 t := Nat.div_le_div_right (by omega)
    have hm2 : (j + i) / d 0 t ≤ (j + (i + 1)) / d 0 t := Nat.div_le_div_right (by omega)
    have e := ih j (by omega)
    have hEq : (j + (i + 1)) / d 0 t = (j + i) / d 0 t := by omega
    have hnz : ¬ (j + (i + 1)) % d 0 t = 0 := fun w => by
      have a1 := Nat.div_add_mod (j + (i + 1)) (d 0 t)
      have a2 := Nat.div_add_mod (j + i) (d 0 t)
      have a3 := Nat.mod_lt (j + i) h1
      rw [w, hEq] at a1
      omega
    show zLf d f n (j + i + 1) t ≤ _
    rw [zLf_s h2, if_neg (show ¬ (j + i + 1) % d 0 t = 0 from hnz)]
    unfold zAv
    omega
theorem zdiv_s {a b : Nat} (hb : 1 ≤ b) : a / b * b ≤ a ∧ a < (a / b + 1) * b := by
  have h1 := Nat.div_add_mod a b
  have h2 := Nat.mod_lt a hb
  rw [Nat.mul_comm] at h1
  rw [Nat.add_mul]
  omega
theorem zdiv_i {a b j : Nat} (hb : 1 ≤ b) (h1 : a * b ≤ j) (h2 : j < (a + 1) * b) : j / b = a := by
  have := zdiv_s (a := j) hb
  rcases Nat.lt_trichotomy (j / b) a with h | h | h
  · have : (j / b + 1) * b ≤ a * b := Nat.mul_le_mul_right b h
    omega
  · exact h
  · have : (a + 1) * b ≤ j / b * b := Nat.mul_le_mul_right b h
    omega
theorem zc77_o {l : Nat → Nat} {b : Option Nat} {c j : Nat} (h : ∀ t, b = some t → ¬ (c = 63 + 5 * t ∧ j = 0) ∧ ¬ (c = 61 + 5 * t ∧ j = 13)) : xe_I (zc77 μ d k l b) c j = xe_I μ c j := by
  cases b with
  | none => rfl
  | some t =>
    obtain ⟨h1, h2⟩ := h t rfl
    show xe_I (if l t = 1 then _ else _) c j = _
    split
    · rw [xu_In h2, xu_In h1]
    · rw [xu_In h1]
theorem zr77_o {l : Nat → Nat} {b : Option Nat} {c j : Nat} (h : ∀ t, b = some t → ¬ (c = 259 ∧ j = t) ∧ ¬ (c = 230 ∧ j = 120 * t + k / d 0 t)) : xe_I (zr77 ν d k l b) c j = xe_I ν c j := by
  cases b with
  | none => rfl
  | some t =>
    obtain ⟨h1, h2⟩ := h t rfl
    show xe_I (if l t = 1 then _ else _) c j = _
    split
    · rw [xu_In h2, xu_In h1]
    · rw [xu_In h1]
theorem zc77_L {l : Nat → Nat} {b : Option Nat} : xe_L (zc77 μ d k l b) = xe_L μ ∧ xe_R (zc77 μ d k l b) = xe_R μ := by
  cases b with
  | none => exact ⟨rfl, rfl⟩
  | some t =>
    show xe_L (if l t = 1 then _ else _) = _ ∧ xe_R (if l t = 1 then _ else _) = _
    split <;> exact ⟨rfl, rfl⟩
theorem zr77_L {l : Nat → Nat} {b : Option Nat} : xe_L (zr77 ν d k l b) = xe_L ν ∧ xe_R (zr77 ν d k l b) = xe_R ν := by
  cases b with
  | none => exact ⟨rfl, rfl⟩
  | some t =>
    show xe_L (if l t = 1 then _ else _) = _ ∧ xe_R (if l t = 1 then _ else _) = _
    split <;> exact ⟨rfl, rfl⟩
theorem zX7_n (hm : m < 4) : ∀ a j, zX7n f n a j → zX7 m f n a j := fun a j h => by
  obtain ⟨t, h1, h2, h3⟩ := h
  refine Or.inr (Or.inr (Or.inr ⟨t, h1, h2, ?_⟩))
  omega
/-- a node has run -/
theorem z_node (h : zNi m f n per T d ns fm v k μ ν) (hv : v < 4) (hk : k < per) : zNi m f n per T d ns fm (v + 1) k (zc77 μ d k (zAv d f n v k) (zCh d f n k v)) (zr77 ν d k (zAv d f n v k) (zCh d f n k v)) ∧ zfG (zX7n f n) zZu zZu μ (zc77 μ d k (zAv d f n v k) (zCh d f n k v)) ∧ zfG (zX8 m) zZu zZu ν (zr77 ν d k (zAv d f n v k) (zCh d f n k v)) := by
  obtain ⟨hs, ht⟩ := h
  obtain ⟨-, ⟨b1, b2, b3, b4, b5, b6⟩, -, hst, -⟩ := id hs
  have G1 : zfG (zX7n f n) zZu zZu μ (zc77 μ d k (zAv d f n v k) (zCh d f n k v)) := fun a ha j => ⟨fun q => zc77_o (fun t hb => by
    obtain ⟨w1, w2, -⟩ := zCh_in hb
    exact ⟨fun w => q ⟨t, w1, w2, Or.inr w⟩, fun w => q ⟨t, w1, w2, Or.inl w⟩⟩), fun _ => by rw [zc77_L.1], fun _ => by rw [zc77_L.2]⟩
  have G2 : zfG (zX8 m) zZu zZu ν (zr77 ν d k (zAv d f n v k) (zCh d f n k v)) := fun a ha j => ⟨fun q => zr77_o (fun t hb => ⟨fun w => q (Or.inl w.1), fun w => q (Or.inr (Or.inl w.1))⟩), fun _ => by rw [zr77_L.1], fun _ => by rw [zr77_L.2]⟩
  refine ⟨⟨zSt_k hs (zfG_w G1 (zX7_n b1) (fun a j q => q) (fun a j q => absurd rfl q.2)) G2, fun t h1 h2 => ?_⟩, G1, G2⟩
  obtain ⟨⟨a1, a2, a3⟩, a4, a5, a6⟩ := ht t h1 h2
  obtain ⟨⟨q1, q2, q3, q4, q5⟩, -, -⟩ := hst t h1 h2
  have hdv : k / d 0 t ≤ k := Nat.div_le_self _ _
  by_cases e : zCh d f n k v = some t
  · have hlt := zAv_v e
    obtain ⟨-, -, -, hpos⟩ := zCh_in e
    have hA : zAv d f n (v + 1) k t = zLf d f n k t - 1 := by rw [zAv_s, if_pos e]
    have hle := zLf_le (d := d) (f := f) (n := n) q5 k
    rw [e]
    by_cases h6 : zAv d f n v k t = 1
    · have hc : zc77 μ d k (zAv d f n v k) (some t) = xe_setI (xe_setI μ (63 + 5 * t) 0 (nI (zAv d f n v k t - 1))) (61 + 5 * t) 13 (zmin2 (nI (zEn d k t) - nI (k + 1)) (xe_I μ (61 + 5 * t) 13)) := if_pos h6
      have hr : zr77 ν d k (zAv d f n v k) (some t) = xe_setI (xe_setI ν 259 t (nI (zAv d f n v k t - 1))) 230 (120 * t + k / d 0 t) (nI (k + 1)) := if_pos h6
      have h0 : zAv d f n (v + 1) k t = 0 := by omega
      rw [hc, hr, h0]
      refine ⟨⟨?_, ?_, ?_⟩, fun _ => ⟨k + 1, xu_I, ?_, Nat.le_refl _, fun j w1 w2 => ?_⟩, fun r hr2 => ?_, ?_⟩
      · rw [xu_In (by omega), h6]
        exact xu_I
      · rw [xu_In (by omega), xu_In (by omega)]
        exact a2
      · rw [xu_In (by omega), h6]
        exact xu_I
      · have := (zdiv_s (a := k) q1).1
        omega
      · have hdj : j / d 0 t = k / d 0 t := zdiv_i q1 w1 (by have := (zdiv_s (a := k) q1).2; omega)
        have hmono := zLf_m (d := d) (f := f) (n := n) q1 q5 (k - j) j (by rw [show j + (k - j) = k by omega]; exact hdj)
        rw [show j + (k - j) = k by omega] at hmono
        constructor
        · intro w
          omega
        · intro w
          omega
      · have e230 : xe_I (xe_setI (xe_setI ν 259 t (nI (zAv d f n v k t - 1))) 230 (120 * t + k / d 0 t) (nI (k + 1))) 230 (120 * t + r) = xe_I ν 230 (120 * t + r) := by
          rw [xu_In (by omega), xu_In (by omega)]
        unfold zDn
        rw [e230]
        exact a5 r hr2
      · rw [if_pos rfl]
        rw [if_neg (by omega)] at a6
        show xe_I (xe_setI (xe_setI μ (63 + 5 * t) 0 (nI (zAv d f n v k t - 1))) (61 + 5 * t) 13 (zmin2 (nI (zEn d k t) - nI (k + 1)) (xe_I μ (61 + 5 * t) 13))) (61 + 5 * t) 13 = zmin2 (zvl d _ t (k / d 0 t)) (zmi (zvl d _ t) (d 0 t) (k / d 0 t))
        rw [xu_I, show xe_I μ (61 + 5 * t) 13 = zmi (zvl d ν t) (d 0 t) (k / d 0 t) from a6]
        have ev : zvl d (xe_setI (xe_setI ν 259 t (nI (zAv d f n v k t - 1))) 230 (120 * t + k / d 0 t) (nI (k + 1))) t (k / d 0 t) = nI (zEn d k t) - nI (k + 1) := by
          unfold zvl
          rw [xu_I, if_pos (nI_pos' (by omega))]
          rfl
        rw [ev, zmi_c (g := zvl d ν t) (k / d 0 t) (fun r hr2 => ?_)]
        unfold zvl
        rw [show xe_I (xe_setI (xe_setI ν 259 t (nI (zAv d f n v k t - 1))) 230 (120 * t + k / d 0 t) (nI (k + 1))) 230 (120 * t + r) = xe_I ν 230 (120 * t + r) from by rw [xu_In (by omega), xu_In (by omega)]]
    · have hc : zc77 μ d k (zAv d f n v k) (some t) = xe_setI μ (63 + 5 * t) 0 (nI (zAv d f n v k t - 1)) := if_neg h6
      have hr : zr77 ν d k (zAv d f n v k) (some t) = xe_setI ν 259 t (nI (zAv d f n v k t - 1)) := if_neg h6
      have h0 : zAv d f n (v + 1) k t = zAv d f n v k t - 1 := by omega
      rw [hc, hr, h0]
      have e230 : ∀ i, xe_I (xe_setI ν 259 t (nI (zAv d f n v k t - 1))) 230 i = xe_I ν 230 i := fun i => xu_In (by omega)
      refine ⟨⟨xu_I, ?_, xu_I⟩, fun w => absurd w (by omega), fun r hr2 => ?_, ?_⟩
      · rw [xu_In (by omega)]
        exact a2
      · unfold zDn
        rw [e230]
        exact a5 r hr2
      · rw [xu_In (by omega), a6, if_neg (by omega), if_neg (by omega)]
        refine zmi_c _ (fun r _ => ?_)
        unfold zvl
        rw [e230]
  · have hA : zAv d f n (v + 1) k t = zAv d f n v k t := by rw [zAv_s, if_neg e]
    have kc : ∀ j, (j ≠ 0 ∨ True) → xe_I (zc77 μ d k (zAv d f n v k) (zCh d f n k v)) (63 + 5 * t) j = xe_I μ (63 + 5 * t) j := fun j _ => zc77_o (fun t' hb => by
      have : t' ≠ t := fun w => e (by rw [hb, w])
      exact ⟨by omega, by omega⟩)
    have kd : ∀ j, xe_I (zc77 μ d k (zAv d f n v k) (zCh d f n k v)) (61 + 5 * t) j = xe_I μ (61 + 5 * t) j := fun j => zc77_o (fun t' hb => by
      have : t' ≠ t := fun w => e (by rw [hb, w])
      exact ⟨by omega, by omega⟩)
    have kr : xe_I (zr77 ν d k (zAv d f n v k) (zCh d f n k v)) 259 t = xe_I ν 259 t := zr77_o (fun t' hb => by
      have : t' ≠ t := fun w => e (by rw [hb, w])
      exact ⟨by omega, by omega⟩)
    have e230 : ∀ r, r < 120 → xe_I (zr77 ν d k (zAv d f n v k) (zCh d f n k v)) 230 (120 * t + r) = xe_I ν 230 (120 * t + r) := fun r hr => zr77_o (fun t' hb => by
      have : t' ≠ t := fun w => e (by rw [hb, w])
      have hw : k / d 0 t' ≤ k := Nat.div_le_self _ _
      generalize k / d 0 t' = w at hw ⊢
      exact ⟨by omega, by omega⟩)
    rw [hA]
    refine ⟨⟨(kc 0 (Or.inr trivial)).trans a1, (kc 1 (Or.inr trivial)).trans a2, kr.trans a3⟩, fun w => ?_, fun r hr2 => ?_, ?_⟩
    · rw [e230 _ (by omega)]
      exact a4 w
    · unfold zDn
      rw [e230 r (by omega)]
      exact a5 r hr2
    · rw [kd, a6]
      refine zmi_c _ (fun r hr2 => ?_)
      unfold zvl
      rw [e230 r (by split at hr2 <;> omega)]
theorem zr77_d (hs : zSt m f n per T d ns fm μ ν) (hk : k < per) {l : Nat → Nat} {v t r : Nat} (h1 : f ≤ t) (h2 : t < f + n) (hr : r < k / d 0 t) : xe_I (zr77 ν d k l (zCh d f n k v)) 230 (120 * t + r) = xe_I ν 230 (120 * t + r) := by
  obtain ⟨-, ⟨b1, b2, b3, b4, b5, b6⟩, -, hst, -⟩ := id hs
  refine zr77_o (fun t' hb => ⟨by omega, fun w => ?_⟩)
  have hdv : k / d 0 t ≤ k := Nat.div_le_self _ _
  have hdv' : k / d 0 t' ≤ k := Nat.div_le_self _ _
  obtain ⟨w1, w2⟩ := w
  by_cases e : t' = t
  · subst e
    omega
  · generalize k / d 0 t' = q' at hdv' w2
    generalize k / d 0 t = q at hdv hr
    omega
/-- the nodes of a tick -/
theorem z_nodes {c7 : Nat → Int32 → xe_Mem → zO} {c44 : Int32 → Int32 → Int32 → Int32 → xe_Mem → zO} {v2 v3 : Int32} (hk : k < per) : ∀ (r v g g' : Nat) (μ ν : xe_Mem), v + r = 4 → r < g → r < g' → zNi m f n per T d ns fm v k μ ν →
    ∃ μ' ν', zD71_24 c7 g (17 + 11 * m) (nI k) (nI v) μ = (zq_cV (zD79 (17 + 11 * m) (nI (k + 1)) μ') fun m17 => c7 (17 + 11 * m) (nI (k + 1)) m17) ∧ zD171_127 c44 g' (nI m) v2 v3 (nI k) (nI v) ν = c44 (nI m) v2 v3 (nI (k + 1)) ν' ∧ zNi m f n per T d ns fm 4 k μ' ν' ∧ zfG (zX7n f n) zZu zZu μ μ' ∧ zfG (zX8 m) zZu zZu ν ν' ∧ ∀ t r, f ≤ t → t < f + n → r < k / d 0 t → xe_I ν' 230 (120 * t + r) = xe_I ν 230 (120 * t + r) := by
  intro r
  induction r with
  | zero =>
    intro v g g' μ ν hv hg hg' h
    obtain ⟨g, rfl⟩ : ∃ k, g = k + 1 := ⟨g - 1, by omega⟩
    obtain ⟨g', rfl⟩ : ∃ k, g' = k + 1 := ⟨g' - 1, by omega⟩
    have hv4 : v = 4 := by omega
    subst hv4
    have b1 := h.1.2.1.1
    refine ⟨μ, ν, ?_, ?_, h, zfG_r, zfG_r, fun _ _ _ _ _ => rfl⟩
    · show zD71_24_b c7 (zD71_24 c7 g) (17 + 11 * m) (nI k) (nI 4) μ = _
      unfold zD71_24_b
      rw [if_pos (show (4 : Int32) ≤ nI 4 by decide), zo_in (zS_mode m b1) (by omega), nI_1]
    · show zD171_127_b c44 (zD171_127 c44 g') (nI m) v2 v3 (nI k) (nI 4) ν = _
      unfold zD171_127_b zD171_176
      rw [if_pos (show (4 : Int32) ≤ nI 4 by decide), nI_1]
  | succ r ih =>
    intro v g g' μ ν hv hg hg' h
    obtain ⟨g, rfl⟩ : ∃ k, g = k + 1 := ⟨g - 1, by omega⟩
    obtain ⟨g', rfl⟩ : ∃ k, g' = k + 1 := ⟨g' - 1, by omega⟩
    have b1 := h.1.2.1.1
    obtain ⟨n1, n2, n3⟩ := z_node h (by omega) hk
    have hA : zD71_24 c7 (g + 1) (17 + 11 * m) (nI k) (nI v) μ = zD71_24 c7 g (17 + 11 * m) (nI k) (nI (v + 1)) (zc77 μ d k (zAv d f n v k) (zCh d f n k v)) := by
      show zD71_24_b c7 (zD71_24 c7 g) (17 + 11 * m) (nI k) (nI v) μ = _
      unfold zD71_24_b
      rw [if_neg (show ¬ (4 : Int32) ≤ nI v from nI_ge (b := 4) (by omega) (by decide)), zo_in (zS_mode m b1) (by omega), z77 h.1 (by omega) hk (fun t h1 h2 => ⟨(h.2 t h1 h2).1.1, (h.2 t h1 h2).1.2.1⟩), zcV_ok, nI_1]
    rw [hA, z171n h.1 (by omega) hk (fun t h1 h2 => (h.2 t h1 h2).1.2.2)]
    obtain ⟨μ', ν', w1, w2, w3, w4, w5, w6⟩ := ih (v + 1) g g' _ _ (by omega) (by omega) (by omega) n1
    exact ⟨μ', ν', w1, w2, w3, zfG_t n2 w4, zfG_t n3 w5, fun t r h1 h2 hr => (w6 t r h1 h2 hr).trans (zr77_d h.1 hk h1 h2 hr)⟩
end
