/-! checking a mode: what both do at a tick -/
def zEn (d : Nat → Nat → Nat) (k t : Nat) : Nat := (k / d 0 t + 1) * d 0 t
/-- what is left of each task at the tick k, its spans begun (d 0: spans, d 1: worsts, d 2: nodes) -/
def zLf (d : Nat → Nat → Nat) (f n : Nat) : Nat → Nat → Nat
  | 0 => fun t => d 1 t
  | k + 1 => fun t => if (k + 1) % d 0 t = 0 then d 1 t else zLf d f n k t - (if zpk (fun t' => decide (d 2 t' = d 2 t) && decide (0 < zLf d f n k t')) (zEn d k) f n = some t then 1 else 0)
/-- the task that the node v runs at k -/
def zCh (d : Nat → Nat → Nat) (f n k v : Nat) : Option Nat := zpk (fun t' => decide (d 2 t' = v) && decide (0 < zLf d f n k t')) (zEn d k) f n
/-- what is left when the nodes below v have run -/
def zAv (d : Nat → Nat → Nat) (f n v k t : Nat) : Nat := zLf d f n k t - (if d 2 t < v ∧ zCh d f n k (d 2 t) = some t then 1 else 0)
theorem zLf_s {d : Nat → Nat → Nat} {f n k t : Nat} (h : d 2 t < 4) : zLf d f n (k + 1) t = if (k + 1) % d 0 t = 0 then d 1 t else zAv d f n 4 k t := by
  show (if (k + 1) % d 0 t = 0 then d 1 t else zLf d f n k t - (if zCh d f n k (d 2 t) = some t then 1 else 0)) = _
  unfold zAv
  by_cases e : zCh d f n k (d 2 t) = some t
  · rw [if_pos e, if_pos (show d 2 t < 4 ∧ zCh d f n k (d 2 t) = some t from ⟨h, e⟩)]
  · have e2 : ¬ (d 2 t < 4 ∧ zCh d f n k (d 2 t) = some t) := fun w => e w.2
    rw [if_neg e, if_neg e2]
theorem zLf_0 {d : Nat → Nat → Nat} {f n t : Nat} : zLf d f n 0 t = d 1 t := rfl
theorem zLf_le {d : Nat → Nat → Nat} {f n t : Nat} (h : d 2 t < 4) : ∀ k, zLf d f n k t ≤ d 1 t := by
  intro k
  induction k with
  | zero => exact Nat.le_refl _
  | succ k ih =>
    rw [zLf_s h]
    split
    · exact Nat.le_refl _
    · unfold zAv
      omega
theorem zAv_0 {d : Nat → Nat → Nat} {f n k t : Nat} : zAv d f n 0 k t = zLf d f n k t := by
  unfold zAv
  rw [if_neg (fun w => absurd w.1 (Nat.not_lt_zero _))]
  rfl
theorem zCh_in {d : Nat → Nat → Nat} {f n k v t : Nat} (h : zCh d f n k v = some t) : f ≤ t ∧ t < f + n ∧ d 2 t = v ∧ 0 < zLf d f n k t := by
  obtain ⟨h1, h2, h3⟩ := zpk_in n t h
  rw [Bool.and_eq_true] at h3
  exact ⟨h1, h2, of_decide_eq_true h3.1, of_decide_eq_true h3.2⟩
theorem zAv_s {d : Nat → Nat → Nat} {f n k v t : Nat} : zAv d f n (v + 1) k t = if zCh d f n k v = some t then zLf d f n k t - 1 else zAv d f n v k t := by
  unfold zAv
  by_cases e : zCh d f n k v = some t
  · obtain ⟨-, -, h3, -⟩ := zCh_in e
    rw [if_pos e, if_pos ⟨by omega, by rw [h3]; exact e⟩]
  · rw [if_neg e]
    by_cases e2 : d 2 t = v
    · rw [if_neg (fun w => e (by rw [e2] at w; exact w.2)), if_neg (fun w => absurd w.1 (by omega))]
    · by_cases e3 : d 2 t < v ∧ zCh d f n k (d 2 t) = some t
      · rw [if_pos e3, if_pos ⟨by omega, e3.2⟩]
      · rw [if_neg e3, if_neg (fun w => e3 ⟨by omega, w.2⟩)]
theorem zAv_v {d : Nat → Nat → Nat} {f n k v t : Nat} (h : zCh d f n k v = some t) : zAv d f n v k t = zLf d f n k t := by
  obtain ⟨-, -, h3, -⟩ := zCh_in h
  unfold zAv
  rw [if_neg (fun w => absurd w.1 (by omega))]
  rfl
theorem zpk_v {d : Nat → Nat → Nat} {f n k v : Nat} : zpk (fun t' => decide (d 2 t' = v) && decide (0 < zAv d f n v k t')) (zEn d k) f n = zCh d f n k v := by
  unfold zCh
  refine zpk_c n (fun t h1 h2 => ⟨?_, rfl⟩)
  by_cases e : d 2 t = v
  · have : zAv d f n v k t = zLf d f n k t := by
      unfold zAv
      rw [if_neg (fun w => absurd w.1 (by omega))]
      rfl
    rw [this]
  · rw [decide_eq_false e, Bool.false_and, Bool.false_and]
/-- what never changes while a mode is checked -/
def zSt (m f n per T : Nat) (d : Nat → Nat → Nat) (ns fm : Nat → Nat) (μ ν : xe_Mem) : Prop := zRt μ ∧ (m < 4 ∧ n ≤ 6 ∧ f + n ≤ T ∧ T ≤ 24 ∧ 1 ≤ per ∧ per ≤ 120) ∧
  (xe_I μ (17 + 11 * m) 3 = nI n ∧ xe_I μ (17 + 11 * m) 1 = nI per ∧ ∀ i, i < n → xe_R μ (18 + 11 * m) i = some (61 + 5 * (f + i))) ∧
  (∀ t, f ≤ t → t < f + n → (1 ≤ d 0 t ∧ d 0 t ≤ per ∧ per % d 0 t = 0 ∧ d 1 t ≤ 200 ∧ d 2 t < 4) ∧
    (xe_I μ (61 + 5 * t) 0 = nI t ∧ xe_I μ (61 + 5 * t) 2 = nI (d 2 t) ∧ xe_I μ (61 + 5 * t) 3 = nI (d 0 t) ∧ xe_I μ (61 + 5 * t) 4 = nI (d 1 t) ∧ xe_I μ (61 + 5 * t) 11 = nI (ns t) ∧ xe_I μ (61 + 5 * t) 12 = nI (fm t)) ∧
    (xe_I ν 218 t = nI m ∧ xe_I ν 219 t = nI (d 2 t) ∧ xe_I ν 221 t = nI (d 0 t) ∧ xe_I ν 222 t = nI (d 1 t) ∧ xe_I ν 228 t = nI (ns t) ∧ xe_I ν 229 t = nI (fm t) ∧ xe_I ν 220 t = nI (per / d 0 t))) ∧
  (xe_I ν 203 22 = nI T ∧ xe_I ν 214 m = nI per ∧ ∀ t, t < T → ¬ (f ≤ t ∧ t < f + n) → ¬ xe_I ν 218 t = nI m)
/-- what a check may change -/
def zX7 (m f n a j : Nat) : Prop := (a = 17 + 11 * m ∧ j = 12) ∨ a = 22 + 11 * m ∨ a = 23 + 11 * m ∨ ∃ t, f ≤ t ∧ t < f + n ∧ ((a = 61 + 5 * t ∧ j = 13) ∨ (a = 63 + 5 * t ∧ (j ≤ 1 ∨ j = 3 ∨ j = 4)))
def zZ7 (m a j : Nat) : Prop := a = 21 + 11 * m ∧ j < 120
def zX8b (m a j : Nat) : Prop := a = 259 ∨ a = 230 ∨ a = 225 ∨ ((a = 215 ∨ a = 216) ∧ j = m) ∨ a = 238
def zX8 (m a j : Nat) : Prop := a = 259 ∨ a = 230 ∨ (a = 259 ∧ m = j)
theorem zX8_b {m : Nat} : ∀ a j, zX8 m a j → zX8b m a j := fun a j h => by
  unfold zX8 at h
  unfold zX8b
  omega
section
variable {m f n per T k v : Nat} {d : Nat → Nat → Nat} {ns fm : Nat → Nat} {μ ν μ' ν' : xe_Mem}
theorem zR_21 : ∀ m, m < 4 → ∀ j, j < 120 → (xv_rt.getD (21 + 11 * m) []).lookup j = none := by decide +kernel
theorem zRt_7 (hm : m < 4) (h : zRt μ) (hf : zfG (zX7 m f n) zZu (zZ7 m) μ μ') : zRt μ' := fun a j b hb => by
  have ha : a < 265 := by
    refine Nat.lt_of_not_le (fun h265 => ?_)
    rw [xv_zn _ (by rw [xv_rl]; omega)] at hb
    cases hb
  rw [(hf a ha j).2.2 (fun w => by
    rw [w.1, zR_21 m hm j w.2] at hb
    cases hb)]
  exact h a j b hb
theorem zSt_k2 (h : zSt m f n per T d ns fm μ ν) (g1 : zfG (zX7 m f n) zZu (zZ7 m) μ μ') (g2 : zfG (zX8b m) zZu zZu ν ν') : zSt m f n per T d ns fm μ' ν' := by
  obtain ⟨hR, ⟨b1, b2, b3, b4, b5, b6⟩, ⟨c1, c2, c3⟩, ht, ⟨r1, r2, r3⟩⟩ := h
  have k1 : ∀ a j, a < 265 → ¬ zX7 m f n a j → xe_I μ' a j = xe_I μ a j := fun a j q1 q2 => (g1 a q1 j).1 q2
  have k2 : ∀ a j, a < 265 → ¬ zX8b m a j → xe_I ν' a j = xe_I ν a j := fun a j q1 q2 => (g2 a q1 j).1 q2
  refine ⟨zRt_7 b1 hR g1, ⟨b1, b2, b3, b4, b5, b6⟩, ⟨?_, ?_, fun i hi => ?_⟩, fun t h1 h2 => ?_, ⟨?_, ?_, fun t h1 h2 => ?_⟩⟩
  · rw [k1 _ 3 (by omega) (fun w => by rcases w with w | w | w | ⟨t, w1, w2, w3⟩ <;> omega)]; exact c1
  · rw [k1 _ 1 (by omega) (fun w => by rcases w with w | w | w | ⟨t, w1, w2, w3⟩ <;> omega)]; exact c2
  · rw [(g1 (18 + 11 * m) (by omega) i).2.2 (fun w => by unfold zZ7 at w; omega)]; exact c3 i hi
  · obtain ⟨q1, ⟨u0, u1, u2, u3, u4, u5⟩, ⟨v1, v2, v3, v4, v5, v6, v7⟩⟩ := ht t h1 h2
    have e : ∀ j, j ≠ 13 → xe_I μ' (61 + 5 * t) j = xe_I μ (61 + 5 * t) j := fun j hj => k1 _ j (by omega) (fun w => by rcases w with w | w | w | ⟨t', w1, w2, w3⟩ <;> omega)
    refine ⟨q1, ⟨(e 0 (by omega)).trans u0, (e 2 (by omega)).trans u1, (e 3 (by omega)).trans u2, (e 4 (by omega)).trans u3, (e 11 (by omega)).trans u4, (e 12 (by omega)).trans u5⟩, ⟨(k2 218 t (by decide) (by unfold zX8b; omega)).trans v1, (k2 219 t (by decide) (by unfold zX8b; omega)).trans v2, (k2 221 t (by decide) (by unfold zX8b; omega)).trans v3, (k2 222 t (by decide) (by unfold zX8b; omega)).trans v4, (k2 228 t (by decide) (by unfold zX8b; omega)).trans v5, (k2 229 t (by decide) (by unfold zX8b; omega)).trans v6, (k2 220 t (by decide) (by unfold zX8b; omega)).trans v7⟩⟩
  · exact (k2 203 22 (by decide) (by unfold zX8b; omega)).trans r1
  · exact (k2 214 m (by decide) (by unfold zX8b; omega)).trans r2
  · rw [k2 218 t (by decide) (by unfold zX8b; omega)]
    exact r3 t h1 h2
theorem zSt_k (h : zSt m f n per T d ns fm μ ν) (g1 : zfG (zX7 m f n) zZu (zZ7 m) μ μ') (g2 : zfG (zX8 m) zZu zZu ν ν') : zSt m f n per T d ns fm μ' ν' := zSt_k2 h g1 (zfG_w g2 zX8_b (fun _ _ q => q) (fun _ _ q => q))
theorem zEn_lt (h1 : 1 ≤ d 0 0 ∨ True) {t : Nat} (hd : 1 ≤ d 0 t) (hd2 : d 0 t ≤ 120) (hk : k ≤ 120) : zEn d k t < 1000 := zend_lt hk hd hd2
def zmin2 (a b : Int32) : Int32 := if a < b then a else b
/-- the class's memory when a node has run -/
def zc77 (μ : xe_Mem) (d : Nat → Nat → Nat) (k : Nat) (l : Nat → Nat) (b : Option Nat) : xe_Mem := match b with
  | none => μ
  | some t => if l t = 1 then xe_setI (xe_setI μ (63 + 5 * t) 0 (nI (l t - 1))) (61 + 5 * t) 13 (zmin2 (nI (zEn d k t) - nI (k + 1)) (xe_I μ (61 + 5 * t) 13)) else xe_setI μ (63 + 5 * t) 0 (nI (l t - 1))
theorem z77 (hs : zSt m f n per T d ns fm μ ν) (hv : v < 4) (hk : k < per) (hl : ∀ t, f ≤ t → t < f + n → xe_I μ (63 + 5 * t) 0 = nI (zAv d f n v k t) ∧ xe_I μ (63 + 5 * t) 1 = nI (zEn d k t)) : zD77 (17 + 11 * m) (nI v) (nI k) μ = some (.inl none, zc77 μ d k (zAv d f n v k) (zCh d f n k v)) := by
  obtain ⟨hR, ⟨b1, b2, b3, b4, b5, b6⟩, ⟨c1, c2, c3⟩, ht, -⟩ := hs
  have h78 := z78 (μ := μ) (m := m) (f := f) (n := n) (v := v) (nd := d 2) (l := zAv d f n v k) (en := zEn d k) hR b1 c1 b2 (by omega) hv c3 (fun t h1 h2 => by
    obtain ⟨⟨q1, q2, q3, q4, q5⟩, ⟨u0, u1, u2, u3, u4, u5⟩, -⟩ := ht t h1 h2
    refine ⟨q5, ?_, zEn_lt (Or.inr trivial) q1 (by omega) (by omega), u1, (hl t h1 h2).1, (hl t h1 h2).2⟩
    have := zLf_le (d := d) (f := f) (n := n) q5 k
    unfold zAv
    omega)
  rw [zpk_v] at h78
  unfold zD77
  rw [zo_in (zS_mode m b1) (by omega), h78, zcO_ok]
  cases hz : zCh d f n k v with
  | none => rfl
  | some t =>
    obtain ⟨h1, h2, h3, h4⟩ := zCh_in hz
    have hlt := zAv_v hz
    obtain ⟨⟨q1, q2, q3, q4, q5⟩, ⟨u0, u1, u2, u3, u4, u5⟩, -⟩ := ht t h1 h2
    have hle := zLf_le (d := d) (f := f) (n := n) q5 k
    have ht24 : t < 24 := by omega
    have r14 : xe_R μ (61 + 5 * t) 14 = some (63 + 5 * t) := hR _ _ _ (zR_62 t ht24).2
    have hE := zEn_lt (d := d) (k := k) (Or.inr trivial) q1 (by omega) (by omega)
    show (zq_o (61 + 5 * t) 8 <| zq_s (xe_R μ (61 + 5 * t) 14) fun b7 => zq_o b7 6 <| zq_m (xe_setI μ b7 0 ((xe_I μ b7 0) - 1)) fun m9 => zq_s (xe_R m9 (61 + 5 * t) 14) fun b11 => zq_o b11 6 <| if (xe_I m9 b11 0) = 0 then zq_s (xe_R m9 (61 + 5 * t) 14) fun b13 => zq_o b13 6 <| zq_m (xe_setI m9 (61 + 5 * t) 13 (if (xe_I m9 b13 1) - (nI k + 1) < xe_I m9 (61 + 5 * t) 13 then (xe_I m9 b13 1) - (nI k + 1) else xe_I m9 (61 + 5 * t) 13)) fun m15 => zD77_30 m15 else zD77_30 m9) = _
    rw [zo_in (zS_task t ht24) (by omega), r14, zs_some, zo_in (zS_62 t ht24).2 (by omega), (hl t h1 h2).1]
    simp only [zq_m]
    rw [show (nI (zAv d f n v k t) - 1 : Int32) = nI (zAv d f n v k t - 1) from by rw [show (1 : Int32) = nI 1 from rfl, zn_sub (by omega)], show xe_R (xe_setI μ (63 + 5 * t) 0 (nI (zAv d f n v k t - 1))) (61 + 5 * t) 14 = some (63 + 5 * t) from r14, zs_some, zo_in (zS_62 t ht24).2 (by omega), show xe_I (xe_setI μ (63 + 5 * t) 0 (nI (zAv d f n v k t - 1))) (63 + 5 * t) 0 = nI (zAv d f n v k t - 1) from xu_I]
    unfold zc77 zD77_30
    by_cases h6 : zAv d f n v k t = 1
    · rw [if_pos (show nI (zAv d f n v k t - 1) = 0 by rw [h6]; rfl), zs_some, zo_in (zS_62 t ht24).2 (by omega), show xe_I (xe_setI μ (63 + 5 * t) 0 (nI (zAv d f n v k t - 1))) (63 + 5 * t) 1 = nI (zEn d k t) from (xu_In (by omega)).trans (hl t h1 h2).2, show xe_I (xe_setI μ (63 + 5 * t) 0 (nI (zAv d f n v k t - 1))) (61 + 5 * t) 13 = xe_I μ (61 + 5 * t) 13 from xu_In (by omega), nI_1]
      show _ = some (_, if zAv d f n v k t = 1 then _ else _)
      rw [if_pos h6]
      rfl
    · rw [if_neg (nI_ne0 (by omega) (by omega))]
      show _ = some (_, if zAv d f n v k t = 1 then _ else _)
      rw [if_neg h6]
/-- the reference's memory when a node has run -/
def zr77 (ν : xe_Mem) (d : Nat → Nat → Nat) (k : Nat) (l : Nat → Nat) (b : Option Nat) : xe_Mem := match b with
  | none => ν
  | some t => if l t = 1 then xe_setI (xe_setI ν 259 t (nI (l t - 1))) 230 (120 * t + k / d 0 t) (nI (k + 1)) else xe_setI ν 259 t (nI (l t - 1))
theorem z171n {c44 : Int32 → Int32 → Int32 → Int32 → xe_Mem → zO} {v2 v3 : Int32} {g : Nat} (hs : zSt m f n per T d ns fm μ ν) (hv : v < 4) (hk : k < per) (hl : ∀ t, f ≤ t → t < f + n → xe_I ν 259 t = nI (zAv d f n v k t)) : zD171_127 c44 (g + 1) (nI m) v2 v3 (nI k) (nI v) ν = zD171_127 c44 g (nI m) v2 v3 (nI k) (nI (v + 1)) (zr77 ν d k (zAv d f n v k) (zCh d f n k v)) := by
  obtain ⟨hR, ⟨b1, b2, b3, b4, b5, b6⟩, ⟨c1, c2, c3⟩, ht, ⟨r1, r2, r3⟩⟩ := hs
  have h172 := z172 (ν := ν) (m := m) (T := T) (v := v) (k := k) (nd := d 2) (l := zAv d f n v k) (sp := d 0) r1 b4 b1 hv (by omega) (fun t h1 h2 => by
    have hin : f ≤ t ∧ t < f + n := by
      by_cases w : f ≤ t ∧ t < f + n
      · exact w
      · exact absurd h2 (r3 t h1 w)
    obtain ⟨⟨q1, q2, q3, q4, q5⟩, -, ⟨v1, v2, v3, v4, -⟩⟩ := ht t hin.1 hin.2
    refine ⟨q5, ?_, q1, by omega, v2, hl t hin.1 hin.2, v3⟩
    have := zLf_le (d := d) (f := f) (n := n) q5 k
    unfold zAv
    omega)
  have hpk : zpk (fun t => decide (xe_I ν 218 t = nI m) && (decide (d 2 t = v) && decide (0 < zAv d f n v k t))) (fun t => (k / d 0 t + 1) * d 0 t) 0 T = zCh d f n k v := by
    have hout : ∀ t, t < T → ¬ (f ≤ t ∧ t < f + n) → (decide (xe_I ν 218 t = nI m) && (decide (d 2 t = v) && decide (0 < zAv d f n v k t))) = false := fun t h1 h2 => by
      rw [decide_eq_false (r3 t h1 h2), Bool.false_and]
    rw [show T = f + n + (T - (f + n)) by omega, zpk_e (T - (f + n)) (fun t h1 h2 => hout t (by omega) (by omega)), zpk_a (fun t h1 => hout t (by omega) (by omega)) n, ← zpk_v]
    refine zpk_c n (fun t h1 h2 => ⟨?_, rfl⟩)
    rw [decide_eq_true (ht t h1 h2).2.2.1, Bool.true_and]
  rw [hpk] at h172
  show zD171_127_b c44 (zD171_127 c44 g) (nI m) v2 v3 (nI k) (nI v) ν = _
  unfold zD171_127_b zD171_174
  rw [if_neg (show ¬ (4 : Int32) ≤ nI v from nI_ge (b := 4) hv (by decide)), zx_nI b1 (by decide), r2, if_neg (nI_ge (by omega) (by omega)), h172, zcI_ok, nI_1, nI_1]
  cases hz : zCh d f n k v with
  | none =>
    rw [if_neg (show ¬ (0 : Int32) ≤ zoi none by decide)]
    rfl
  | some t =>
    obtain ⟨h1, h2, h3, h4⟩ := zCh_in hz
    have hlt := zAv_v hz
    obtain ⟨⟨q1, q2, q3, q4, q5⟩, -, ⟨w1, w2, w3, w4, -⟩⟩ := ht t h1 h2
    have hle := zLf_le (d := d) (f := f) (n := n) q5 k
    have ht24 : t < 24 := by omega
    have hdv : k / d 0 t ≤ k := Nat.div_le_self _ _
    rw [show zoi (some t) = nI t from rfl, if_pos (nI_pos' (by omega)), zx_nI ht24 (by decide), zx_nI ht24 (by decide), hl t h1 h2]
    simp only [zq_m]
    rw [show (nI (zAv d f n v k t) - 1 : Int32) = nI (zAv d f n v k t - 1) from by rw [show (1 : Int32) = nI 1 from rfl, zn_sub (by omega)], zx_nI ht24 (by decide), show xe_I (xe_setI ν 259 t (nI (zAv d f n v k t - 1))) 259 t = nI (zAv d f n v k t - 1) from xu_I]
    unfold zr77
    show _ = zD171_127 c44 g (nI m) v2 v3 (nI k) (nI (v + 1)) (if zAv d f n v k t = 1 then _ else _)
    by_cases h6 : zAv d f n v k t = 1
    · rw [if_pos (show nI (zAv d f n v k t - 1) = 0 by rw [h6]; rfl), if_pos h6, zx_nI ht24 (by decide), show xe_I (xe_setI ν 259 t (nI (zAv d f n v k t - 1))) 221 t = nI (d 0 t) from (xu_In (by omega)).trans w3, zd_ok (nI_ne0 q1 (by omega)), zn_div (by omega) (by omega), show (120 * nI t + nI (k / d 0 t) : Int32) = nI (120 * t + k / d 0 t) from by rw [show (120 : Int32) = nI 120 from rfl, zn_mul, nI_add], zx_nI (show 120 * t + k / d 0 t < 2880 by omega) (by decide)]
    · rw [if_neg (nI_ne0 (by omega) (by omega)), if_neg h6]
end
