/-! checking a mode: the slots that are given -/
def zcg (d : Nat → Nat → Nat) (f n : Nat) (ns : Nat → Nat) (hs : Nat → Bool) : Nat → Nat → Nat
  | 0 => fun _ => 0
  | k + 1 => fun t => if (k + 1) % d 0 t = 0 then 0 else zcg d f n ns hs k t + (if (if hs k = true then zpk (fun t' => decide (zLf d f n k t' = 0) && decide (zcg d f n ns hs k t' < ns t')) (zEn d k) f n else none) = some t then 1 else 0)
/-- the task that gets the slot at k -/
def zgv (d : Nat → Nat → Nat) (f n : Nat) (ns : Nat → Nat) (hs : Nat → Bool) (k : Nat) : Option Nat := if hs k = true then zpk (fun t' => decide (zLf d f n k t' = 0) && decide (zcg d f n ns hs k t' < ns t')) (zEn d k) f n else none
theorem zcg_s {d : Nat → Nat → Nat} {f n : Nat} {ns : Nat → Nat} {hs : Nat → Bool} {k t : Nat} : zcg d f n ns hs (k + 1) t = if (k + 1) % d 0 t = 0 then 0 else zcg d f n ns hs k t + (if zgv d f n ns hs k = some t then 1 else 0) := rfl
/-- the message that it is for -/
def zix (d : Nat → Nat → Nat) (f n : Nat) (ns fm : Nat → Nat) (hs : Nat → Bool) (k t : Nat) : Nat := fm t + k / d 0 t * ns t + zcg d f n ns hs k t
section
variable {d : Nat → Nat → Nat} {f n m per T : Nat} {ns fm : Nat → Nat} {hs : Nat → Bool} {k t : Nat} {μ ν μ' ν' : xe_Mem} {o : Option Nat}
theorem zgv_in (h : zgv d f n ns hs k = some t) : f ≤ t ∧ t < f + n ∧ hs k = true ∧ zLf d f n k t = 0 ∧ zcg d f n ns hs k t < ns t := by
  unfold zgv at h
  split at h
  · rename_i hh
    obtain ⟨h1, h2, h3⟩ := zpk_in n t h
    rw [Bool.and_eq_true] at h3
    exact ⟨h1, h2, hh, of_decide_eq_true h3.1, of_decide_eq_true h3.2⟩
  · cases h
theorem zcg_le : ∀ k, zcg d f n ns hs k t ≤ ns t := by
  intro k
  induction k with
  | zero => exact Nat.zero_le _
  | succ k ih =>
    rw [zcg_s]
    split
    · exact Nat.zero_le _
    · by_cases e : zgv d f n ns hs k = some t
      · rw [if_pos e]
        have := (zgv_in e).2.2.2.2
        omega
      · rw [if_neg e]
        exact ih
/-- within a span the slots that a task has grow -/
theorem zcg_m (h1 : 1 ≤ d 0 t) : ∀ i j, j / d 0 t = (j + i + 1) / d 0 t → zcg d f n ns hs j t + (if zgv d f n ns hs j = some t then 1 else 0) ≤ zcg d f n ns hs (j + i + 1) t := by
  intro i
  induction i with
  | zero =>
    intro j h
    have hne : ¬ (j + 1) % d 0 t = 0 := fun w => by
      have h3 := (zdiv_A h1 w).1
      have h4 : j / d 0 t = (j + 1) / d 0 t := h
      rw [← h4] at h3
      omega
    show _ ≤ zcg d f n ns hs (j + 1) t
    rw [zcg_s, if_neg hne]
    exact Nat.le_refl _
  | succ i ih =>
    intro j h
    have hm1 : j / d 0 t ≤ (j + i + 1) / d 0 t := Nat.div_le_div_right (by omega)
    have hm2 : (j + i + 1) / d 0 t ≤ (j + (i + 1) + 1) / d 0 t := Nat.div_le_div_right (by omega)
    have hne : ¬ (j + i + 1 + 1) % d 0 t = 0 := fun w => by
      have := (zdiv_A (k := j + i + 1) h1 w).1
      rw [show j + i + 1 + 1 = j + (i + 1) + 1 by omega] at this
      omega
    have e := ih j (by omega)
    show _ ≤ zcg d f n ns hs (j + i + 1 + 1) t
    rw [zcg_s, if_neg hne]
    omega
/-- the numbers of a mode's messages -/
def zFi (d : Nat → Nat → Nat) (f n per : Nat) (ns fm : Nat → Nat) : Prop := (∀ t t', f ≤ t → t < t' → t' < f + n → fm t + per / d 0 t * ns t ≤ fm t') ∧ ∀ t, f ≤ t → t < f + n → fm t + per / d 0 t * ns t ≤ 1440 ∧ ns t ≤ 12 ∧ 1 ≤ d 0 t ∧ d 0 t ≤ per ∧ per % d 0 t = 0
theorem zix_b (hF : zFi d f n per ns fm) (hk : k < per) (h : zgv d f n ns hs k = some t) : fm t ≤ zix d f n ns fm hs k t ∧ zix d f n ns fm hs k t < fm t + (k / d 0 t + 1) * ns t ∧ fm t + (k / d 0 t + 1) * ns t ≤ fm t + per / d 0 t * ns t := by
  obtain ⟨h1, h2, h3, h4, h5⟩ := zgv_in h
  obtain ⟨q1, q2, q3, q4, q5⟩ := hF.2 t h1 h2
  have hlt : k / d 0 t < per / d 0 t := by
    have a1 := zdiv_s (a := k) q3
    have a2 := Nat.div_add_mod per (d 0 t)
    rw [q5, Nat.add_zero, Nat.mul_comm] at a2
    have : k / d 0 t * d 0 t < per / d 0 t * d 0 t := by omega
    exact Nat.lt_of_mul_lt_mul_right this
  have hm : (k / d 0 t + 1) * ns t ≤ per / d 0 t * ns t := Nat.mul_le_mul_right _ hlt
  unfold zix
  rw [Nat.add_mul, Nat.one_mul] at *
  refine ⟨by omega, by omega, by omega⟩
theorem zix_n (hF : zFi d f n per ns fm) {j t' : Nat} (hk : k < per) (hj : j < k) (h : zgv d f n ns hs k = some t) (h' : zgv d f n ns hs j = some t') : ¬ zix d f n ns fm hs k t = zix d f n ns fm hs j t' := by
  obtain ⟨h1, h2, -, -, h5⟩ := zgv_in h
  obtain ⟨h1', h2', -, -, h5'⟩ := zgv_in h'
  obtain ⟨a1, a2, a3⟩ := zix_b (fm := fm) hF hk h
  obtain ⟨c1, c2, c3⟩ := zix_b (fm := fm) hF (show j < per by omega) h'
  intro e
  rcases Nat.lt_trichotomy t t' with w | w | w
  · have := hF.1 t t' h1 w h2'
    omega
  · subst w
    obtain ⟨-, -, q3, -⟩ := hF.2 t h1 h2
    have hle : j / d 0 t ≤ k / d 0 t := Nat.div_le_div_right (by omega)
    rcases Nat.lt_or_ge (j / d 0 t) (k / d 0 t) with w2 | w2
    · have : (j / d 0 t + 1) * ns t ≤ k / d 0 t * ns t := Nat.mul_le_mul_right _ w2
      unfold zix at e a1 a2 c1 c2
      omega
    · have heq : j / d 0 t = k / d 0 t := by omega
      have := zcg_m (d := d) (f := f) (n := n) (ns := ns) (hs := hs) q3 (k - j - 1) j (by rw [show j + (k - j - 1) + 1 = k by omega]; exact heq)
      rw [show j + (k - j - 1) + 1 = k by omega, if_pos h'] at this
      unfold zix at e
      rw [heq] at e
      omega
  · have := hF.1 t' t h1' w h2
    omega
/-- the class's slots ahead of the giving at k -/
def zSs (m f n : Nat) (d : Nat → Nat → Nat) (ns fm : Nat → Nat) (hs : Nat → Bool) (k : Nat) (μ : xe_Mem) : Prop := (∀ j, j < 120 → xe_R μ (21 + 11 * m) j = if j < k then zoa (zgv d f n ns hs j) else none) ∧
  (∀ j t, j < k → zgv d f n ns hs j = some t → xe_I μ (22 + 11 * m) j = xe_I μ (62 + 5 * t) (zcg d f n ns hs j t) ∧ xe_I μ (23 + 11 * m) (zix d f n ns fm hs j t) = nI j) ∧
  (∀ i, i < 1440 → (∀ j t, j < k → zgv d f n ns hs j = some t → ¬ i = zix d f n ns fm hs j t) → xe_I μ (23 + 11 * m) i = -1)
theorem zSs_k (hm : m < 4) (hT : f + n ≤ 24) (h : zSs m f n d ns fm hs k μ) (g : ∀ a j, a < 265 → (a = 22 + 11 * m ∨ a = 23 + 11 * m ∨ ∃ t, f ≤ t ∧ t < f + n ∧ a = 62 + 5 * t) → xe_I μ' a j = xe_I μ a j) (gR : ∀ j, xe_R μ' (21 + 11 * m) j = xe_R μ (21 + 11 * m) j) : zSs m f n d ns fm hs k μ' := by
  refine ⟨fun j hj => by rw [gR]; exact h.1 j hj, fun j t w1 w2 => ?_, fun i hi w => by rw [g _ i (by omega) (Or.inr (Or.inl rfl))]; exact h.2.2 i hi w⟩
  obtain ⟨h1, h2, -⟩ := zgv_in w2
  rw [g _ j (by omega) (Or.inl rfl), g _ _ (by omega) (Or.inr (Or.inl rfl)), g (62 + 5 * t) _ (by omega) (Or.inr (Or.inr ⟨t, h1, h2, rfl⟩))]
  exact h.2.1 j t w1 w2
theorem zNi_k {v : Nat} (h : zNi m f n per T d ns fm v k μ ν) (G : zfG (zX7 m f n) zZu (zZ7 m) μ μ') (g : ∀ t, f ≤ t → t < f + n → xe_I μ' (63 + 5 * t) 0 = xe_I μ (63 + 5 * t) 0 ∧ xe_I μ' (63 + 5 * t) 1 = xe_I μ (63 + 5 * t) 1 ∧ xe_I μ' (61 + 5 * t) 13 = xe_I μ (61 + 5 * t) 13) : zNi m f n per T d ns fm v k μ' ν := by
  refine ⟨zSt_k h.1 G zfG_r, fun t h1 h2 => ?_⟩
  obtain ⟨e1, e2, e3⟩ := g t h1 h2
  rw [e1, e2, e3]
  exact h.2 t h1 h2
/-- the slot at k is given -/
theorem z_give (h : zNi m f n per T d ns fm 0 k μ ν) (hS : zSs m f n d ns fm hs k μ) (hc : ∀ t, f ≤ t → t < f + n → xe_I μ (63 + 5 * t) 3 = nI (zcg d f n ns hs k t)) (hF : zFi d f n per ns fm) (hk : k < per) (hhs : hs k = decide (¬ xe_I μ (20 + 11 * m) k = 0)) {K : xe_Mem → zO} :
    ∃ μ', (zq_s (xe_R μ (17 + 11 * m) 7) fun b9 => zq_a b9 3 fun N11 => zq_x (nI k) N11 fun j12 => if (xe_I μ b9 j12) = 0 then K μ else zq_cV (zD76 (17 + 11 * m) (nI k) μ) fun m22 => K m22) = K μ' ∧ zNi m f n per T d ns fm 0 k μ' ν ∧ zSs m f n d ns fm hs (k + 1) μ' ∧ (∀ t, f ≤ t → t < f + n → xe_I μ' (63 + 5 * t) 3 = nI (zcg d f n ns hs k t + (if zgv d f n ns hs k = some t then 1 else 0))) ∧ zfG (zX7 m f n) zZu (zZ7 m) μ μ' ∧ xe_I μ' (17 + 11 * m) 12 = xe_I μ (17 + 11 * m) 12 := by
  obtain ⟨hR, ⟨b1, b2, b3, b4, b5, b6⟩, ⟨c1, c2, c3⟩, hst, -⟩ := id h.1
  rw [hR _ _ _ (zR_m m b1).2.2, zs_some, za_in (zS_18 m b1).2.2 (by omega), zx_nI (show k < 120 by omega) (by decide)]
  by_cases h0 : xe_I μ (20 + 11 * m) k = 0
  · have hsk : hs k = false := by rw [hhs]; exact decide_eq_false (fun w => w h0)
    have hg : zgv d f n ns hs k = none := by
      unfold zgv
      rw [if_neg (by rw [hsk]; decide)]
    rw [if_pos h0]
    refine ⟨μ, rfl, h, ⟨fun j hj => ?_, fun j t w1 w2 => ?_, fun i hi w => hS.2.2 i hi (fun j t w1 w2 => w j t (by omega) w2)⟩, fun t h1 h2 => ?_, zfG_r, rfl⟩
    · rw [hS.1 j hj]
      by_cases e : j < k
      · rw [if_pos e, if_pos (by omega)]
      · rw [if_neg e]
        by_cases e2 : j = k
        · rw [e2, if_pos (by omega), hg]
          rfl
        · rw [if_neg (by omega)]
    · by_cases e : j = k
      · rw [e, hg] at w2
        cases w2
      · exact hS.2.1 j t (by omega) w2
    · rw [hg, if_neg (by intro w; cases w)]
      exact hc t h1 h2
  · have hsk : hs k = true := by rw [hhs]; exact decide_eq_true h0
    have hg : zgv d f n ns hs k = zpk (fun t' => decide (zLf d f n k t' = 0) && decide (zcg d f n ns hs k t' < ns t')) (zEn d k) f n := by
      unfold zgv
      rw [if_pos hsk]
    have h76 := z76 (l := zLf d f n k) (c := zcg d f n ns hs k) (en := zEn d k) h.1 hk (fun t h1 h2 => by
      obtain ⟨q1, q2, q3, q4, q5⟩ := hF.2 t h1 h2
      obtain ⟨⟨p1, p2, p3, p4, p5⟩, -⟩ := hst t h1 h2
      have hle := zLf_le (d := d) (f := f) (n := n) p5 k
      have hcl := zcg_le (d := d) (f := f) (n := n) (ns := ns) (hs := hs) (t := t) k
      have hdk : k / d 0 t < per / d 0 t := by
        have a1 := zdiv_s (a := k) q3
        have a2 := Nat.div_add_mod per (d 0 t)
        rw [q5, Nat.add_zero, Nat.mul_comm] at a2
        have : k / d 0 t * d 0 t < per / d 0 t * d 0 t := by omega
        exact Nat.lt_of_mul_lt_mul_right this
      have hmm : (k / d 0 t + 1) * ns t ≤ per / d 0 t * ns t := Nat.mul_le_mul_right _ hdk
      have hn := (h.2 t h1 h2).1
      rw [zAv_0] at hn
      exact ⟨by omega, zEn_lt (Or.inr trivial) p1 (by omega) (by omega), q2, by omega, by omega, hn.1, hn.2.1, hc t h1 h2⟩)
    rw [← hg] at h76
    rw [if_neg h0, h76, zcV_ok]
    cases hz : zgv d f n ns hs k with
    | none =>
      refine ⟨μ, rfl, h, ⟨fun j hj => ?_, fun j t w1 w2 => ?_, fun i hi w => hS.2.2 i hi (fun j t w1 w2 => w j t (by omega) w2)⟩, fun t h1 h2 => ?_, zfG_r, rfl⟩
      · rw [hS.1 j hj]
        by_cases e : j < k
        · rw [if_pos e, if_pos (by omega)]
        · rw [if_neg e]
          by_cases e2 : j = k
          · rw [e2, if_pos (by omega), hz]
            rfl
          · rw [if_neg (by omega)]
      · by_cases e : j = k
        · rw [e, hz] at w2
          cases w2
        · exact hS.2.1 j t (by omega) w2
      · rw [if_neg (by intro w; cases w)]
        exact hc t h1 h2
    | some t =>
      obtain ⟨h1, h2, h3, h4, h5⟩ := zgv_in hz
      obtain ⟨x1, x2, x3⟩ := zix_b (fm := fm) hF hk hz
      have hb := (hF.2 t h1 h2).1
      have ki : ∀ a j, ¬ (a = 22 + 11 * m ∧ j = k) → ¬ (a = 23 + 11 * m ∧ j = zix d f n ns fm hs k t) → ¬ (a = 63 + 5 * t ∧ j = 3) → xe_I (zc76 μ m k t (zcg d f n ns hs k t) (zix d f n ns fm hs k t)) a j = xe_I μ a j := fun a j w1 w2 w3 => by
        unfold zc76
        rw [xu_In w3, xu_In w2, xu_In w1]
      have kR : ∀ a j, ¬ (a = 21 + 11 * m ∧ j = k) → xe_R (zc76 μ m k t (zcg d f n ns hs k t) (zix d f n ns fm hs k t)) a j = xe_R μ a j := fun a j w => by
        show xe_R (xe_setR μ (21 + 11 * m) k (some (61 + 5 * t))) a j = _
        rw [zu_R, if_neg w]
      have G : zfG (zX7 m f n) zZu (zZ7 m) μ (zc76 μ m k t (zcg d f n ns hs k t) (zix d f n ns fm hs k t)) := fun a ha j => ⟨fun q => ki a j (fun w => q (Or.inr (Or.inl w.1))) (fun w => q (Or.inr (Or.inr (Or.inl w.1)))) (fun w => q (Or.inr (Or.inr (Or.inr ⟨t, h1, h2, Or.inr ⟨w.1, by omega⟩⟩)))), fun _ => rfl, fun q => kR a j (fun w => q ⟨w.1, by omega⟩)⟩
      refine ⟨zc76 μ m k t (zcg d f n ns hs k t) (zix d f n ns fm hs k t), rfl, zNi_k h G (fun t' w1 w2 => ⟨ki _ 0 (by omega) (by omega) (by omega), ki _ 1 (by omega) (by omega) (by omega), ki _ 13 (by omega) (by omega) (by omega)⟩), ⟨fun j hj => ?_, fun j t' w1 w2 => ?_, fun i hi w => ?_⟩, fun t' w1 w2 => ?_, G, ki _ 12 (by omega) (by omega) (by omega)⟩
      · by_cases e : j = k
        · rw [e, if_pos (by omega), hz]
          show xe_R (xe_setR μ (21 + 11 * m) k (some (61 + 5 * t))) (21 + 11 * m) k = _
          rw [zu_R, if_pos ⟨rfl, rfl⟩]
          rfl
        · rw [kR _ j (by omega), hS.1 j hj]
          by_cases e2 : j < k
          · rw [if_pos e2, if_pos (by omega)]
          · rw [if_neg e2, if_neg (by omega)]
      · by_cases e : j = k
        · subst e
          rw [hz] at w2
          injection w2 with w2
          subst w2
          refine ⟨?_, ?_⟩
          · rw [ki (62 + 5 * t) _ (by omega) (by omega) (by omega)]
            unfold zc76
            rw [xu_In (by omega), xu_In (by omega)]
            exact xu_I
          · unfold zc76
            rw [xu_In (by omega)]
            exact xu_I
        · have hne := zix_n (fm := fm) hF hk (show j < k by omega) hz w2
          obtain ⟨v1, v2, -⟩ := zgv_in w2
          rw [ki (22 + 11 * m) j (by omega) (by omega) (by omega), ki (62 + 5 * t') _ (by omega) (by omega) (by omega), ki (23 + 11 * m) _ (by omega) (fun w => hne w.2.symm) (by omega)]
          exact hS.2.1 j t' (by omega) w2
      · rw [ki (23 + 11 * m) i (by omega) (fun w2 => w k t (by omega) hz w2.2) (by omega)]
        exact hS.2.2 i hi (fun j t' w1 w2 => w j t' (by omega) w2)
      · by_cases e : t' = t
        · rw [e, if_pos rfl]
          exact xu_I
        · rw [ki _ 3 (by omega) (by omega) (by omega), hc t' w1 w2, if_neg (fun w => e (by injection w with w; exact w.symm))]
          rfl
end
