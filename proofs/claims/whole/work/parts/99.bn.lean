/-! checking a mode: the spare, and what numbers of messages say -/
theorem zmi_b {g : Nat → Int32} {s s' : Nat} (h1 : g 0 ≤ nI s) (h2 : g 0 ≤ nI s') : ∀ k, 1 ≤ k → zmi g s k = zmi g s' k := by
  have hb : ∀ s, g 0 ≤ nI s → zmin2 (g 0) (nI s) = g 0 := fun s h => by
    unfold zmin2
    split
    · rfl
    · rename_i hn
      exact Int32.le_antisymm (Int32.not_lt.mp hn) h
  intro k
  induction k with
  | zero => intro h; omega
  | succ k ih =>
    intro _
    rcases Nat.eq_zero_or_pos k with w | w
    · rw [w]
      show zmin2 (g 0) (nI s) = zmin2 (g 0) (nI s')
      rw [hb s h1, hb s' h2]
    · show zmin2 (g k) (zmi g s k) = zmin2 (g k) (zmi g s' k)
      rw [ih w]
section
variable {d : Nat → Nat → Nat} {f n m per T : Nat} {ns fm : Nat → Nat} {hs : Nat → Bool} {μ ν : xe_Mem} {o : Option Nat} {v3 : Int32} {t : Nat}
theorem z174 {tm : Nat} (ht : t < 24) (h220 : xe_I ν 220 t = nI tm) (htm : tm ≤ 120) (h221 : xe_I ν 221 t = nI (d 0 t)) : ∃ ν', zD174 (nI t) ν = some (.inl none, ν') ∧ zfG (fun a j => a = 225 ∧ j = t) zZu zZu ν ν' ∧ xe_I ν' 225 t = zmi (zvl d ν t) 1000 tm := by
  have hl : ∀ (r g k : Nat) (ν1 : xe_Mem), k + r = tm → r < g → zfG (fun a j => a = 225 ∧ j = t) zZu zZu ν ν1 → xe_I ν1 225 t = zmi (zvl d ν t) 1000 k → ∃ ν', zD174_7 g (nI t) (nI k) ν1 = some (.inl none, ν') ∧ zfG (fun a j => a = 225 ∧ j = t) zZu zZu ν ν' ∧ xe_I ν' 225 t = zmi (zvl d ν t) 1000 tm := by
    intro r
    induction r with
    | zero =>
      intro g k ν1 hk hg G h1
      obtain ⟨g, rfl⟩ : ∃ k, g = k + 1 := ⟨g - 1, by omega⟩
      have : k = tm := by omega
      subst this
      refine ⟨ν1, ?_, G, h1⟩
      show zD174_7_b (zD174_7 g) (nI t) (nI k) ν1 = _
      unfold zD174_7_b
      rw [zx_nI ht (by decide), (G 220 (by decide) t).1 (fun w => by omega), h220, if_pos (nI_le (by omega) (by omega))]
    | succ r ih =>
      intro g k ν1 hk hg G h1
      obtain ⟨g, rfl⟩ : ∃ k, g = k + 1 := ⟨g - 1, by omega⟩
      have h36 : ∀ (x : Int32) (s0 : Int32), zD174_36 (zD174_7 g) (nI t) (nI k) x s0 ν1 = zD174_7 g (nI t) (nI (k + 1)) (xe_setI ν1 225 t (zmin2 s0 (xe_I ν1 225 t))) := fun x s0 => by
        unfold zD174_36 zD174_52 zmin2
        rw [zx_nI ht (by decide), zx_nI ht (by decide), zx_nI ht (by decide), nI_1]
        simp only [zq_m]
        by_cases e : xe_I ν1 225 t ≤ s0
        · rw [if_pos e, if_neg (Int32.not_lt.mpr e)]
        · rw [if_neg e, if_pos (Int32.not_le.mp e), zx_nI ht (by decide)]
      have hstep : zD174_7 (g + 1) (nI t) (nI k) ν1 = zD174_7 g (nI t) (nI (k + 1)) (xe_setI ν1 225 t (zmi (zvl d ν t) 1000 (k + 1))) := by
        show zD174_7_b (zD174_7 g) (nI t) (nI k) ν1 = _
        unfold zD174_7_b
        rw [zx_nI ht (by decide), (G 220 (by decide) t).1 (fun w => by omega), h220, if_neg (nI_ge (by omega) (by omega)), show (120 * nI t + nI k : Int32) = nI (120 * t + k) from by rw [show (120 : Int32) = nI 120 from rfl, zn_mul, nI_add], zx_nI (show 120 * t + k < 2880 by omega) (by decide)]
        simp only [zq_vI]
        rw [(G 230 (by decide) _).1 (fun w => by omega), zx_nI ht (by decide), (G 221 (by decide) t).1 (fun w => by omega), h221, nI_1, zn_mul, h36, h36, h1]
        show _ = zD174_7 g (nI t) (nI (k + 1)) (xe_setI ν1 225 t (zmin2 (zvl d ν t k) (zmi (zvl d ν t) 1000 k)))
        unfold zvl
        by_cases e : 0 ≤ xe_I ν 230 (120 * t + k)
        · rw [if_pos e, if_pos e]
        · rw [if_neg e, if_neg e]
      rw [hstep]
      exact ih g (k + 1) _ (by omega) (by omega) (zfG_t G (zfG_I ⟨rfl, rfl⟩)) xu_I
  unfold zD174
  rw [zx_nI ht (by decide)]
  simp only [zq_m]
  exact hl tm zfu 0 _ (by omega) (zfu_lt (by omega)) (zfG_I ⟨rfl, rfl⟩) xu_I
/-- the loop of spares -/
theorem z180 {v2 : Int32} (hs0 : zSt m f n per T d ns fm μ ν) : ∃ ν', zD171_180 zfu (nI m) v2 v3 (nI 0) ν = (if 0 ≤ v2 then zD171_205 (nI m) v2 v3 (nI m) (v2 + 1) ν' else zD171_205 (nI m) v2 v3 (nI m) 0 ν') ∧ zfG (fun a j => a = 225 ∧ f ≤ j ∧ j < f + n) zZu zZu ν ν' ∧ ∀ t, f ≤ t → t < f + n → xe_I ν' 225 t = zmi (zvl d ν t) 1000 (per / d 0 t) := by
  obtain ⟨hR, ⟨b1, b2, b3, b4, b5, b6⟩, -, hst, ⟨r1, r2, r3⟩⟩ := id hs0
  have hl : ∀ (r g i : Nat) (ν1 : xe_Mem), i + r = T → r < g → zfG (fun a j => a = 225 ∧ f ≤ j ∧ j < f + n) zZu zZu ν ν1 → (∀ t, f ≤ t → t < f + n → t < i → xe_I ν1 225 t = zmi (zvl d ν t) 1000 (per / d 0 t)) → ∃ ν', zD171_180 g (nI m) v2 v3 (nI i) ν1 = (if 0 ≤ v2 then zD171_205 (nI m) v2 v3 (nI m) (v2 + 1) ν' else zD171_205 (nI m) v2 v3 (nI m) 0 ν') ∧ zfG (fun a j => a = 225 ∧ f ≤ j ∧ j < f + n) zZu zZu ν ν' ∧ ∀ t, f ≤ t → t < f + n → xe_I ν' 225 t = zmi (zvl d ν t) 1000 (per / d 0 t) := by
    intro r
    induction r with
    | zero =>
      intro g i ν1 hi hg G h1
      obtain ⟨g, rfl⟩ : ∃ k, g = k + 1 := ⟨g - 1, by omega⟩
      have : i = T := by omega
      subst this
      refine ⟨ν1, ?_, G, fun t q1 q2 => h1 t q1 q2 (by omega)⟩
      show zD171_180_b (zD171_180 g) (nI m) v2 v3 (nI i) ν1 = _
      unfold zD171_180_b
      rw [(G 203 (by decide) 22).1 (fun w => by omega), r1, if_pos (nI_le (by omega) (by omega))]
    | succ r ih =>
      intro g i ν1 hi hg G h1
      obtain ⟨g, rfl⟩ : ∃ k, g = k + 1 := ⟨g - 1, by omega⟩
      have hi24 : i < 24 := by omega
      have gk : ∀ a j, a < 265 → a ≠ 225 → xe_I ν1 a j = xe_I ν a j := fun a j q1 q2 => (G a q1 j).1 (fun w => q2 w.1)
      show ∃ ν', zD171_180_b (zD171_180 g) (nI m) v2 v3 (nI i) ν1 = _ ∧ _
      unfold zD171_180_b zD171_193
      rw [gk 203 22 (by decide) (by decide), r1, if_neg (nI_ge (by omega) (by omega)), zx_nI hi24 (by decide), gk 218 i (by decide) (by decide), nI_1]
      by_cases e : xe_I ν 218 i = nI m
      · have hin : f ≤ i ∧ i < f + n := by
          by_cases w : f ≤ i ∧ i < f + n
          · exact w
          · exact absurd e (r3 i (by omega) w)
        obtain ⟨⟨q1, q2, q3, q4, q5⟩, -, ⟨v1, v2', v3', v4, v5, v6, v7⟩⟩ := hst i hin.1 hin.2
        have hdv : per / d 0 i ≤ per := Nat.div_le_self _ _
        obtain ⟨ν2, a1, a2, a3⟩ := z174 (d := d) (ν := ν1) (t := i) (tm := per / d 0 i) hi24 ((gk 220 i (by decide) (by decide)).trans v7) (by omega) ((gk 221 i (by decide) (by decide)).trans v3')
        rw [if_pos e, a1, zcV_ok]
        refine ih g (i + 1) ν2 (by omega) (by omega) (zfG_t G (zfG_w a2 (fun a j q => ⟨q.1, by have := q.2; omega, by have := q.2; omega⟩) (fun a j q => q) (fun a j q => q))) (fun t w1 w2 w3 => ?_)
        by_cases et : t = i
        · rw [et, a3]
          refine zmi_c _ (fun r hr => ?_)
          unfold zvl
          rw [gk 230 _ (by decide) (by decide)]
        · rw [(a2 225 (by decide) t).1 (fun w => et w.2)]
          exact h1 t w1 w2 (by omega)
      · rw [if_neg e]
        refine ih g (i + 1) ν1 (by omega) (by omega) G (fun t w1 w2 w3 => ?_)
        by_cases et : t = i
        · rw [et] at w1 w2
          exact absurd (hst i w1 w2).2.2.1 e
        · exact h1 t w1 w2 (by omega)
  exact hl T zfu 0 ν (by omega) (zfu_lt (by omega)) zfG_r (fun t _ _ h => absurd h (by omega))
theorem zvl_le {r : Nat} (h1 : 1 ≤ d 0 t) (h2 : d 0 t ≤ 120) (hr : r < 120) (h : zDn d f n ν t r) : zvl d ν t r ≤ nI (d 0 t) := by
  unfold zvl
  rcases h with h | ⟨dd, h, h3, h4, -⟩
  · rw [h, if_neg (by decide)]
    exact zm1_le (by omega)
  · have hb : (r + 1) * d 0 t ≤ 120 * 120 := Nat.mul_le_mul (by omega) h2
    rw [Nat.add_mul, Nat.one_mul] at *
    rw [h, if_pos (nI_pos' (by omega)), zn_sub h4]
    exact nI_le (by omega) (by omega)
/-- the slack of the class is the spare of the reference -/
theorem z_spare {ν' : xe_Mem} (h : zEd m f n per T d ns fm o μ ν) (h1 : f ≤ t) (h2 : t < f + n) (h225 : xe_I ν' 225 t = zmi (zvl d ν t) 1000 (per / d 0 t)) : xe_I μ (61 + 5 * t) 13 = xe_I ν' 225 t := by
  obtain ⟨hs0, -, -, ht⟩ := h
  obtain ⟨hR, ⟨b1, b2, b3, b4, b5, b6⟩, -, hst, -⟩ := id hs0
  obtain ⟨⟨q1, q2, q3, q4, q5⟩, -⟩ := hst t h1 h2
  obtain ⟨w1, w2, -⟩ := ht t h1 h2
  have hpos : 1 ≤ per / d 0 t := Nat.div_pos q2 q1
  have hle := zvl_le q1 (by omega) (by omega) (w1 0 (by omega))
  rw [w2, h225]
  exact zmi_b hle (Int32.le_trans hle (show nI (d 0 t) ≤ nI 1000 from nI_le (by omega) (by decide))) _ hpos
/-- the slots that a task has at j are those of its lower messages -/
theorem zcg_g (h1 : 1 ≤ d 0 t) : ∀ j kk, kk < zcg d f n ns hs j t → ∃ j', j' < j ∧ j' / d 0 t = j / d 0 t ∧ zgv d f n ns hs j' = some t ∧ zcg d f n ns hs j' t = kk := by
  intro j
  induction j with
  | zero => intro kk h; exact absurd h (Nat.not_lt_zero _)
  | succ j ih =>
    intro kk h
    rw [zcg_s] at h
    by_cases e : (j + 1) % d 0 t = 0
    · rw [if_pos e] at h
      exact absurd h (Nat.not_lt_zero _)
    · rw [if_neg e] at h
      have hd := zdiv_B h1 e
      by_cases eg : zgv d f n ns hs j = some t
      · rw [if_pos eg] at h
        by_cases ek : kk = zcg d f n ns hs j t
        · exact ⟨j, by omega, hd.symm, eg, ek.symm⟩
        · obtain ⟨j', a1, a2, a3⟩ := ih kk (by omega)
          exact ⟨j', by omega, by rw [hd]; exact a2, a3⟩
      · rw [if_neg eg] at h
        obtain ⟨j', a1, a2, a3⟩ := ih kk (by omega)
        exact ⟨j', by omega, by rw [hd]; exact a2, a3⟩
/-- a message of the span at hand is given exactly if it is a lower one -/
theorem zix_g (hF : zFi d f n per ns fm) {j kk : Nat} (h1 : f ≤ t) (h2 : t < f + n) (hj : j < per) (hkk : kk < ns t) : (∃ j' t', j' < j ∧ zgv d f n ns hs j' = some t' ∧ zix d f n ns fm hs j' t' = fm t + j / d 0 t * ns t + kk) ↔ kk < zcg d f n ns hs j t := by
  obtain ⟨q1, q2, q3, q4, q5⟩ := hF.2 t h1 h2
  have hdk : j / d 0 t < per / d 0 t := by
    have a1 := zdiv_s (a := j) q3
    have a2 := Nat.div_add_mod per (d 0 t)
    rw [q5, Nat.add_zero, Nat.mul_comm] at a2
    have : j / d 0 t * d 0 t < per / d 0 t * d 0 t := by omega
    exact Nat.lt_of_mul_lt_mul_right this
  have hmm : (j / d 0 t + 1) * ns t ≤ per / d 0 t * ns t := Nat.mul_le_mul_right _ hdk
  have hM : fm t + j / d 0 t * ns t + kk < fm t + per / d 0 t * ns t := by
    rw [Nat.add_mul, Nat.one_mul] at hmm
    omega
  constructor
  · rintro ⟨j', t', a1, a2, a3⟩
    obtain ⟨c1, c2, c3⟩ := zix_b (fm := fm) hF (show j' < per by omega) a2
    obtain ⟨e1, e2, -, -, e5⟩ := zgv_in a2
    have htt : t' = t := by
      rcases Nat.lt_trichotomy t' t with w | w | w
      · have := hF.1 t' t e1 w h2
        omega
      · exact w
      · have := hF.1 t t' h1 w e2
        omega
    subst htt
    have hle : j' / d 0 t' ≤ j / d 0 t' := Nat.div_le_div_right (by omega)
    rcases Nat.lt_or_ge (j' / d 0 t') (j / d 0 t') with w | w
    · have : (j' / d 0 t' + 1) * ns t' ≤ j / d 0 t' * ns t' := Nat.mul_le_mul_right _ w
      omega
    · have heq : j' / d 0 t' = j / d 0 t' := by omega
      have hm := zcg_m (d := d) (f := f) (n := n) (ns := ns) (hs := hs) q3 (j - j' - 1) j' (by rw [show j' + (j - j' - 1) + 1 = j by omega]; exact heq)
      rw [show j' + (j - j' - 1) + 1 = j by omega, if_pos a2] at hm
      unfold zix at a3
      rw [heq] at a3
      omega
  · intro h
    obtain ⟨j', a1, a2, a3, a4⟩ := zcg_g (d := d) (f := f) (n := n) (ns := ns) (hs := hs) q3 j kk h
    refine ⟨j', t, a1, a3, ?_⟩
    unfold zix
    rw [a2, a4]
end
