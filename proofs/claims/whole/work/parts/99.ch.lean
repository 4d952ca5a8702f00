/-! running: publish and finish -/
def zXpb (a j : Nat) : Prop := (a = 195 ∨ (197 ≤ a ∧ a ≤ 200)) ∧ j = j
def zYpb (a j : Nat) : Prop := (a = 255 ∨ a = 256) ∧ j = j
/-- what the end of the task t's span hangs on -/
def zHp (t P nd l ab sb : Nat) (μ ν : xe_Mem) : Prop := zRt μ ∧ zSd P μ ν ∧ (xe_I μ (61 + 5 * t) 2 = nI nd ∧ xe_I ν 219 t = nI nd ∧ xe_I ν 259 t = nI l ∧ xe_I μ (63 + 5 * t) 0 = nI l) ∧ (xe_I μ (61 + 5 * t) 6 = nI ab ∧ xe_I μ (63 + 5 * t) 4 = nI sb ∧ xe_I μ 7 4 = nI P ∧ xe_I ν 203 12 = nI P) ∧ ∀ p, p < P → xe_I ν 227 (12 * t + p) = zb01 (Nat.testBit ab p) ∧ xe_I ν 263 (12 * t + p) = zb01 (Nat.testBit sb p) ∧ xe_I ν 261 (12 * t + p) = xe_I μ (65 + 5 * t) p ∧ xe_I ν 262 (12 * t + p) = xe_I μ (64 + 5 * t) p
section
variable {t P nd l ab sb : Nat} {μ ν μ' ν' : xe_Mem}
theorem zHp_k (h : zHp t P nd l ab sb μ ν) (ht : t < 24) (g1 : zfG zXpb zZu zZu μ μ') (g2 : zfG zYpb zZu zZu ν ν') (hs : zSd P μ' ν') : zHp t P nd l ab sb μ' ν' := by
  obtain ⟨h1, h2, ⟨h3, h4, h5, h6⟩, ⟨h7, h8, h9, h10⟩, h11⟩ := h
  have k1 : ∀ a j, a < 265 → ¬ zXpb a j → xe_I μ' a j = xe_I μ a j := fun a j q1 q2 => (g1 a q1 j).1 q2
  have k2 : ∀ a j, a < 265 → ¬ zYpb a j → xe_I ν' a j = xe_I ν a j := fun a j q1 q2 => (g2 a q1 j).1 q2
  have c : ∀ a j, a < 195 → xe_I μ' a j = xe_I μ a j := fun a j q => k1 a j (by omega) (by unfold zXpb; omega)
  have r : ∀ a j, a < 265 → a ≠ 255 → a ≠ 256 → xe_I ν' a j = xe_I ν a j := fun a j q1 q2 q3 => k2 a j q1 (by unfold zYpb; omega)
  refine ⟨zRt_G h1 g1, hs, ⟨(c _ _ (by omega)).trans h3, (r _ _ (by omega) (by omega) (by omega)).trans h4, (r _ _ (by omega) (by omega) (by omega)).trans h5, (c _ _ (by omega)).trans h6⟩, ⟨(c _ _ (by omega)).trans h7, (c _ _ (by omega)).trans h8, (c _ _ (by omega)).trans h9, (r _ _ (by omega) (by omega) (by omega)).trans h10⟩, fun p hp => ?_⟩
  rw [r 227 _ (by omega) (by omega) (by omega), r 263 _ (by omega) (by omega) (by omega), r 261 _ (by omega) (by omega) (by omega), r 262 _ (by omega) (by omega) (by omega), c (65 + 5 * t) p (by omega), c (64 + 5 * t) p (by omega)]
  exact h11 p hp
def zE188 (t l : Nat) (ν : xe_Mem) : xe_Mem := if l = 0 then ν else xe_setI (xe_setI (xe_setI ν 203 74 (xe_I ν 203 74 + 1)) 203 75 (nI t)) 259 t 0
theorem z_pubp (ht : t < 24) (hP : P ≤ 12) (hnd : nd < 4) (hl : l ≤ 200) (hab : ab < 4096) (hsb : sb < 4096) : ∀ (r g G p : Nat) (μ ν : xe_Mem), p + r = P → r < g → r < G → zHp t P nd l ab sb μ ν → ∃ μ' ν', zD107_22 g (61 + 5 * t) (zb01 (decide (l = 0))) (nI p) μ = some (.inl none, μ') ∧ zD188_2 G (nI t) (nI p) ν = some (.inl none, zE188 t l ν') ∧ zSd P μ' ν' ∧ zfG zXpb zZu zZu μ μ' ∧ zfG zYpb zZu zZu ν ν' ∧ xe_sh μ' = xe_sh μ := by
  intro r
  induction r with
  | zero =>
    intro g G p μ ν hp hg hG h
    obtain ⟨g, rfl⟩ : ∃ k, g = k + 1 := ⟨g - 1, by omega⟩
    obtain ⟨G, rfl⟩ : ∃ k, G = k + 1 := ⟨G - 1, by omega⟩
    have : p = P := by omega
    subst this
    obtain ⟨h1, h2, ⟨h3, h4, h5, h6⟩, ⟨h7, h8, h9, h10⟩, h11⟩ := id h
    refine ⟨μ, ν, ?_, ?_, h2, zfG_r, zfG_r, rfl⟩
    · show zD107_22_b (zD107_22 g) _ _ (nI p) μ = _
      unfold zD107_22_b
      rw [h9, if_pos (nI_le (Nat.le_refl _) (by omega))]
    · show zD188_2_b (zD188_2 G) _ (nI p) ν = _
      unfold zD188_2_b
      rw [h10, if_pos (nI_le (Nat.le_refl _) (by omega)), zx_nI ht (by decide), h5]
      unfold zE188
      by_cases e : l = 0
      · subst e
        rw [if_pos (by decide), if_pos rfl]
      · rw [if_neg (nI_ne0 (by omega) (by omega)), if_neg e]
        simp only [zq_m]
        rw [zx_nI ht (by decide)]
  | succ r ih =>
    intro g G p μ ν hp hg hG h
    obtain ⟨g, rfl⟩ : ∃ k, g = k + 1 := ⟨g - 1, by omega⟩
    obtain ⟨G, rfl⟩ : ∃ k, G = k + 1 := ⟨G - 1, by omega⟩
    have hp12 : p < 12 := by omega
    have hpP : p < P := by omega
    have hz : zfu = 1000000000 := rfl
    obtain ⟨h1, ⟨s1, s2⟩, ⟨h3, h4, h5, h6⟩, ⟨h7, h8, h9, h10⟩, h11⟩ := id h
    obtain ⟨p1, p2, p3, p4⟩ := h11 p hpP
    have hc : zD107_22 (g + 1) (61 + 5 * t) (zb01 (decide (l = 0))) (nI p) μ = if Nat.testBit ab p = false then zD107_22 g (61 + 5 * t) (zb01 (decide (l = 0))) (nI (p + 1)) μ else (if l = 0 then zq_cV (zD108_14 zfu (61 + 5 * t) (nI p) (zb01 (Nat.testBit sb p)) (nI 0) (xe_setI μ 195 p (xe_I μ (64 + 5 * t) p))) fun m => zD107_22 g (61 + 5 * t) (zb01 (decide (l = 0))) (nI (p + 1)) m else zD107_22 g (61 + 5 * t) (zb01 (decide (l = 0))) (nI (p + 1)) (xe_setI μ 195 p (xe_I μ (64 + 5 * t) p))) := by
      show zD107_22_b (zD107_22 g) _ _ (nI p) μ = _
      unfold zD107_22_b zD107_49
      rw [h9, if_neg (nI_ge (by omega) (by omega)), zo_in (zS_task t ht) (by omega), h7, nI_1]
      by_cases e : Nat.testBit ab p = false
      · rw [if_pos ((zbit hab hp12).mpr e), if_pos e]
      · rw [if_neg (fun w => e ((zbit hab hp12).mp w)), if_neg e, h1 _ _ _ (zR_62 t ht).2, zs_some, zo_in (zS_62 t ht).2 (by omega), h1 _ _ _ (zR_63 t ht).1, zs_some, za_in (zS_64 t ht).1 (by omega), zx_nI hp12 (by decide), zx_nI hp12 (by decide)]
        simp only [zq_m]
        by_cases e2 : l = 0
        · rw [decide_eq_true e2, if_neg (show ¬ zb01 true = 0 by decide), if_pos e2]
          congr 1
          unfold zD108 zD108_11
          rw [zo_in (zS_task t ht) (by omega), show xe_R (xe_setI μ 195 p (xe_I μ (64 + 5 * t) p)) (61 + 5 * t) 14 = some (63 + 5 * t) from h1 _ _ _ (zR_62 t ht).2, zs_some, zo_in (zS_62 t ht).2 (by omega), xu_In (by omega), h8]
          cases e3 : Nat.testBit sb p with
          | false => rw [if_pos ((zbit hsb hp12).mpr e3)]; rfl
          | true => rw [if_neg (fun w => by rw [(zbit hsb hp12).mp w] at e3; cases e3)]; rfl
        · rw [decide_eq_false e2, if_pos (show zb01 false = 0 by decide), if_neg e2]
    have hr : zD188_2 (G + 1) (nI t) (nI p) ν = if Nat.testBit ab p = false then zD188_2 G (nI t) (nI (p + 1)) ν else zD188_30 (zD188_2 G) zfu (nI t) (nI p) (nI 0) (xe_setI ν 255 p (xe_I ν 262 (12 * t + p))) := by
      show zD188_2_b (zD188_2 G) _ (nI p) ν = _
      unfold zD188_2_b zD188_86
      rw [h10, if_neg (nI_ge (by omega) (by omega)), z12, zx_nI (show 12 * t + p < 288 by omega) (by decide), p1, nI_1]
      by_cases e : Nat.testBit ab p = false
      · rw [e, if_pos (show zb01 false = 0 by decide), if_pos rfl]
      · rw [if_neg (fun w => e (zb01_f.mp w)), if_neg e, zx_nI (show 12 * t + p < 288 by omega) (by decide), zx_nI hp12 (by decide)]
        rfl
    by_cases e : Nat.testBit ab p = false
    · rw [if_pos e] at hc hr
      obtain ⟨μ', ν', a1, a2, a3⟩ := ih g G (p + 1) μ ν (by omega) (by omega) (by omega) h
      exact ⟨μ', ν', hc.trans a1, hr.trans a2, a3⟩
    · rw [if_neg e] at hc hr
      -- what is meant
      have hs1 : zSd P (xe_setI μ 195 p (xe_I μ (64 + 5 * t) p)) (xe_setI ν 255 p (xe_I ν 262 (12 * t + p))) := by
        refine ⟨fun q hq => ?_, fun n hn q hq => ?_⟩
        · by_cases e : q = p
          · subst e; rw [xu_I, xu_I]; exact p4.symm
          · rw [xu_In (by omega), xu_In (by omega)]; exact s1 q hq
        · rw [xu_In (by omega), xu_In (by omega)]; exact s2 n hn q hq
      have G1 : zfG zXpb zZu zZu μ (xe_setI μ 195 p (xe_I μ (64 + 5 * t) p)) := zfG_I (by unfold zXpb; omega)
      have G2 : zfG zYpb zZu zZu ν (xe_setI ν 255 p (xe_I ν 262 (12 * t + p))) := zfG_I (by unfold zYpb; omega)
      have h' := zHp_k h ht G1 G2 hs1
      obtain ⟨b1, b2, ⟨b3, b4, b5, b6⟩, ⟨b7, b8, b9, b10⟩, b11⟩ := id h'
      by_cases e2 : l = 0
      · rw [if_pos e2] at hc
        subst e2
        obtain ⟨μ2, ν2, c1, c2, c3, c4, c5, c6⟩ := z_show (c2 := zD188_2 G) (s := Nat.testBit sb p) hP ht hp12 hnd 4 zfu zfu 0 _ _ (by omega) (by omega) (by omega) ⟨⟨b3, b4, b5⟩, ⟨(b11 p hpP).2.1, (b11 p hpP).2.2.1⟩, b1, b2⟩
        rw [c1, zcV_ok] at hc
        rw [c2] at hr
        have G3 : zfG zXpb zZu zZu (xe_setI μ 195 p (xe_I μ (64 + 5 * t) p)) μ2 := zfG_w c4 (fun a j w => by unfold zXsh at w; unfold zXpb; omega) (fun _ _ w => w) (fun _ _ w => w)
        have G4 : zfG zYpb zZu zZu (xe_setI ν 255 p (xe_I ν 262 (12 * t + p))) ν2 := zfG_w c5 (fun a j w => by unfold zYsh at w; unfold zYpb; omega) (fun _ _ w => w) (fun _ _ w => w)
        obtain ⟨μ', ν', a1, a2, a3, a4, a5, a6⟩ := ih g G (p + 1) μ2 ν2 (by omega) (by omega) (by omega) (zHp_k h' ht G3 G4 c3.2.2.2)
        exact ⟨μ', ν', hc.trans a1, hr.trans a2, a3, zfG_t G1 (zfG_t G3 a4), zfG_t G2 (zfG_t G4 a5), a6.trans c6⟩
      · rw [if_neg e2] at hc
        obtain ⟨ν2, c1, c2, c3⟩ := z_hide (c2 := zD188_2 G) ht hp12 (l := l) (by omega) hl 4 zfu 0 _ (by omega) (by omega) b5
        rw [c1] at hr
        have G4 : zfG zYpb zZu zZu (xe_setI ν 255 p (xe_I ν 262 (12 * t + p))) ν2 := zfG_w c3 (fun a j w => by unfold zYsh at w; unfold zYpb; omega) (fun _ _ w => w) (fun _ _ w => w)
        have hs2 : zSd P (xe_setI μ 195 p (xe_I μ (64 + 5 * t) p)) ν2 := ⟨fun q hq => by rw [c2]; exact hs1.1 q hq, fun n hn q hq => by rw [c2]; exact hs1.2 n hn q hq⟩
        obtain ⟨μ', ν', a1, a2, a3, a4, a5, a6⟩ := ih g G (p + 1) _ ν2 (by omega) (by omega) (by omega) (zHp_k h' ht zfG_r G4 hs2)
        exact ⟨μ', ν', hc.trans a1, hr.trans a2, a3, zfG_t G1 a4, zfG_t G2 (zfG_t G4 a5), a6⟩
def zXpu (a j : Nat) : Prop := (a = 195 ∨ (197 ≤ a ∧ a ≤ 200)) ∨ (a = 194 ∧ (j = 5 ∨ j = 6))
def zYpu (t a j : Nat) : Prop := (a = 255 ∨ a = 256) ∨ (a = 203 ∧ (j = 74 ∨ j = 75)) ∨ (a = 259 ∧ j = t)
/-- a span's end in both -/
theorem z_pub (ht : t < 24) (hP : P ≤ 12) (hnd : nd < 4) (hl : l ≤ 200) (hab : ab < 4096) (hsb : sb < 4096) (h : zHp t P nd l ab sb μ ν) (h0 : xe_I μ (61 + 5 * t) 0 = nI t) (hf : xe_I μ 194 5 = xe_I ν 203 74 ∧ xe_I μ 194 6 = xe_I ν 203 75) : ∃ μ' ν', zD107 (61 + 5 * t) μ = some (.inl none, μ') ∧ zD188 (nI t) ν = some (.inl none, ν') ∧ zSd P μ' ν' ∧ (xe_I μ' 194 5 = xe_I ν' 203 74 ∧ xe_I μ' 194 6 = xe_I ν' 203 75) ∧ zfG zXpu zZu zZu μ μ' ∧ zfG (zYpu t) zZu zZu ν ν' ∧ xe_sh μ' = xe_sh μ := by
  have hz : zfu = 1000000000 := rfl
  obtain ⟨h1, h2, ⟨h3, h4, h5, h6⟩, ⟨h7, h8, h9, h10⟩, h11⟩ := id h
  have w1 : ∀ {μ μ' : xe_Mem}, zfG zXpb zZu zZu μ μ' → zfG zXpu zZu zZu μ μ' := fun g => zfG_w g (fun a j w => by unfold zXpb at w; unfold zXpu; omega) (fun _ _ w => w) (fun _ _ w => w)
  have w2 : ∀ {ν ν' : xe_Mem}, zfG zYpb zZu zZu ν ν' → zfG (zYpu t) zZu zZu ν ν' := fun g => zfG_w g (fun a j w => by unfold zYpb at w; unfold zYpu; omega) (fun _ _ w => w) (fun _ _ w => w)
  by_cases e : l = 0
  · subst e
    obtain ⟨μ', ν', a1, a2, a3, a4, a5, a6⟩ := z_pubp ht hP hnd hl hab hsb P zfu zfu 0 μ ν (by omega) (by omega) (by omega) h
    refine ⟨μ', ν', ?_, ?_, a3, ⟨?_, ?_⟩, w1 a4, w2 a5, a6⟩
    · unfold zD107 zD107_7 zD107_20
      rw [zo_in (zS_task t ht) (by omega), h1 _ _ _ (zR_62 t ht).2, zs_some, zo_in (zS_62 t ht).2 (by omega), h6, if_pos (by decide), if_neg (show ¬ (1 : Int32) = 0 by decide)]
      exact a1
    · unfold zD188
      exact a2
    · rw [(a4 194 (by decide) 5).1 (by unfold zXpb; omega), (a5 203 (by decide) 74).1 (by unfold zYpb; omega)]; exact hf.1
    · rw [(a4 194 (by decide) 6).1 (by unfold zXpb; omega), (a5 203 (by decide) 75).1 (by unfold zYpb; omega)]; exact hf.2
  · have hs1 : ∀ (v w : Int32), zHp t P nd l ab sb (xe_setI (xe_setI μ 194 5 v) 194 6 w) ν := fun v w => by
      have c : ∀ a j, a ≠ 194 → xe_I (xe_setI (xe_setI μ 194 5 v) 194 6 w) a j = xe_I μ a j := fun a j q => by rw [xu_In (by omega), xu_In (by omega)]
      refine ⟨h1, ⟨fun q hq => (c _ _ (by omega)).trans (h2.1 q hq), fun n hn q hq => (c _ _ (by omega)).trans (h2.2 n hn q hq)⟩, ⟨(c _ _ (by omega)).trans h3, h4, h5, (c _ _ (by omega)).trans h6⟩, ⟨(c _ _ (by omega)).trans h7, (c _ _ (by omega)).trans h8, (c _ _ (by omega)).trans h9, h10⟩, fun p hp => ?_⟩
      rw [c (65 + 5 * t) p (by omega), c (64 + 5 * t) p (by omega)]
      exact h11 p hp
    obtain ⟨μ', ν', a1, a2, a3, a4, a5, a6⟩ := z_pubp ht hP hnd hl hab hsb P zfu zfu 0 (xe_setI (xe_setI μ 194 5 (xe_I μ 194 5 + 1)) 194 6 (nI t)) ν (by omega) (by omega) (by omega) (hs1 _ _)
    unfold zE188 at a2
    rw [if_neg e] at a2
    refine ⟨μ', _, ?_, a2, ⟨fun q hq => ?_, fun n hn q hq => ?_⟩, ⟨?_, ?_⟩, zfG_t (zfG_t (zfG_I (by unfold zXpu; omega)) (zfG_I (by unfold zXpu; omega))) (w1 a4), zfG_t (w2 a5) (zfG_t (zfG_t (zfG_I (by unfold zYpu; omega)) (zfG_I (by unfold zYpu; omega))) (zfG_I (by unfold zYpu; omega))), a6⟩
    · unfold zD107 zD107_7 zD107_20
      rw [zo_in (zS_task t ht) (by omega), h1 _ _ _ (zR_62 t ht).2, zs_some, zo_in (zS_62 t ht).2 (by omega), h6, if_neg (nI_ne0 (by omega) (by omega)), if_pos rfl]
      simp only [zq_m]
      rw [zo_in (zS_task t ht) (by omega), xu_In (by omega), h0]
      rw [decide_eq_false e] at a1
      exact a1
    · rw [xu_In (by omega), xu_In (by omega), xu_In (by omega)]; exact a3.1 q hq
    · rw [xu_In (by omega), xu_In (by omega), xu_In (by omega)]; exact a3.2 n hn q hq
    · rw [(a4 194 (by decide) 5).1 (by unfold zXpb; omega), xu_In (by omega), xu_I, xu_In (by omega), xu_In (by omega), xu_I, (a5 203 (by decide) 74).1 (by unfold zYpb; omega), hf.1]
    · rw [(a4 194 (by decide) 6).1 (by unfold zXpb; omega), xu_I, xu_In (by omega), xu_I]
end
