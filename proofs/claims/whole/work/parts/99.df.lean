/-! end and feed -/
section
variable {μ ν μ' ν' : xe_Mem} {x : Int32}
theorem zJ_w (hJ : zJJ μ ν) (g1 : zfG zXrun zYo zYo μ μ') (r1 : zRt μ') (g2 : zfG zYrun zZo zZo ν ν') (ht : zJt μ' ν') (hw : zwC μ μ') (hv : zwR ν ν') : zJJ μ' ν' := by
  obtain ⟨-, ⟨h11, h12, h13, u, h14, h15⟩, P, S, M, T, Sw, Sl, F, K, Z, pr, hg, ha, hr⟩ := hJ
  have k1 : ∀ a j, a < 265 → ¬ zXrun a j → xe_I μ' a j = xe_I μ a j := fun a j q1 q2 => (g1 a q1 j).1 q2
  refine ⟨ht, ⟨⟨r1, hw.2⟩, fun t ht => (k1 _ _ (by omega) (by unfold zXrun; omega)).trans (h12 t ht), fun i hi => (k1 _ _ (by omega) (by unfold zXrun; omega)).trans (h13 i hi), u, h14, (k1 181 9 (by omega) (by unfold zXrun; omega)).trans h15⟩, P, S, M, T, Sw, Sl, F, K, Z, pr, zGt_k hg g1 g2, ?_, ?_⟩
  · rcases ha with ha | ha
    · exact Or.inl ha
    · exact Or.inr (zAll_k ha g1 r1 g2)
  · rw [hw.1 194 (by omega) (by omega) 1, hv 203 70 (by omega)]
    rcases hr with hr | ⟨q1, q2, q3, q4⟩
    · exact Or.inl hr
    · exact Or.inr ⟨q1, q2, zAll_k q3 g1 r1 g2, zRu_e q3 q4 hw hv⟩
theorem z_cend (hJ : zJJ μ ν) : ∃ v μ' ν', zD14 x μ = zint v μ' ∧ zD131 x ν = zint v ν' ∧ ((∃ g, xe_sh μ' = xv_S ++ g) → zJJ μ' ν') := by
  obtain ⟨tb, tx, s, n, ⟨h1, h1', h1''⟩, ⟨h2, h3, h4, h5⟩, h6, h7, h8, h9, h10⟩ := id hJ.1
  by_cases hx : ¬ x < 0 ∧ x ≤ nI s
  · obtain ⟨q, q1, q2⟩ := zi_nat hx.1
    subst q2
    have hq : q ≤ s := by
      have := hx.2
      rw [zi_le q1 (by omega)] at this
      exact this
    obtain ⟨μ', a1, a2, a3, a4, a5⟩ := z14 (zsh_in hJ.2.1.1.2 rfl) (zsh_in hJ.2.1.1.2 rfl) h2 h1 h6 hq
    obtain ⟨ν', b1, b2, b3, b4, b5, b6⟩ := z131 h3 h7 h1 hq
    have c : ∀ a j, a < 265 → ¬ (a = 2 ∨ (a = 0 ∧ (j = 2 ∨ j = 3))) → xe_I μ' a j = xe_I μ a j := fun a j w1 w2 => (a5 a w1).1 j (by
      unfold zXend
      simp only [Bool.or_eq_false_iff, Bool.and_eq_false_iff, beq_eq_false_iff_ne, ne_eq]
      omega)
    have r : ∀ a j, a < 265 → ¬ (a = 205 ∨ (a = 203 ∧ (j = 0 ∨ j = 1 ∨ j = 3))) → xe_I ν' a j = xe_I ν a j := fun a j w1 w2 => (b5 a w1).1 j (by
      unfold zYend
      simp only [Bool.or_eq_false_iff, Bool.and_eq_false_iff, beq_eq_false_iff_ne, ne_eq]
      omega)
    have hRt : zRt μ' := fun a j b hb => by
      have ha : a < 265 := by
        refine Nat.lt_of_not_le (fun h265 => ?_)
        rw [xv_zn _ (by rw [xv_rl]; omega)] at hb
        cases hb
      rw [(a5 a ha).2.2]
      exact hJ.2.1.1.1 a j b hb
    refine ⟨1, μ', ν', a1, b1, fun hs => zJ_w hJ (fun a ha j => ⟨fun w => c a j ha (by unfold zXrun at w; omega), fun _ => by rw [(a5 a ha).2.1], fun _ => by rw [(a5 a ha).2.2]⟩) hRt (fun a ha j => ⟨fun w => r a j ha (by unfold zYrun at w; omega), fun _ => by rw [(b5 a ha).2.1], fun _ => by rw [(b5 a ha).2.2]⟩) ⟨tb, tb, 0, q, ⟨by omega, by omega, by omega⟩, ⟨a2, b2, a3, b3⟩, fun i hi => by omega, fun i hi => by omega, a4, b4, fun w hw => ?_⟩ ⟨fun a w1 w2 j => c a j (by omega) (by omega), hs⟩ (fun a j w => r a j (by omega) (by omega))⟩
    rw [(b5 206 (by decide)).2.1]
    exact h10 w hw
  · have hx' : x < 0 ∨ ¬ x ≤ nI s := by
      by_cases h0 : x < 0
      · exact Or.inl h0
      · exact Or.inr (fun w => hx ⟨h0, w⟩)
    exact ⟨0, μ, xe_setI ν 203 0 0, z14no (by rw [h2]; exact hx'), z131no h3 h1 hx', fun _ => zJ_0 hJ⟩
end
/-! bytes -/
theorem zt8 (x : Int32) : (x &&& 255).toInt8 = x.toInt8 := by
  apply Int8.toInt_inj.mp
  rw [Int32.toInt_toInt8, Int32.toInt_toInt8]
  have e1 : (x &&& 255).toBitVec.toNat = x.toBitVec.toNat % 256 := by
    rw [Int32.toBitVec_and, BitVec.toNat_and]
    show x.toBitVec.toNat &&& 255 = _
    rw [show (255 : Nat) = 2 ^ 8 - 1 from rfl, Nat.and_two_pow_sub_one_eq_mod]
  have e2 : (x &&& 255).toInt = ((x.toBitVec.toNat % 256 : Nat) : Int) := by
    show (x &&& 255).toBitVec.toInt = _
    rw [BitVec.toInt_eq_toNat_of_lt (by rw [e1]; omega), e1]
  have e3 : x.toInt % 256 = ((x.toBitVec.toNat % 256 : Nat) : Int) := by
    show x.toBitVec.toInt % 256 = _
    rw [BitVec.toInt_eq_toNat_cond]
    have := x.toBitVec.isLt
    split <;> omega
  unfold Int.bmod
  have e4 : (x &&& 255).toInt % 256 = x.toInt % 256 := by
    rw [e2, e3]
    omega
  show (if (x &&& 255).toInt % 256 < _ then (x &&& 255).toInt % 256 else (x &&& 255).toInt % 256 - 256) = (if x.toInt % 256 < _ then x.toInt % 256 else x.toInt % 256 - 256)
  rw [e4]
def zbn (x : Int32) : Nat := (x &&& 255).toBitVec.toNat
theorem zbn_lt (x : Int32) : zbn x < 256 := by
  unfold zbn
  rw [Int32.toBitVec_and, BitVec.toNat_and]
  exact Nat.lt_of_le_of_lt Nat.and_le_right (by decide)
theorem zbn_r (x : Int32) : x &&& 255 = nI (zbn x) := by
  apply Int32.toBitVec_inj.mp
  show _ = BitVec.ofNat 32 _
  unfold zbn
  simp
theorem zbn_a : ∀ n, n < 256 → vp_nar .byte ((nI n).toInt8.toInt32) = zcB n := by decide +kernel
theorem zbn_c (x : Int32) : vp_nar .byte (x.toInt8.toInt32) = zcB (zbn x) := by
  rw [← zt8, zbn_r]
  exact zbn_a _ (zbn_lt x)
section
variable {μ : xe_Mem} {a b e f g v : Int32} {s q i : Nat}
def zbc (v sh : Int32) : Int32 := vp_nar .byte ((v >>> (sh &&& 31)).toInt8.toInt32)
theorem xp_b1 {sh : Int32} : xe_I (xp_b μ v sh s) 1 i = if i = s then zbc v sh else xe_I μ 1 i := by
  unfold xp_b
  rw [xu_In (by omega)]
  by_cases h : i = s
  · rw [if_pos h, h, xu_I]
    rfl
  · rw [if_neg h, xu_In (by omega)]
theorem xp_41 {r : Nat} : xe_I (xp_4 μ v (s + r)) 1 (s + q) = if q = r + 3 then zbc v 0 else if q = r + 2 then zbc v 8 else if q = r + 1 then zbc v 16 else if q = r then zbc v 24 else xe_I μ 1 (s + q) := by
  unfold xp_4
  rw [xp_b1, xp_b1, xp_b1, xp_b1]
  have e : ∀ k, (s + q = s + r + k) = (q = r + k) := fun k => propext (by omega)
  have e0 : (s + q = s + r) = (q = r) := propext (by omega)
  simp only [e, e0]
theorem xp_201 (hq : q < 20) : xe_I (xp_20 μ a b e f g s) 1 (s + q) = zbc (xp_w a b e f g q) (24 - 8 * (nI q - nI q / 4 * 4)) := by
  have h20 : xp_20 μ a b e f g s = xp_4 (xp_4 (xp_4 (xp_4 (xp_4 μ a (s + 0)) b (s + 4)) e (s + 8)) f (s + 12)) g (s + 16) := rfl
  rw [h20, xp_41, xp_41, xp_41, xp_41, xp_41]
  rcases (show q = 0 ∨ q = 1 ∨ q = 2 ∨ q = 3 ∨ q = 4 ∨ q = 5 ∨ q = 6 ∨ q = 7 ∨ q = 8 ∨ q = 9 ∨ q = 10 ∨ q = 11 ∨ q = 12 ∨ q = 13 ∨ q = 14 ∨ q = 15 ∨ q = 16 ∨ q = 17 ∨ q = 18 ∨ q = 19 by omega) with rfl | rfl | rfl | rfl | rfl | rfl | rfl | rfl | rfl | rfl | rfl | rfl | rfl | rfl | rfl | rfl | rfl | rfl | rfl | rfl <;> rfl
theorem xp_b3 {sh : Int32} : xe_I (xp_b μ v sh s) 0 3 = xe_I μ 0 3 := by
  unfold xp_b
  rw [xu_In (by omega), xu_In (by omega)]
theorem xp_203 : xe_I (xp_20 μ a b e f g s) 0 3 = xe_I μ 0 3 := by
  unfold xp_20 xp_4
  simp only [xp_b3]
theorem xp_b1o {sh : Int32} (h : i < s) : xe_I (xp_b μ v sh s) 1 i = xe_I μ 1 i := by
  rw [xp_b1, if_neg (by omega)]
theorem xp_201o (h : i < s) : xe_I (xp_20 μ a b e f g s) 1 i = xe_I μ 1 i := by
  unfold xp_20 xp_4
  rw [xp_b1o (by omega), xp_b1o (by omega), xp_b1o (by omega), xp_b1o (by omega), xp_b1o (by omega), xp_b1o (by omega), xp_b1o (by omega), xp_b1o (by omega), xp_b1o (by omega), xp_b1o (by omega), xp_b1o (by omega), xp_b1o (by omega), xp_b1o (by omega), xp_b1o (by omega), xp_b1o (by omega), xp_b1o (by omega), xp_b1o (by omega), xp_b1o (by omega), xp_b1o (by omega), xp_b1o (by omega)]
theorem xp_m204 : ∀ (m q : Nat) (μ : xe_Mem), xe_I (xp_m μ a b e f g s q m) 204 i = if s + q ≤ i ∧ i < s + q + m then xp_y a b e f g (i - s) else xe_I μ 204 i := by
  intro m
  induction m with
  | zero => intro q μ; rw [if_neg (by omega)]; rfl
  | succ m ih =>
    intro q μ
    show xe_I (xp_m _ a b e f g s (q + 1) m) 204 i = _
    rw [ih]
    by_cases h : s + (q + 1) ≤ i ∧ i < s + (q + 1) + m
    · rw [if_pos h, if_pos (by omega)]
    · rw [if_neg h]
      by_cases h2 : i = s + q
      · subst h2
        rw [if_pos (by omega), xu_I, show s + q - s = q by omega]
      · rw [if_neg (by omega), xu_In (by omega)]
theorem xp_mL : ∀ (m q : Nat) (μ : xe_Mem), xe_L (xp_m μ a b e f g s q m) = xe_L μ ∧ xe_R (xp_m μ a b e f g s q m) = xe_R μ := by
  intro m
  induction m with
  | zero => intro q μ; exact ⟨rfl, rfl⟩
  | succ m ih => intro q μ; exact ih (q + 1) _
theorem xp_4L : xe_L (xp_4 μ v s) = xe_L μ ∧ xe_R (xp_4 μ v s) = xe_R μ := ⟨rfl, rfl⟩
theorem xp_20L : xe_L (xp_20 μ a b e f g s) = xe_L μ ∧ xe_R (xp_20 μ a b e f g s) = xe_R μ := by
  unfold xp_20
  rw [xp_4L.1, xp_4L.1, xp_4L.1, xp_4L.1, xp_4L.1, xp_4L.2, xp_4L.2, xp_4L.2, xp_4L.2, xp_4L.2]
  exact ⟨rfl, rfl⟩
end
/-- feed in both -/
theorem z_feed {δ : xe_Dy} {c : Nat} {σ : xe_Mem} {a b e f g : Int32} (hF : xF c σ) (hJ : zJJ σ σ) : ∃ v σ1 σ2, xs_M δ 999 12 [.ref 0, .int a, .int b, .int e, .int f, .int g] σ (.inl (some (.int v))) σ1 ∧ xs_M δ 999 130 [.ref 203, .int a, .int b, .int e, .int f, .int g] σ1 (.inl (some (.int v))) σ2 ∧ zJJ σ2 σ2 ∧ xF (c + 1) σ1 ∧ xF (c + 1) σ2 := by
  obtain ⟨tb, tx, s, n, ⟨h1, h1', h1''⟩, ⟨h2, h3, h4, h5⟩, h6, h7, h8, h9, h10⟩ := id hJ.1
  by_cases hs : s + 20 ≤ 3000
  · have hF1 := xp_20_F (a := a) (b := b) (e := e) (f := f) (g := g) (s := s) hF
    have hs1 : xe_I (xp_20 σ a b e f g s) 203 1 = nI s := (xp_20_o (by decide) (by decide)).trans h3
    have hF2 : xF c (xp_M (xp_20 σ a b e f g s) a b e f g s) := xF_setI (xp_mF 20 0 _ (xF_setI hF1))
    obtain ⟨τ, hτ⟩ : ∃ τ, τ = xp_M (xp_20 σ a b e f g s) a b e f g s := ⟨_, rfl⟩
    have hL : ∀ q, xe_L τ q = xe_L σ q ∧ xe_R τ q = xe_R σ q := fun q => by
      rw [hτ]
      unfold xp_M
      rw [zr_LI, zr_RI, (xp_mL 20 0 _).1, (xp_mL 20 0 _).2, zr_LI, zr_RI, xp_20L.1, xp_20L.2]
      exact ⟨rfl, rfl⟩
    have ko : ∀ q j, q ≠ 0 → q ≠ 1 → q ≠ 204 → ¬ (q = 203 ∧ j ≤ 1) → xe_I τ q j = xe_I σ q j := fun q j w1 w2 w3 w4 => by
      rw [hτ]
      unfold xp_M
      rw [xu_In (by omega), xp_mo w3, xu_In (by omega), xp_20_o w1 w2]
    have k1 : ∀ q j, q ≤ 1 → xe_I τ q j = xe_I (xp_20 σ a b e f g s) q j := fun q j w => by
      rw [hτ]
      unfold xp_M
      rw [xu_In (by omega), xp_mo (by omega), xu_In (by omega)]
    have k204 : ∀ i, xe_I τ 204 i = if s + 0 ≤ i ∧ i < s + 0 + 20 then xp_y a b e f g (i - s) else xe_I σ 204 i := fun i => by
      rw [hτ]
      unfold xp_M
      rw [xu_In (by omega), xp_m204, xu_In (by omega), xp_20_o (by decide) (by decide)]
    rw [← hτ] at hF2
    refine ⟨1, _, τ, xs_deeper (xc_feed_ok (d := 0) hF h2 hs) (by decide), by rw [hτ]; exact xr_feed_ok hF1 hs1 hs, zJ_w hJ (fun q hq j => ⟨fun w => ko q j (by unfold zXrun at w; omega) (by unfold zXrun at w; omega) (by unfold zXrun at w; omega) (by unfold zXrun at w; omega), fun _ => by rw [(hL q).1], fun _ => by rw [(hL q).2]⟩) hF2.2.1 (fun q hq j => ⟨fun w => ko q j (by unfold zYrun at w; omega) (by unfold zYrun at w; omega) (by unfold zYrun at w; omega) (by unfold zYrun at w; omega), fun _ => by rw [(hL q).1], fun _ => by rw [(hL q).2]⟩) ⟨fun i => if i < s then tb i else zbn (xp_w a b e f g (i - s) >>> ((24 - 8 * (nI (i - s) - nI (i - s) / 4 * 4)) &&& 31)), tx, s + 20, n, ⟨hs, by omega, h1''⟩, ⟨?_, ?_, ?_, ?_⟩, fun i hi => ?_, fun i hi => ?_, fun i hi => ⟨(h8 i hi).1, ?_⟩, fun i hi => ⟨(h9 i hi).1, ?_⟩, fun w hw => by rw [(hL 206).1]; exact h10 w hw⟩ ⟨fun q w1 w2 j => ko q j (by omega) (by omega) (by omega) (by omega), hF2.1⟩ (fun q j w => ko q j (by omega) (by omega) (by omega) (by omega)), xF_1 hF1, xF_1 hF2⟩
    · rw [k1 0 2 (by omega)]
      exact xp_20_s
    · rw [hτ]
      unfold xp_M
      rw [xu_I]
      exact nI_add s 20
    · rw [k1 0 3 (by omega), xp_203]
      exact h4
    · rw [ko 203 3 (by omega) (by omega) (by omega) (by omega)]
      exact h5
    · rw [k1 1 i (by omega)]
      by_cases hi2 : i < s
      · rw [xp_201o hi2]
        show (if i < s then tb i else _) < 256 ∧ _ = zcB (if i < s then tb i else _)
        rw [if_pos hi2]
        exact h6 i hi2
      · obtain ⟨q, rfl⟩ : ∃ q, i = s + q := ⟨i - s, by omega⟩
        rw [xp_201 (by omega)]
        show (if s + q < s then tb (s + q) else _) < 256 ∧ _ = zcB (if s + q < s then tb (s + q) else _)
        rw [if_neg hi2, show s + q - s = q by omega]
        exact ⟨zbn_lt _, zbn_c _⟩
    · rw [k204]
      by_cases hi2 : i < s
      · rw [if_neg (by omega)]
        show (if i < s then tb i else _) < 256 ∧ _ = nI (if i < s then tb i else _)
        rw [if_pos hi2]
        exact h7 i hi2
      · rw [if_pos (by omega)]
        show (if i < s then tb i else _) < 256 ∧ _ = nI (if i < s then tb i else _)
        rw [if_neg hi2]
        exact ⟨zbn_lt _, zbn_r _⟩
    · rw [ko 2 i (by omega) (by omega) (by omega) (by omega)]
      exact (h8 i hi).2
    · rw [ko 205 i (by omega) (by omega) (by omega) (by omega)]
      exact (h9 i hi).2
  · have hs3 : s = 3000 := by omega
    subst hs3
    exact ⟨0, σ, xe_setI σ 203 0 0, xc_feed_no hF h2 (by omega) (by omega), xr_feed_no hF h3, zJ_e (zJ_0 hJ) ⟨fun q w j => ⟨xu_In (by omega), rfl, rfl⟩, hF.2.1, hF.1⟩ zeR_r, xF_1 hF, xF_1 hF⟩
