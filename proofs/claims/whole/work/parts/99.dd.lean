/-! what is asked of a program: count, task, check, slack, slot -/
def zp87 (a0 : Int32) : Int32 :=
  let x1 := a0 - (((a0.toUInt32 >>> ((1 : Int32).toUInt32 &&& Int32.toUInt32 31)).toInt32) &&& 1431655765)
  let x2 := (x1 &&& 858993459) + (((x1.toUInt32 >>> ((2 : Int32).toUInt32 &&& Int32.toUInt32 31)).toInt32) &&& 858993459)
  let x3 := (x2 + ((x2.toUInt32 >>> ((4 : Int32).toUInt32 &&& Int32.toUInt32 31)).toInt32)) &&& 252645135
  let x4 := x3 + ((x3.toUInt32 >>> ((8 : Int32).toUInt32 &&& Int32.toUInt32 31)).toInt32)
  let x5 := x4 + ((x4.toUInt32 >>> ((16 : Int32).toUInt32 &&& Int32.toUInt32 31)).toInt32)
  x5 &&& 63
theorem z87a : ∀ a, a < 64 → ∀ b, b < 64 → zp87 (nI (64 * a + b)) = nI (zct (Nat.testBit (64 * a + b)) 12) := by decide +kernel
theorem z87 {ab : Nat} {μ : xe_Mem} (h : ab < 4096) : zD87 (nI ab) μ = zint (nI (zct (Nat.testBit ab) 12)) μ := by
  have e := z87a (ab / 64) (by omega) (ab % 64) (by omega)
  rw [show 64 * (ab / 64) + ab % 64 = ab by omega] at e
  rw [← e]
  rfl
theorem zct_P {ab P : Nat} (h : ab < 2 ^ P) : ∀ r, zct (Nat.testBit ab) (P + r) = zct (Nat.testBit ab) P := by
  intro r
  induction r with
  | zero => rfl
  | succ r ih =>
    show zct (Nat.testBit ab) (P + r) + (if Nat.testBit ab (P + r) = true then 1 else 0) = _
    rw [ih, Nat.testBit_lt_two_pow (Nat.lt_of_lt_of_le h (Nat.pow_le_pow_right (by decide) (by omega))), if_neg (by decide), Nat.add_zero]
theorem z_sp {x : Int32} {n : Nat} (hn : n < 100000) : (∃ t, t < n ∧ x = nI t) ∨ ¬ (¬ x < 0 ∧ x < nI n) := by
  by_cases h : ¬ x < 0 ∧ x < nI n
  · obtain ⟨t, t1, t2⟩ := zi_nat h.1
    have h2 := h.2
    rw [t2, zi_lt t1 (by omega)] at h2
    exact Or.inl ⟨t, h2, t2⟩
  · exact Or.inr h
theorem z_inT {x : Int32} {n : Nat} (hn : n < 100000) : ((0 : Int64) ≤ x.toInt64 ∧ x.toInt64 ≤ (nI n - 1).toInt64) ↔ (¬ x < 0 ∧ x < nI n) := by
  have e0 : (0 : Int32).toInt = 0 := rfl
  rw [z_in32, show (nI n - 1 : Int32) = nI n - nI 1 from rfl, z_s2 hn (by decide), Int32.lt_iff_toInt_lt, Int32.lt_iff_toInt_lt, nI_toInt (by omega), e0]
  omega
theorem z_rg {t n : Nat} (h : t < n) (hn : n < 100000) : ¬ nI t < 0 ∧ nI t < nI n := ⟨nI_pos (by omega), by rw [zi_lt (by omega) (by omega)]; exact h⟩
/-- a small number, or none that the reference takes -/
theorem z_sm {w : Int32} (n : Nat) (hn : n < 1000) : (∃ k, k ≤ n ∧ w = nI k) ∨ ¬ ((0 : Int64) ≤ w.toInt64 ∧ w.toInt64 ≤ nL n) := by
  by_cases h : (0 : Int64) ≤ w.toInt64 ∧ w.toInt64 ≤ nL n
  · obtain ⟨h1, h2⟩ := (zi_in (by omega)).mp h
    obtain ⟨k, k1, k2⟩ := zi_nat h1
    rw [k2, zi_le k1 (by omega)] at h2
    exact Or.inl ⟨k, h2, k2⟩
  · exact Or.inr h
section
variable {μ ν : xe_Mem} {x w s : Int32} {T M t m : Nat}
theorem z86y (h : ¬ x < 0 ∧ x < s) : zD86 x s μ = some (.inl none, μ) := by
  unfold zD86
  rw [if_neg h.1, if_pos h.2]
theorem z86n (hth : zThr μ) (h : ¬ (¬ x < 0 ∧ x < s)) : zD86 x s μ = some (.inr (xe_sh μ).length, xe_add μ (.inl 14) 6) := by
  unfold zD86 zD86_5
  by_cases h0 : x < 0
  · rw [if_pos h0]; exact hth 14
  · rw [if_neg h0, if_neg (fun w => h ⟨h0, w⟩)]; exact hth 14
theorem z85y (hR : zRt μ) (h7 : xe_I μ 7 7 = nI T) (ht : t < T) (hT : T ≤ 24) : zD85 (nI t) μ = some (.inl (some (.ref (61 + 5 * t))), μ) := by
  unfold zD85
  rw [h7, z86y (z_rg ht (by omega)), zcV_ok, zx_nI (show t < 24 by omega) (by decide), hR _ _ _ (zR_16 t (by omega)), zs_some]
theorem z85n (hth : zThr μ) (h7 : xe_I μ 7 7 = nI T) (h : ¬ (¬ x < 0 ∧ x < nI T)) : zD85 x μ = some (.inr (xe_sh μ).length, xe_add μ (.inl 14) 6) := by
  unfold zD85
  rw [h7, z86n hth h, zcV_no]
theorem z90y (hR : zRt μ) (h7 : xe_I μ 7 6 = nI M) (hm : m < M) (hM : M ≤ 4) : zD90 (nI m) μ = some (.inl (some (.ref (17 + 11 * m))), μ) := by
  unfold zD90
  rw [h7, z86y (z_rg hm (by omega)), zcV_ok, zx_nI (show m < 4 by omega) (by decide), hR _ _ _ (zR_15 m (by omega)), zs_some]
theorem z90n (hth : zThr μ) (h7 : xe_I μ 7 6 = nI M) (h : ¬ (¬ x < 0 ∧ x < nI M)) : zD90 x μ = some (.inr (xe_sh μ).length, xe_add μ (.inl 14) 6) := by
  unfold zD90
  rw [h7, z86n hth h, zcV_no]
theorem z180y (h : xe_I ν 203 22 = nI T) (ht : t < T) (hT : T ≤ 24) : zD180 (nI t) ν = zint 1 ν := by
  unfold zD180
  rw [h, z132, zcI_ok, if_pos ((z_inT (by omega)).mpr (z_rg ht (by omega))), zz_1]
theorem z180n (h : xe_I ν 203 22 = nI T) (hT : T ≤ 24) (hx : ¬ (¬ x < 0 ∧ x < nI T)) : zD180 x ν = zint 0 ν := by
  unfold zD180
  rw [h, z132, zcI_ok, if_neg (fun w => hx ((z_inT (by omega)).mp w)), zz_0]
end
def zok1 (ci : Nat) (kk : Int32) : Prop := ci = 14 ∧ kk = 1
section
variable {μ ν : xe_Mem} {x w : Int32}
theorem z179n {v1 v2 : Int32} : zD179_13 v1 v2 ν = zint 0 (xe_setI ν 203 0 1) := by
  unfold zD179_13 zD179_14
  simp only [zq_m]
  rw [xu_I, if_neg (by decide)]
/-- the ports that a task assigns, counted by the reference -/
theorem z179c {P t ab : Nat} {v2 : Int32} (hP : P ≤ 12) (ht : t < 24) (h12 : xe_I ν 203 12 = nI P) (hb : ∀ p, p < 12 → xe_I ν 227 (12 * t + p) = zb01 (Nat.testBit ab p)) : ∀ (r g p : Nat), p + r = P → r < g → zD179_63 g (nI t) v2 (nI (zct (Nat.testBit ab) p)) (nI p) ν = zint (nI (zct (Nat.testBit ab) P)) ν := by
  intro r
  induction r with
  | zero =>
    intro g p hp hg
    obtain ⟨g, rfl⟩ : ∃ k, g = k + 1 := ⟨g - 1, by omega⟩
    have : p = P := by omega
    subst this
    show zD179_63_b (zD179_63 g) _ _ _ (nI p) ν = _
    unfold zD179_63_b
    rw [h12, if_pos (nI_le (Nat.le_refl _) (by omega))]
  | succ r ih =>
    intro g p hp hg
    obtain ⟨g, rfl⟩ : ∃ k, g = k + 1 := ⟨g - 1, by omega⟩
    have e := ih g (p + 1) (by omega) (by omega)
    show zD179_63_b (zD179_63 g) _ _ _ (nI p) ν = _
    unfold zD179_63_b zD179_80
    rw [h12, if_neg (nI_ge (by omega) (by omega)), z12, zx_nI (show 12 * t + p < 288 by omega) (by decide), hb p (by omega)]
    simp only [zq_vI]
    rw [nI_1, show (nI (zct (Nat.testBit ab) p) + 0 : Int32) = nI (zct (Nat.testBit ab) p) from Int32.add_zero _, nI_1]
    cases hz : Nat.testBit ab p with
    | false =>
      rw [if_pos (show zb01 false = 0 by decide)]
      rw [zct_s.2.2 hz] at e
      exact e
    | true =>
      rw [if_neg (show ¬ zb01 true = 0 by decide)]
      rw [zct_s.2.1 hz] at e
      exact e
theorem z_ctask (hJ : zJJ μ ν) (hth : zThr μ) : zAns zok1 (zD84 x w μ) (zD179 x w ν) μ := by
  have hz : zfu = 1000000000 := rfl
  obtain ⟨P, S, M, T, Sw, Sl, F, K, Z, pr, hg, -, -⟩ := id hJ.2.2
  obtain ⟨⟨h1, h2, h3, h4⟩, ⟨⟨c4, c5, c6, c7⟩, ⟨r12, r15, r17, r22⟩⟩, h5, h6, h7⟩ := id hg
  have hR := hJ.2.1.1.1
  rcases z_sp (x := x) (n := T) (by omega) with ⟨t, ht, rfl⟩ | hx
  · have ht24 : t < 24 := by omega
    obtain ⟨⟨a1, a2, a3, a4, a5, a6⟩, -, ab, d1, d2, d3⟩ := h6 t ht
    have hc : zD84 (nI t) w μ = if w = 0 then zint (xe_I μ (61 + 5 * t) 1) μ else if w = 1 then zint (xe_I μ (61 + 5 * t) 2) μ else if w = 2 then zint (xe_I μ (61 + 5 * t) 3) μ else if w = 3 then zint (xe_I μ (61 + 5 * t) 4) μ else if w = 4 then zint (xe_I μ (61 + 5 * t) 5) μ else if w = 5 then zint (nI (zct (Nat.testBit ab) P)) μ else some (.inr (xe_sh μ).length, xe_add μ (.inl 14) 6) := by
      have hab : ab < 4096 := Nat.lt_of_lt_of_le d1 (show 2 ^ P ≤ 2 ^ 12 from Nat.pow_le_pow_right (by decide) h1)
      have e12 := zct_P d1 (12 - P)
      rw [show P + (12 - P) = 12 by omega] at e12
      unfold zD84
      rw [z85y hR c7 ht h4, zcR_ok]
      simp only [zo_in (zS_task t ht24) (show 61 + 5 * t < 203 by omega)]
      rw [d2, z87 hab, zcI_ok, e12, hth 14]
    have hr : ∀ k : Int32, zD179 (nI t) w ν = if (0 : Int64) ≤ w.toInt64 ∧ w.toInt64 ≤ nL 5 then zD179_14 (nI t) w 0 ν else zint 0 (xe_setI ν 203 0 1) := fun _ => by
      unfold zD179
      rw [z180y r22 ht h4, zcI_ok, if_neg (show ¬ (1 : Int32) = 0 by decide), z132, zcI_ok]
      show (if (if (0 : Int64) ≤ w.toInt64 ∧ w.toInt64 ≤ nL 5 then (1 : Int32) else 0) = 0 then zD179_13 (nI t) w ν else zD179_14 (nI t) w 0 ν) = _
      by_cases hw : (0 : Int64) ≤ w.toInt64 ∧ w.toInt64 ≤ nL 5
      · rw [if_pos hw, if_pos hw, if_neg (show ¬ (1 : Int32) = 0 by decide)]
      · rw [if_neg hw, if_neg hw, if_pos rfl, z179n]
    rcases z_sm (w := w) 5 (by decide) with ⟨k, hk, rfl⟩ | hw
    · have hin : (0 : Int64) ≤ (nI k).toInt64 ∧ (nI k).toInt64 ≤ nL 5 := (zi_in (by decide)).mpr ⟨nI_pos (by omega), nI_le hk (by decide)⟩
      have hr := hr 0
      rw [if_pos hin] at hr
      have o : ∀ a j, ¬ (a = 203 ∧ j = 0) → xe_I (xe_setI ν 203 0 0) a j = xe_I ν a j := fun a j q => xu_In q
      unfold zD179_14 at hr
      simp only [zq_m] at hr
      rw [xu_I, if_pos (by decide)] at hr
      rcases (show k = 0 ∨ k = 1 ∨ k = 2 ∨ k = 3 ∨ k = 4 ∨ k = 5 by omega) with rfl | rfl | rfl | rfl | rfl | rfl
      · rw [if_pos (by decide)] at hc
        rw [if_neg (by decide), if_pos (by decide), zx_nI ht24 (by decide), o 218 t (by omega), ← a1] at hr
        exact Or.inl ⟨_, _, _, hc, hr, xu_I, zJ_0 hJ⟩
      · rw [if_neg (by decide), if_pos (by decide)] at hc
        rw [if_neg (by decide), if_neg (by decide), if_pos (by decide), zx_nI ht24 (by decide), o 219 t (by omega), ← a2] at hr
        exact Or.inl ⟨_, _, _, hc, hr, xu_I, zJ_0 hJ⟩
      · rw [if_neg (by decide), if_neg (by decide), if_pos (by decide)] at hc
        rw [if_neg (by decide), if_neg (by decide), if_neg (by decide), if_pos (by decide), zx_nI ht24 (by decide), o 221 t (by omega), ← a3] at hr
        exact Or.inl ⟨_, _, _, hc, hr, xu_I, zJ_0 hJ⟩
      · rw [if_neg (by decide), if_neg (by decide), if_neg (by decide), if_pos (by decide)] at hc
        rw [if_neg (by decide), if_neg (by decide), if_neg (by decide), if_neg (by decide), if_pos (by decide), zx_nI ht24 (by decide), o 222 t (by omega), ← a4] at hr
        exact Or.inl ⟨_, _, _, hc, hr, xu_I, zJ_0 hJ⟩
      · rw [if_neg (by decide), if_neg (by decide), if_neg (by decide), if_neg (by decide), if_pos (by decide)] at hc
        rw [if_neg (by decide), if_neg (by decide), if_neg (by decide), if_neg (by decide), if_neg (by decide), zx_nI ht24 (by decide), o 223 t (by omega), ← a5] at hr
        exact Or.inl ⟨_, _, _, hc, hr, xu_I, zJ_0 hJ⟩
      · rw [if_neg (by decide), if_neg (by decide), if_neg (by decide), if_neg (by decide), if_neg (by decide), if_pos (by decide)] at hc
        rw [if_pos (by decide)] at hr
        have e := z179c (ν := xe_setI ν 203 0 0) (v2 := nI 5) (ab := ab) h1 ht24 ((o 203 12 (by omega)).trans r12) (fun p hp => (o 227 _ (by omega)).trans (d3 p hp)) P zfu 0 (by omega) (by omega)
        exact Or.inl ⟨_, _, _, hc, hr.trans e, xu_I, zJ_0 hJ⟩
    · have hr := hr 0
      rw [if_neg hw] at hr
      have hne : ∀ k, k ≤ 5 → ¬ w = nI k := fun k hk e => hw (by rw [e]; exact (zi_in (by decide)).mpr ⟨nI_pos (by omega), nI_le hk (by decide)⟩)
      rw [if_neg (show ¬ w = 0 from hne 0 (by omega)), if_neg (show ¬ w = 1 from hne 1 (by omega)), if_neg (show ¬ w = 2 from hne 2 (by omega)), if_neg (show ¬ w = 3 from hne 3 (by omega)), if_neg (show ¬ w = 4 from hne 4 (by omega)), if_neg (show ¬ w = 5 from hne 5 (by omega))] at hc
      exact Or.inr ⟨14, 1, 0, _, ⟨rfl, rfl⟩, hc, hr, xu_I, zJ_0 hJ⟩
  · refine Or.inr ⟨14, 1, 0, xe_setI ν 203 0 1, ⟨rfl, rfl⟩, ?_, ?_, xu_I, zJ_0 hJ⟩
    · unfold zD84
      rw [z85n hth c7 hx, zcR_no]
    · unfold zD179
      rw [z180n r22 h4 hx, zcI_ok, if_pos rfl, z179n]
theorem z_ccheck (hJ : zJJ μ ν) (hth : zThr μ) : zAns zok1 (zD89 x μ) (zD181 x ν) μ := by
  obtain ⟨P, S, M, T, Sw, Sl, F, K, Z, pr, hg, -, -⟩ := id hJ.2.2
  obtain ⟨⟨h1, h2, h3, h4⟩, ⟨⟨c4, c5, c6, c7⟩, ⟨r12, r15, r17, r22⟩⟩, h5, h6, h7⟩ := id hg
  have hR := hJ.2.1.1.1
  rcases z_sp (x := x) (n := M) (by omega) with ⟨m, hm, rfl⟩ | hx
  · obtain ⟨-, -, -, tot, -, ⟨-, -, b4⟩, -⟩ := h7 m hm
    refine Or.inl ⟨xe_I ν 215 m, μ, xe_setI ν 203 0 0, ?_, ?_, xu_I, zJ_0 hJ⟩
    · unfold zD89
      rw [z90y hR c6 hm h3, zcR_ok, zo_in (zS_mode m (by omega)) (by omega), b4]
    · unfold zD181
      rw [r17, z132, zcI_ok, if_pos ((z_inT (by omega)).mpr (z_rg hm (by omega))), if_neg (show ¬ (1 : Int32) = 0 by decide)]
      unfold zD181_14 zD181_24
      simp only [zq_m]
      rw [xu_I, if_pos (by decide), zx_nI (show m < 4 by omega) (by decide), xu_In (by omega)]
  · refine Or.inr ⟨14, 1, 0, xe_setI ν 203 0 1, ⟨rfl, rfl⟩, ?_, ?_, xu_I, zJ_0 hJ⟩
    · unfold zD89
      rw [z90n hth c6 hx, zcR_no]
    · unfold zD181
      rw [r17, z132, zcI_ok, if_neg (fun w => hx ((z_inT (by omega)).mp w)), if_pos rfl]
      unfold zD181_14 zD181_24
      simp only [zq_m]
      rw [xu_I, if_neg (by decide)]
theorem z_cslack (hJ : zJJ μ ν) (hth : zThr μ) : zAns zok1 (zD92 x μ) (zD182 x ν) μ := by
  obtain ⟨P, S, M, T, Sw, Sl, F, K, Z, pr, hg, -, -⟩ := id hJ.2.2
  obtain ⟨⟨h1, h2, h3, h4⟩, ⟨⟨c4, c5, c6, c7⟩, ⟨r12, r15, r17, r22⟩⟩, h5, h6, h7⟩ := id hg
  have hR := hJ.2.1.1.1
  rcases z_sp (x := x) (n := T) (by omega) with ⟨t, ht, rfl⟩ | hx
  · obtain ⟨⟨-, -, -, -, -, a6⟩, -⟩ := h6 t ht
    refine Or.inl ⟨xe_I ν 225 t, μ, xe_setI ν 203 0 0, ?_, ?_, xu_I, zJ_0 hJ⟩
    · unfold zD92
      rw [z85y hR c7 ht h4, zcR_ok, zo_in (zS_task t (by omega)) (by omega), a6]
    · unfold zD182
      rw [z180y r22 ht h4, zcI_ok, if_neg (show ¬ (1 : Int32) = 0 by decide)]
      unfold zD182_8 zD182_18
      simp only [zq_m]
      rw [xu_I, if_pos (by decide), zx_nI (show t < 24 by omega) (by decide), xu_In (by omega)]
  · refine Or.inr ⟨14, 1, 0, xe_setI ν 203 0 1, ⟨rfl, rfl⟩, ?_, ?_, xu_I, zJ_0 hJ⟩
    · unfold zD92
      rw [z85n hth c7 hx, zcR_no]
    · unfold zD182
      rw [z180n r22 h4 hx, zcI_ok, if_pos rfl]
      unfold zD182_8 zD182_18
      simp only [zq_m]
      rw [xu_I, if_neg (by decide)]
/-- slotOf in the reference -/
theorem z176s {Sl m i : Nat} {G y : Nat} (h43 : xe_I ν 203 43 = nI Sl) (hSl : Sl ≤ 480) (hy : y < Sl) (h : ¬ xe_I ν 236 y = nI m ∨ ¬ xe_I ν 238 y = nI i) : zD176_2 (G + 1) (nI m) (nI i) (nI y) ν = zD176_2 G (nI m) (nI i) (nI (y + 1)) ν := by
  show zD176_2_b (zD176_2 G) _ _ (nI y) ν = _
  unfold zD176_2_b zD176_23
  rw [h43, if_neg (nI_ge hy (by omega)), zx_nI (show y < 480 by omega) (by decide), nI_1]
  by_cases h1 : xe_I ν 236 y = nI m
  · rw [if_pos h1, zx_nI (show y < 480 by omega) (by decide), if_neg (h.resolve_left (fun w => w h1))]
  · rw [if_neg h1]
theorem z_cslot (hJ : zJJ μ ν) (hth : zThr μ) : zAns zok1 (zD94 x w μ) (zD183 x w ν) μ := by
  have hz : zfu = 1000000000 := rfl
  obtain ⟨P, S, M, T, Sw, Sl, F, K, Z, pr, hg, -, -⟩ := id hJ.2.2
  obtain ⟨⟨h1, h2, h3, h4⟩, ⟨⟨c4, c5, c6, c7⟩, ⟨r12, r15, r17, r22⟩⟩, h5, h6, h7⟩ := id hg
  have hR := hJ.2.1.1.1
  have hno : ∀ v1 v2 : Int32, zD183_25 v1 v2 ν = zint 0 (xe_setI ν 203 0 1) := fun v1 v2 => by
    unfold zD183_25 zD183_26 zD183_36
    simp only [zq_m]
    rw [xu_I, if_neg (by decide)]
  rcases z_sp (x := x) (n := M) (by omega) with ⟨m, hm, rfl⟩ | hx
  · have hm4 : m < 4 := by omega
    obtain ⟨⟨a1, a2, a3⟩, a4, a5, tot, b1, ⟨b2, b3, b4⟩, b5⟩ := h7 m hm
    have hc0 : zD94 (nI m) w μ = if w < 0 then some (.inr (xe_sh μ).length, xe_add μ (.inl 14) 6) else if w < nI tot then zq_x w 1440 fun j8 => zint (xe_I μ (23 + 11 * m) j8) μ else some (.inr (xe_sh μ).length, xe_add μ (.inl 14) 6) := by
      unfold zD94 zD94_10
      rw [z90y hR c6 hm h3, zcR_ok, zo_in (zS_mode m hm4) (by omega), b2, hR _ _ _ (zR_m8 m hm4).2.2, zs_some, za_in (zS_m8 m hm4).2.2 (by omega), hth 14]
    have hr0 : zD183 (nI m) w ν = if (¬ w < 0 ∧ w < nI tot) then zD183_26 (nI m) w 0 ν else zint 0 (xe_setI ν 203 0 1) := by
      unfold zD183
      rw [r17, z132, zcI_ok, if_pos ((z_inT (by omega)).mpr (z_rg hm (by omega))), if_neg (show ¬ (1 : Int32) = 0 by decide), zx_nI hm4 (by decide), b3, z132, zcI_ok]
      by_cases hw : ¬ w < 0 ∧ w < nI tot
      · rw [if_pos ((z_inT (by omega)).mpr hw), if_neg (show ¬ (1 : Int32) = 0 by decide), if_pos hw]
      · rw [if_neg (fun q => hw ((z_inT (by omega)).mp q)), if_pos rfl, if_neg hw, hno]
    rcases z_sp (x := w) (n := tot) (by omega) with ⟨i, hi, rfl⟩ | hw
    · have hi' := z_rg (t := i) (n := tot) hi (by omega)
      rw [if_neg hi'.1, if_pos hi'.2, zx_nI (show i < 1440 by omega) (by decide)] at hc0
      rw [if_pos hi'] at hr0
      unfold zD183_26 zD183_36 at hr0
      simp only [zq_m] at hr0
      rw [xu_I, if_pos (by decide)] at hr0
      have o : ∀ a j, ¬ (a = 203 ∧ j = 0) → xe_I (xe_setI ν 203 0 0) a j = xe_I ν a j := fun a j q => xu_In q
      have h176 : zD176 (nI m) (nI i) (xe_setI ν 203 0 0) = zint (xe_I μ (23 + 11 * m) i) (xe_setI ν 203 0 0) := by
        unfold zD176
        have h43 := (o 203 43 (by omega)).trans a3
        rcases b5 i hi with ⟨y, y1, y2, y3, y4, y5⟩ | ⟨y1, y2⟩
        · have e1 : zD176_2 ((zfu - y) + y) (nI m) (nI i) (nI 0) (xe_setI ν 203 0 0) = zD176_2 (zfu - y) (nI m) (nI i) (nI (0 + y)) (xe_setI ν 203 0 0) := z_skip (D := fun G j => zD176_2 G (nI m) (nI i) (nI j) (xe_setI ν 203 0 0)) y 0 _ (fun G j w1 w2 => z176s h43 a1 (by omega) (by
            rw [o 236 j (by omega), o 238 j (by omega)]
            by_cases hj : Z m ≤ j ∧ j < Z (m + 1)
            · exact Or.inr (fun q => by have := y5 j hj.1 hj.2 q; omega)
            · exact Or.inl (a4 j (by omega) hj)))
          rw [Nat.zero_add] at e1
          have e2 : zD176_2 (zfu - y - 1 + 1) (nI m) (nI i) (nI y) (xe_setI ν 203 0 0) = zint (xe_I ν 237 y) (xe_setI ν 203 0 0) := by
            show zD176_2_b (zD176_2 _) _ _ (nI y) _ = _
            unfold zD176_2_b
            rw [h43, if_neg (nI_ge (by omega) (by omega)), zx_nI (show y < 480 by omega) (by decide), o 236 y (by omega), if_pos (a5 y y1 y2), zx_nI (show y < 480 by omega) (by decide), o 238 y (by omega), if_pos y3, zx_nI (show y < 480 by omega) (by decide), o 237 y (by omega)]
          have e9 : zD176_2 zfu (nI m) (nI i) (nI 0) (xe_setI ν 203 0 0) = zD176_2 ((zfu - y) + y) (nI m) (nI i) (nI 0) (xe_setI ν 203 0 0) := congrArg (fun q => zD176_2 q (nI m) (nI i) (nI 0) (xe_setI ν 203 0 0)) (by omega)
          have e8 : zD176_2 (zfu - y) (nI m) (nI i) (nI y) (xe_setI ν 203 0 0) = zD176_2 (zfu - y - 1 + 1) (nI m) (nI i) (nI y) (xe_setI ν 203 0 0) := congrArg (fun q => zD176_2 q (nI m) (nI i) (nI y) (xe_setI ν 203 0 0)) (by omega)
          rw [y4]
          exact e9.trans (e1.trans (e8.trans e2))
        · have e1 : zD176_2 ((zfu - Sl - 1 + 1) + Sl) (nI m) (nI i) (nI 0) (xe_setI ν 203 0 0) = zD176_2 (zfu - Sl - 1 + 1) (nI m) (nI i) (nI (0 + Sl)) (xe_setI ν 203 0 0) := z_skip (D := fun G j => zD176_2 G (nI m) (nI i) (nI j) (xe_setI ν 203 0 0)) Sl 0 _ (fun G j w1 w2 => z176s h43 a1 (by omega) (by
            rw [o 236 j (by omega), o 238 j (by omega)]
            by_cases hj : Z m ≤ j ∧ j < Z (m + 1)
            · exact Or.inr (y1 j hj.1 hj.2)
            · exact Or.inl (a4 j (by omega) hj)))
          rw [Nat.zero_add] at e1
          have e2 : zD176_2 (zfu - Sl - 1 + 1) (nI m) (nI i) (nI Sl) (xe_setI ν 203 0 0) = zint (-1) (xe_setI ν 203 0 0) := by
            show zD176_2_b (zD176_2 _) _ _ (nI Sl) _ = _
            unfold zD176_2_b
            rw [h43, if_pos (nI_le (Nat.le_refl _) (by omega))]
          have e9 : zD176_2 zfu (nI m) (nI i) (nI 0) (xe_setI ν 203 0 0) = zD176_2 ((zfu - Sl - 1 + 1) + Sl) (nI m) (nI i) (nI 0) (xe_setI ν 203 0 0) := congrArg (fun q => zD176_2 q (nI m) (nI i) (nI 0) (xe_setI ν 203 0 0)) (by omega)
          rw [y2]
          exact e9.trans (e1.trans e2)
      rw [h176, zcI_ok] at hr0
      exact Or.inl ⟨_, _, _, hc0, hr0, xu_I, zJ_0 hJ⟩
    · rw [if_neg hw] at hr0
      refine Or.inr ⟨14, 1, 0, _, ⟨rfl, rfl⟩, ?_, hr0, xu_I, zJ_0 hJ⟩
      rw [hc0]
      by_cases h0 : w < 0
      · rw [if_pos h0]
      · rw [if_neg h0, if_neg (fun q => hw ⟨h0, q⟩)]
  · refine Or.inr ⟨14, 1, 0, xe_setI ν 203 0 1, ⟨rfl, rfl⟩, ?_, ?_, xu_I, zJ_0 hJ⟩
    · unfold zD94
      rw [z90n hth c6 hx, zcR_no]
    · unfold zD183
      rw [r17, z132, zcI_ok, if_neg (fun q => hx ((z_inT (by omega)).mp q)), if_pos rfl, hno]
/-- count -/
theorem z_ccount (hJ : zJJ μ ν) : ∃ v μ' ν', zD81 x μ = zint v μ' ∧ zD178 x ν = zint v ν' ∧ ((∃ g, xe_sh μ' = xv_S ++ g) → zJJ μ' ν') := by
  have hz : zfu = 1000000000 := rfl
  obtain ⟨P, S, M, T, Sw, Sl, F, K, Z, pr, hg, -, -⟩ := id hJ.2.2
  obtain ⟨⟨h1, h2, h3, h4⟩, ⟨⟨c4, c5, c6, c7⟩, ⟨r12, r15, r17, r22⟩⟩, h5, h6, h7⟩ := id hg
  have hR := hJ.2.1.1.1
  have o : ∀ a j, ¬ (a = 203 ∧ j = 0) → xe_I (xe_setI ν 203 0 0) a j = xe_I ν a j := fun a j q => xu_In q
  have hl : ∀ (r g G m : Nat) (v : Int32), m + r = M → r < g → r < G → ∃ v', zD82_4 g v (nI m) μ = zint v' μ ∧ zD178_7 G x v (nI m) (xe_setI ν 203 0 0) = zint (if x = 0 then nI P else if x = 1 then nI S else if x = 2 then nI M else if x = 3 then nI T else if x = 4 then v' else -1) (xe_setI ν 203 0 0) := by
    intro r
    induction r with
    | zero =>
      intro g G m v hm hg hG
      obtain ⟨g, rfl⟩ : ∃ k, g = k + 1 := ⟨g - 1, by omega⟩
      obtain ⟨G, rfl⟩ : ∃ k, G = k + 1 := ⟨G - 1, by omega⟩
      have : m = M := by omega
      subst this
      refine ⟨v, ?_, ?_⟩
      · show zD82_4_b (zD82_4 g) _ (nI m) μ = _
        unfold zD82_4_b
        rw [c6, if_pos (nI_le (Nat.le_refl _) (by omega))]
      · show zD178_7_b (zD178_7 G) _ _ (nI m) _ = _
        unfold zD178_7_b zD178_49
        rw [o 203 17 (by omega), r17, if_pos (nI_le (Nat.le_refl _) (by omega)), o 203 12 (by omega), r12, o 203 15 (by omega), r15, o 203 22 (by omega), r22]
        by_cases e0 : x = 0
        · rw [if_pos e0, if_pos e0]
        rw [if_neg e0, if_neg e0]
        by_cases e1 : x = 1
        · rw [if_pos e1, if_pos e1]
        rw [if_neg e1, if_neg e1]
        by_cases e2 : x = 2
        · rw [if_pos e2, if_pos e2]
        rw [if_neg e2, if_neg e2]
        by_cases e3 : x = 3
        · rw [if_pos e3, if_pos e3]
        rw [if_neg e3, if_neg e3]
        by_cases e4 : x = 4
        · rw [if_pos e4, if_pos e4]
        rw [if_neg e4, if_neg e4]
    | succ r ih =>
      intro g G m v hm hg hG
      obtain ⟨g, rfl⟩ : ∃ k, g = k + 1 := ⟨g - 1, by omega⟩
      obtain ⟨G, rfl⟩ : ∃ k, G = k + 1 := ⟨G - 1, by omega⟩
      have hm4 : m < 4 := by omega
      obtain ⟨-, -, -, tot, -, ⟨b2, b3, -⟩, -⟩ := h7 m (by omega)
      obtain ⟨v', e1, e2⟩ := ih g G (m + 1) (v + nI tot) (by omega) (by omega) (by omega)
      refine ⟨v', ?_, ?_⟩
      · show zD82_4_b (zD82_4 g) _ (nI m) μ = _
        unfold zD82_4_b
        rw [c6, if_neg (nI_ge (by omega) (by omega)), zx_nI hm4 (by decide), hR _ _ _ (zR_15 m hm4), zs_some, zo_in (zS_mode m hm4) (by omega), b2, nI_1]
        exact e1
      · show zD178_7_b (zD178_7 G) _ _ (nI m) _ = _
        unfold zD178_7_b
        rw [o 203 17 (by omega), r17, if_neg (nI_ge (by omega) (by omega)), zx_nI hm4 (by decide), o 216 m (by omega), b3, nI_1]
        exact e2
  obtain ⟨v', e1, e2⟩ := hl M zfu zfu 0 0 (by omega) (by omega) (by omega)
  refine ⟨_, μ, xe_setI ν 203 0 0, ?_, e2, fun _ => zJ_0 hJ⟩
  unfold zD81 zD82
  rw [show zD82_4 zfu 0 0 μ = _ from e1, zcI_ok, c4, c5, c6, c7]
  by_cases e0 : x = 0
  · rw [if_pos e0, if_pos e0]
  rw [if_neg e0, if_neg e0]
  by_cases e1 : x = 1
  · rw [if_pos e1, if_pos e1]
  rw [if_neg e1, if_neg e1]
  by_cases e2 : x = 2
  · rw [if_pos e2, if_pos e2]
  rw [if_neg e2, if_neg e2]
  by_cases e3 : x = 3
  · rw [if_pos e3, if_pos e3]
  rw [if_neg e3, if_neg e3]
  by_cases e4 : x = 4
  · rw [if_pos e4, if_pos e4]
  rw [if_neg e4, if_neg e4]
end
