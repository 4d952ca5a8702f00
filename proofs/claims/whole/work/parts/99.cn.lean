/-! running: a message is sent -/
theorem z_in32 {x y : Int32} : ((0 : Int64) ≤ x.toInt64 ∧ x.toInt64 ≤ y.toInt64) ↔ (0 ≤ x.toInt ∧ x.toInt ≤ y.toInt) := by
  rw [Int64.le_iff_toInt_le, Int64.le_iff_toInt_le, Int32.toInt_toInt64, Int32.toInt_toInt64]
  exact Iff.rfl
theorem z_s2 {a b : Nat} (ha : a < 100000) (hb : b < 100000) : (nI a - nI b).toInt = (a : Int) - b := by
  rw [Int32.toInt_sub, nI_toInt (by omega), nI_toInt (by omega)]
  exact Int.bmod_eq_of_le (by omega) (by omega)
theorem z_s3 {a b c : Nat} (ha : a < 100000) (hb : b < 100000) (hc : c < 100000) : (nI a - nI b - nI c).toInt = (a : Int) - b - c := by
  rw [Int32.toInt_sub, z_s2 ha hb, nI_toInt (by omega)]
  exact Int.bmod_eq_of_le (by omega) (by omega)
theorem z_p1 {x : Int32} {y : Int} (h : x.toInt = y) (h1 : -100 ≤ y) (h2 : y ≤ 100) : (x + (-1)).toInt = y - 1 := by
  have e : (-1 : Int32).toInt = -1 := by decide
  rw [Int32.toInt_add, h, e]
  exact Int.bmod_eq_of_le (by omega) (by omega)
theorem z_t0 {x : Int32} : x = 0 ↔ x.toInt = 0 := by
  rw [← Int32.toInt_inj]
  exact Iff.rfl
theorem zdvk {k per b : Nat} (h1 : 1 ≤ b) (h : k < per) (hm : per % b = 0) : k / b + 1 ≤ per / b := by
  have a1 := zdiv_s (a := k) h1
  have a2 := Nat.div_add_mod per b
  rw [hm, Nat.add_zero, Nat.mul_comm] at a2
  have : k / b * b < per / b * b := by omega
  exact Nat.lt_of_mul_lt_mul_right this
/-- the port p0 of the task t is sent -/
def zrse (ν : xe_Mem) (t p0 : Nat) : xe_Mem := xe_setI (xe_setI ν 263 (12 * t + p0) 1) 203 76 (xe_I ν 203 76 + 1)
def zYse (t a j : Nat) : Prop := (a = 263 ∧ 12 * t ≤ j ∧ j < 12 * t + 12) ∨ (a = 203 ∧ j = 76)
section
variable {P S M T Sw Sl m f n per k0 nk s s' t k p0 kk msg : Nat} {d : Nat → Nat → Nat} {ns fm : Nat → Nat} {μ ν μ' ν' : xe_Mem} {c2 : Int32 → Int32 → xe_Mem → zO} {v1 : Int32}
theorem zrse_o {a j : Nat} (h1 : ¬ (a = 263 ∧ j = 12 * t + p0)) (h2 : ¬ (a = 203 ∧ j = 76)) : xe_I (zrse ν t p0) a j = xe_I ν a j := by
  unfold zrse
  rw [xu_In h2, xu_In h1]
theorem zrse_f (hp : p0 < 12) : zfG (zYse t) zZu zZu ν (zrse ν t p0) := by
  unfold zrse
  exact zfG_t (zfG_I (by unfold zYse; omega)) (zfG_I (by unfold zYse; omega))
theorem z193p (h22 : xe_I ν 203 22 = nI T) (hT : T ≤ 24) (h12 : xe_I ν 203 12 = nI P) (hP : P ≤ 12) (ht : t < 24) (hp0 : p0 < P) (hs0 : zSn ν T t p0 = true) (hk0 : zct (zSn ν T t) p0 = kk) : ∀ (r g p : Nat) (v3 : Int32), p + r = P → r < g → v3.toInt = (kk : Int) - zct (zSn ν T t) p → zD193_53 c2 g v1 (nI t) v3 (nI p) (if p0 < p then zrse ν t p0 else ν) = c2 v1 (nI (t + 1)) (zrse ν t p0) := by
  have hst : ∀ p, xe_I (if p0 < p then zrse ν t p0 else ν) 203 22 = nI T ∧ xe_I (if p0 < p then zrse ν t p0 else ν) 203 12 = nI P ∧ zSn (if p0 < p then zrse ν t p0 else ν) T t = zSn ν T t := fun p => by
    split
    · refine ⟨(zrse_o (by omega) (by omega)).trans h22, (zrse_o (by omega) (by omega)).trans h12, funext fun q => zSn_k (fun k => zrse_o (by omega) (by omega)) (fun k => zrse_o (by omega) (by omega)) (fun k => zrse_o (by omega) (by omega))⟩
    · exact ⟨h22, h12, rfl⟩
  intro r
  induction r with
  | zero =>
    intro g p v3 hp hg hv
    obtain ⟨g, rfl⟩ : ∃ k, g = k + 1 := ⟨g - 1, by omega⟩
    have : p = P := by omega
    subst this
    show zD193_53_b c2 (zD193_53 c2 g) _ _ _ (nI p) _ = _
    unfold zD193_53_b zD193_83
    rw [(hst p).2.1, if_pos (nI_le (Nat.le_refl _) (by omega)), if_pos hp0, nI_1]
  | succ r ih =>
    intro g p v3 hp hg hv
    obtain ⟨g, rfl⟩ : ∃ k, g = k + 1 := ⟨g - 1, by omega⟩
    obtain ⟨s1, s2, s3⟩ := hst p
    have hle := zct_le (g := zSn ν T t) p
    have hle0 := zct_le (g := zSn ν T t) p0
    show zD193_53_b c2 (zD193_53 c2 g) _ _ _ (nI p) _ = _
    unfold zD193_53_b zD193_80 zD193_81
    rw [s2, if_neg (nI_ge (by omega) (by omega)), z170 s1 hT ht (show p < 12 by omega), zcI_ok, s3, nI_1]
    have hb1 : vp_nar .boolean 1 = 1 := by decide
    cases hs : zSn ν T t p with
    | false =>
      have hne : p ≠ p0 := fun w => by rw [w, hs0] at hs; cases hs
      rw [if_pos (show zb01 false = 0 by decide)]
      have e := ih g (p + 1) v3 (by omega) (by omega) (by rw [zct_s.2.2 hs]; exact hv)
      by_cases w : p0 < p
      · rw [if_pos w]
        rw [if_pos (by omega)] at e
        exact e
      · rw [if_neg w]
        rw [if_neg (by omega)] at e
        exact e
    | true =>
      rw [if_neg (show ¬ zb01 true = 0 by decide)]
      have e := ih g (p + 1) (v3 + (-1)) (by omega) (by omega) (by rw [zct_s.2.1 hs, z_p1 hv (by omega) (by omega)]; omega)
      by_cases hz : v3 = 0
      · rw [if_pos hz, z12, zx_nI (show 12 * t + p < 288 by omega) (by decide)]
        simp only [zq_m]
        have hpp : p = p0 := by
          rw [z_t0] at hz
          rcases Nat.lt_trichotomy p p0 with w | w | w
          · have := zct_l (g := zSn ν T t) w hs
            omega
          · exact w
          · have := zct_l (g := zSn ν T t) w hs0
            omega
        subst hpp
        rw [if_pos (by omega)] at e
        rw [if_neg (by omega), hb1]
        unfold zrse at e ⊢
        rw [xu_In (b := 203) (by omega)]
        exact e
      · rw [if_neg hz]
        have hne : p ≠ p0 := fun w => hz (by rw [z_t0, hv, w, hk0]; omega)
        by_cases w : p0 < p
        · rw [if_pos w]
          rw [if_pos (by omega)] at e
          exact e
        · rw [if_neg w]
          rw [if_neg (by omega)] at e
          exact e
/-- a task that the message isn't of -/
theorem z193o {G i : Nat} (hst : zSt m f n per T d ns fm μ ν) (hF : zFi d f n per ns fm) (hk : k < per) (e2 : xe_I ν 203 71 = nI m) (e4 : xe_I ν 203 72 = nI k) (h1 : f ≤ t) (h2 : t < f + n) (hkk : kk < ns t) (hmsg : msg = fm t + k / d 0 t * ns t + kk) (hi : i < T) (hne : i ≠ t ∨ 0 < xe_I ν 259 t) (hsp : ¬ xe_I ν 221 i = 0) : zD193_2 (G + 1) (nI msg) (nI i) ν = zD193_2 G (nI msg) (nI (i + 1)) ν := by
  obtain ⟨hR, ⟨b1, b2, b3, b4, b5, b6⟩, -, htt, ⟨r1, r2, r3⟩⟩ := hst
  have hi24 : i < 24 := by omega
  show zD193_2_b (zD193_2 G) _ (nI i) ν = _
  unfold zD193_2_b zD193_83
  rw [r1, if_neg (nI_ge hi (by omega)), zx_nI hi24 (by decide), zx_nI hi24 (by decide), zd_ok hsp, zx_nI hi24 (by decide)]
  simp only [zq_vI]
  rw [zx_nI hi24 (by decide), e2, nI_1]
  by_cases hm : f ≤ i ∧ i < f + n
  · obtain ⟨⟨q1, q2, q3, -⟩, -, ⟨v1, v2, v3, v4, v5, v6, -⟩⟩ := htt i hm.1 hm.2
    rw [if_pos v1, zx_nI hi24 (by decide)]
    by_cases hl : 0 < xe_I ν 259 i
    · rw [if_pos hl]
    · rw [if_neg hl, zx_nI hi24 (by decide), z132, zcI_ok]
      have hit : i ≠ t := fun w => by
        rcases hne with w2 | w2
        · exact w2 w
        · rw [w] at hl
          exact hl w2
      obtain ⟨-, -, ⟨-, -, -, -, -, -, -⟩⟩ := htt t h1 h2
      obtain ⟨p1, p2, p3, p4, p5⟩ := hF.2 i hm.1 hm.2
      obtain ⟨o1, o2, o3, o4, o5⟩ := hF.2 t h1 h2
      have dv1 := zdvk p3 hk p5
      have dv2 := zdvk o3 hk o5
      have mu1 : (k / d 0 i + 1) * ns i ≤ per / d 0 i * ns i := Nat.mul_le_mul_right _ dv1
      have mu2 : (k / d 0 t + 1) * ns t ≤ per / d 0 t * ns t := Nat.mul_le_mul_right _ dv2
      rw [Nat.add_mul, Nat.one_mul] at mu1 mu2
      have hord : (fm i + per / d 0 i * ns i ≤ fm t) ∨ (fm t + per / d 0 t * ns t ≤ fm i) := by
        rcases Nat.lt_or_gt_of_ne hit with w | w
        · exact Or.inl (hF.1 i t hm.1 w h2)
        · exact Or.inr (hF.1 t i h1 w hm.2)
      have hx : ¬ ((0 : Int64) ≤ (nI msg - xe_I ν 229 i - xe_I ν 203 72 / xe_I ν 221 i * xe_I ν 228 i).toInt64 ∧ (nI msg - xe_I ν 229 i - xe_I ν 203 72 / xe_I ν 221 i * xe_I ν 228 i).toInt64 ≤ (xe_I ν 228 i - 1).toInt64) := by
        rw [z_in32, v6, e4, v3, v5, zn_div (by omega) (by omega), zn_mul, z_s3 (by omega) (by omega) (by omega), show (nI (ns i) - 1 : Int32) = nI (ns i) - nI 1 from rfl, z_s2 (by omega) (by omega)]
        omega
      rw [if_neg hx, if_pos rfl]
  · rw [if_neg (r3 i hi hm)]
/-- send -/
theorem z193 (hst : zSt m f n per T d ns fm μ ν) (hF : zFi d f n per ns fm) (hP : P ≤ 12) (h12 : xe_I ν 203 12 = nI P) (hk : k < per) (e2 : xe_I ν 203 71 = nI m) (e4 : xe_I ν 203 72 = nI k) (h1 : f ≤ t) (h2 : t < f + n) (hkk : kk < ns t) (hmsg : msg = fm t + k / d 0 t * ns t + kk) (hsp : ∀ i, i < T → ¬ xe_I ν 221 i = 0) (hp0 : p0 < P) (hs0 : zSn ν T t p0 = true) (hk0 : zct (zSn ν T t) p0 = kk) {l : Nat} (hl : xe_I ν 259 t = nI l) (hl2 : l ≤ 200) : zD193 (nI msg) ν = some (.inl none, if l = 0 then zrse ν t p0 else ν) := by
  have hz : zfu = 1000000000 := rfl
  obtain ⟨hR, ⟨b1, b2, b3, b4, b5, b6⟩, -, htt, ⟨r1, r2, r3⟩⟩ := id hst
  have ht24 : t < 24 := by omega
  have hend : ∀ (G : Nat) (ν : xe_Mem), xe_I ν 203 22 = nI T → zD193_2 (G + 1) (nI msg) (nI T) ν = some (.inl none, ν) := fun G ν w => by
    show zD193_2_b (zD193_2 G) _ (nI T) ν = _
    unfold zD193_2_b
    rw [w, if_pos (nI_le (Nat.le_refl _) (by omega))]
  unfold zD193
  by_cases hl0 : l = 0
  · subst hl0
    rw [if_pos rfl]
    have a1 : zD193_2 ((zfu - t) + t) (nI msg) (nI 0) ν = zD193_2 (zfu - t) (nI msg) (nI (0 + t)) ν := z_skip (D := fun G i => zD193_2 G (nI msg) (nI i) ν) t 0 _ (fun G j w1 w2 => z193o hst hF hk e2 e4 h1 h2 hkk hmsg (by omega) (Or.inl (by omega)) (hsp j (by omega)))
    rw [Nat.zero_add] at a1
    have a2 : zD193_2 (zfu - t - 1 + 1) (nI msg) (nI t) ν = zD193_2 (zfu - t - 1) (nI msg) (nI (t + 1)) (zrse ν t p0) := by
      obtain ⟨⟨q1, q2, q3, -⟩, -, ⟨v1, v2, v3, v4, v5, v6, -⟩⟩ := htt t h1 h2
      obtain ⟨o1, o2, o3, o4, o5⟩ := hF.2 t h1 h2
      have dv2 := zdvk o3 hk o5
      have mu2 : (k / d 0 t + 1) * ns t ≤ per / d 0 t * ns t := Nat.mul_le_mul_right _ dv2
      rw [Nat.add_mul, Nat.one_mul] at mu2
      show zD193_2_b (zD193_2 (zfu - t - 1)) _ (nI t) ν = _
      unfold zD193_2_b zD193_83
      rw [r1, if_neg (nI_ge (by omega) (by omega)), zx_nI ht24 (by decide), zx_nI ht24 (by decide), zd_ok (hsp t (by omega)), zx_nI ht24 (by decide)]
      simp only [zq_vI]
      rw [zx_nI ht24 (by decide), e2, if_pos v1, zx_nI ht24 (by decide), hl, if_neg (by decide), zx_nI ht24 (by decide), z132, zcI_ok]
      have hX : nI msg - xe_I ν 229 t - xe_I ν 203 72 / xe_I ν 221 t * xe_I ν 228 t = nI kk := by
        rw [v6, e4, v3, v5, zn_div (by omega) (by omega), zn_mul, zn_sub (by omega), zn_sub (by omega)]
        congr 1
        omega
      have hx : (0 : Int64) ≤ (nI msg - xe_I ν 229 t - xe_I ν 203 72 / xe_I ν 221 t * xe_I ν 228 t).toInt64 ∧ (nI msg - xe_I ν 229 t - xe_I ν 203 72 / xe_I ν 221 t * xe_I ν 228 t).toInt64 ≤ (xe_I ν 228 t - 1).toInt64 := by
        rw [hX, z_in32, v5, nI_toInt (by omega), show (nI (ns t) - 1 : Int32) = nI (ns t) - nI 1 from rfl, z_s2 (by omega) (by omega)]
        omega
      rw [if_pos hx, if_neg (show ¬ (1 : Int32) = 0 by decide), hX]
      have e := z193p (c2 := zD193_2 (zfu - t - 1)) (v1 := nI msg) r1 b4 h12 hP ht24 hp0 hs0 hk0 P zfu 0 (nI kk) (by omega) (by omega) (by rw [nI_toInt (by omega)]; show (kk : Int) = (kk : Int) - ((0 : Nat) : Int); omega)
      rw [if_neg (by omega)] at e
      exact e
    have g2 : zfG zYst zZu zZu ν (zrse ν t p0) := zfG_w (zrse_f (t := t) (by omega)) (fun a j w => by unfold zYse at w; unfold zYst; omega) (fun _ _ w => w) (fun _ _ w => w)
    have hst' := zSt_u hst (zXst_g zfG_r) hR (zYst_g g2)
    have a3 : zD193_2 ((zfu - t - 1 - (T - (t + 1)) - 1 + 1) + (T - (t + 1))) (nI msg) (nI (t + 1)) (zrse ν t p0) = zD193_2 (zfu - t - 1 - (T - (t + 1)) - 1 + 1) (nI msg) (nI (t + 1 + (T - (t + 1)))) (zrse ν t p0) := z_skip (D := fun G i => zD193_2 G (nI msg) (nI i) (zrse ν t p0)) (T - (t + 1)) (t + 1) _ (fun G j w1 w2 => z193o hst' hF hk ((zrse_o (by omega) (by omega)).trans e2) ((zrse_o (by omega) (by omega)).trans e4) h1 h2 hkk hmsg (by omega) (Or.inl (by omega)) (by rw [zrse_o (by omega) (by omega)]; exact hsp j (by omega)))
    rw [show t + 1 + (T - (t + 1)) = T by omega, hend _ _ ((zrse_o (by omega) (by omega)).trans r1), show (zfu - t - 1 - (T - (t + 1)) - 1 + 1) + (T - (t + 1)) = zfu - t - 1 by omega] at a3
    have e9 : zD193_2 zfu (nI msg) (nI 0) ν = zD193_2 ((zfu - t) + t) (nI msg) (nI 0) ν := congrArg (fun q => zD193_2 q (nI msg) (nI 0) ν) (by omega)
    have e8 : zD193_2 (zfu - t) (nI msg) (nI t) ν = zD193_2 (zfu - t - 1 + 1) (nI msg) (nI t) ν := congrArg (fun q => zD193_2 q (nI msg) (nI t) ν) (by omega)
    exact e9.trans (a1.trans (e8.trans (a2.trans a3)))
  · rw [if_neg hl0]
    have a1 : zD193_2 ((zfu - T - 1 + 1) + T) (nI msg) (nI 0) ν = zD193_2 (zfu - T - 1 + 1) (nI msg) (nI (0 + T)) ν := z_skip (D := fun G i => zD193_2 G (nI msg) (nI i) ν) T 0 _ (fun G j w1 w2 => z193o hst hF hk e2 e4 h1 h2 hkk hmsg (by omega) (Or.inr (by rw [hl]; exact Int32.not_le.mp (nI_nle (by omega) (by omega)))) (hsp j (by omega)))
    rw [Nat.zero_add, hend _ _ r1] at a1
    have e9 : zD193_2 zfu (nI msg) (nI 0) ν = zD193_2 ((zfu - T - 1 + 1) + T) (nI msg) (nI 0) ν := congrArg (fun q => zD193_2 q (nI msg) (nI 0) ν) (by omega)
    exact e9.trans a1
end
