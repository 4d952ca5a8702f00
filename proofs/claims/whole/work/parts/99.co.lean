/-! running: the slot of a tick -/
def zcse (μ : xe_Mem) (t p0 : Nat) (sb : Nat) : xe_Mem := xe_setI (xe_setI μ (63 + 5 * t) 4 (nI (sb ||| 2 ^ p0))) 194 7 (xe_I μ 194 7 + 1)
def zXse (t a j : Nat) : Prop := (a = 63 + 5 * t ∧ j = 4) ∨ (a = 194 ∧ j = 7)
section
variable {P S M T Sw Sl m f n per k0 nk s s' t k p0 kk msg : Nat} {d : Nat → Nat → Nat} {ns fm : Nat → Nat} {μ ν μ' ν' : xe_Mem}
theorem z71s {G i : Nat} (h43 : xe_I ν 203 43 = nI Sl) (hi : i < Sl) (hSl : Sl ≤ 480) (hn : ¬ xe_I ν 236 i = xe_I ν 203 71 ∨ ¬ xe_I ν 237 i = xe_I ν 203 72 ∨ xe_I ν 238 i < 0) : zD187_71 (G + 1) (nI i) ν = zD187_71 G (nI (i + 1)) ν := by
  show zD187_71_b (zD187_71 G) (nI i) ν = _
  unfold zD187_71_b zD187_100
  rw [h43, if_neg (nI_ge hi (by omega)), zx_nI (show i < 480 by omega) (by decide), nI_1]
  by_cases h1 : xe_I ν 236 i = xe_I ν 203 71
  · rw [if_pos h1, zx_nI (show i < 480 by omega) (by decide)]
    by_cases h2 : xe_I ν 237 i = xe_I ν 203 72
    · have h3 : xe_I ν 238 i < 0 := by
        rcases hn with w | w | w
        · exact absurd h1 w
        · exact absurd h2 w
        · exact w
      rw [if_pos h2, zx_nI (show i < 480 by omega) (by decide), if_pos h3]
    · rw [if_neg h2]
  · rw [if_neg h1]
theorem z71y {G i : Nat} (h43 : xe_I ν 203 43 = nI Sl) (hi : i < Sl) (hSl : Sl ≤ 480) (h1 : xe_I ν 236 i = xe_I ν 203 71) (h2 : xe_I ν 237 i = xe_I ν 203 72) (h3 : xe_I ν 238 i = nI msg) (h4 : msg < 10000) : zD187_71 (G + 1) (nI i) ν = zq_cV (zD193 (nI msg) ν) fun m => zD187_71 G (nI (i + 1)) m := by
  show zD187_71_b (zD187_71 G) (nI i) ν = _
  unfold zD187_71_b zD187_100
  rw [h43, if_neg (nI_ge hi (by omega)), zx_nI (show i < 480 by omega) (by decide), nI_1, if_pos h1, zx_nI (show i < 480 by omega) (by decide), if_pos h2, zx_nI (show i < 480 by omega) (by decide), h3, if_neg (nI_pos (by omega)), zx_nI (show i < 480 by omega) (by decide), h3]
theorem z71e {G : Nat} (h43 : xe_I ν 203 43 = nI Sl) (hSl : Sl ≤ 480) : zD187_71 (G + 1) (nI Sl) ν = zD187_104 zfu 0 ν := by
  show zD187_71_b (zD187_71 G) (nI Sl) ν = _
  unfold zD187_71_b
  rw [h43, if_pos (nI_le (Nat.le_refl _) (by omega))]
/-- sendMessage with nothing to send -/
theorem z118n (hR : zRt μ) (hm : m < 4) (e3 : xe_I μ 194 3 = nI k) (hk : k < 120) (h : xe_R μ (21 + 11 * m) k = none) : zD118 (17 + 11 * m) μ = some (.inl none, μ) := by
  unfold zD118
  rw [zo_in (zS_mode m hm) (by omega), hR _ _ _ (zR_m8 m hm).1, zs_some, za_in (zS_m8 m hm).1 (by omega), e3, zx_nI hk (by decide), h]
  rfl
theorem z118y {l sb : Nat} (hR : zRt μ) (hm : m < 4) (e3 : xe_I μ 194 3 = nI k) (hk : k < 120) (ht : t < 24) (h : xe_R μ (21 + 11 * m) k = some (61 + 5 * t)) (hl : xe_I μ (63 + 5 * t) 0 = nI l) (hl2 : l ≤ 200) (hsb : xe_I μ (63 + 5 * t) 4 = nI sb) (hp : p0 < 12) (hpt : xe_I μ (22 + 11 * m) k = nI p0) : zD118 (17 + 11 * m) μ = some (.inl none, if l = 0 then zcse μ t p0 sb else μ) := by
  unfold zD118 zD118_31
  rw [zo_in (zS_mode m hm) (by omega), hR _ _ _ (zR_m8 m hm).1, zs_some, za_in (zS_m8 m hm).1 (by omega), e3, zx_nI hk (by decide), h]
  show (zq_o (61 + 5 * t) 8 <| zq_s (xe_R μ (61 + 5 * t) 14) fun b12 => zq_o b12 6 <| if (xe_I μ b12 0) = 0 then _ else _) = _
  rw [zo_in (zS_task t ht) (by omega), hR _ _ _ (zR_62 t ht).2, zs_some, zo_in (zS_62 t ht).2 (by omega), hl]
  by_cases e : l = 0
  · subst e
    rw [if_pos (by decide), if_pos rfl, zs_some, zo_in (zS_62 t ht).2 (by omega), hR _ _ _ (zR_m8 m hm).2.1, zs_some, za_in (zS_m8 m hm).2.1 (by omega), zx_nI hk (by decide), hsb, hpt, zsh1 p0 hp, zn_or]
    simp only [zq_m]
    unfold zcse
    rw [xu_In (b := 194) (by omega)]
  · rw [if_neg (nI_ne0 (by omega) (by omega)), if_neg e]
theorem zb_or {sb p q : Nat} : Nat.testBit (sb ||| 2 ^ p) q = (Nat.testBit sb q || decide (p = q)) := by
  rw [Nat.testBit_or, Nat.testBit_two_pow]
theorem zRg_s (h : zRg P T m k μ ν) (hT : T ≤ 24) (ht : t < 24) (hp : p0 < 12) {sb : Nat} : zRg P T m k (zcse μ t p0 sb) (zrse ν t p0) := by
  obtain ⟨⟨⟨s1, s2⟩, hsh0⟩, ⟨e1, e2, e3, e4⟩, ⟨f1, f2, f3, f4, f5⟩, hs1, hs2, hto⟩ := h
  have c : ∀ a j, ¬ (a = 63 + 5 * t ∧ j = 4) → ¬ (a = 194 ∧ j = 7) → xe_I (zcse μ t p0 sb) a j = xe_I μ a j := fun a j w1 w2 => by
    unfold zcse
    rw [xu_In w2, xu_In w1]
  have r : ∀ a j, a ≠ 263 → ¬ (a = 203 ∧ j = 76) → xe_I (zrse ν t p0) a j = xe_I ν a j := fun a j w1 w2 => zrse_o (by omega) w2
  refine ⟨⟨⟨fun p hp => ?_, fun n hn p hp => ?_⟩, hsh0⟩, ⟨?_, ?_, ?_, ?_⟩, ⟨?_, ?_, ?_, ?_, ?_⟩, fun j hj => ?_, fun j hj => ?_, fun t' ht' => ?_⟩
  · rw [c 195 p (by omega) (by omega), r 255 p (by omega) (by omega)]; exact s1 p hp
  · rw [c (197 + n) p (by omega) (by omega), r 256 _ (by omega) (by omega)]; exact s2 n hn p hp
  · rw [c 194 _ (by omega) (by omega)]; exact e1
  · rw [r 203 _ (by omega) (by omega)]; exact e2
  · rw [c 194 _ (by omega) (by omega)]; exact e3
  · rw [r 203 _ (by omega) (by omega)]; exact e4
  · rw [c 194 _ (by omega) (by omega), r 203 _ (by omega) (by omega)]; exact f1
  · rw [c 194 _ (by omega) (by omega), r 203 _ (by omega) (by omega)]; exact f2
  · rw [c 194 _ (by omega) (by omega), r 203 _ (by omega) (by omega)]; exact f3
  · unfold zcse zrse
    rw [xu_I, xu_I, f4]
  · rw [c 194 _ (by omega) (by omega), r 203 _ (by omega) (by omega)]; exact f5
  · rw [c 201 j (by omega) (by omega), r 257 j (by omega) (by omega)]; exact hs1 j hj
  · rw [c 202 j (by omega) (by omega), r 258 j (by omega) (by omega)]; exact hs2 j hj
  · unfold zTo
    rw [c (63 + 5 * t') 2 (by omega) (by omega), r 260 t' (by omega) (by omega)]; exact hto t' ht'
theorem z_sendm (hV : zVw P S M T Sw Sl m f n per k0 nk s s' d ns fm μ ν) (hG : zRg P T m k μ ν) (hk : k < per) (hr : ∀ t, f ≤ t → t < f + n → zRx P (zEn d k t) t μ ν) (hsp : ∀ i, i < T → ¬ xe_I ν 221 i = 0) : ∃ μ' ν', zD118 (17 + 11 * m) μ = some (.inl none, μ') ∧ zD187_71 zfu 0 ν = zD187_104 zfu 0 ν' ∧ zVw P S M T Sw Sl m f n per k0 nk s s' d ns fm μ' ν' ∧ zRg P T m k μ' ν' ∧ (∀ t, f ≤ t → t < f + n → zRx P (zEn d k t) t μ' ν') ∧ zfG zXst zZu zZu μ μ' ∧ zfG zYst zZu zZu ν ν' := by
  have hz : zfu = 1000000000 := rfl
  obtain ⟨hst, -, -, ⟨⟨l1, l2, l3, l4⟩, l5, l6, l7, hF, l9, l10, l11⟩, ⟨hP, hS, -, h74, h12, -⟩⟩ := id hV
  obtain ⟨hR, ⟨b1, b2, b3, b4, b5, b6⟩, -, htt, ⟨r1, r2, r3⟩⟩ := id hst
  obtain ⟨-, ⟨e1, e2, e3, e4⟩, -⟩ := id hG
  have hall : ∀ (G : Nat), (∀ x, x < Sl → ¬ xe_I ν 236 x = xe_I ν 203 71 ∨ ¬ xe_I ν 237 x = xe_I ν 203 72 ∨ xe_I ν 238 x < 0) → zD187_71 zfu (nI 0) ν = zD187_104 zfu 0 ν := fun G w => by
    have a1 : zD187_71 ((zfu - Sl - 1 + 1) + Sl) (nI 0) ν = zD187_71 (zfu - Sl - 1 + 1) (nI (0 + Sl)) ν := z_skip (D := fun G i => zD187_71 G (nI i) ν) Sl 0 _ (fun G j w1 w2 => z71s l4 (by omega) l1 (w j (by omega)))
    rw [Nat.zero_add, z71e l4 l1] at a1
    have e9 : zD187_71 zfu (nI 0) ν = zD187_71 ((zfu - Sl - 1 + 1) + Sl) (nI 0) ν := congrArg (fun q => zD187_71 q (nI 0) ν) (by omega)
    exact e9.trans a1
  have hout : ∀ x, x < Sl → ¬ (s ≤ x ∧ x < s') → ¬ xe_I ν 236 x = xe_I ν 203 71 := fun x w1 w2 => by rw [e2]; exact l5 x w1 w2
  by_cases hex : ∃ x, s ≤ x ∧ x < s' ∧ xe_I ν 237 x = nI k
  · obtain ⟨x, x1, x2, x3⟩ := hex
    have huniq : ∀ y, s ≤ y → y < s' → xe_I ν 237 y = nI k → y = x := fun y y1 y2 y3 => by
      rcases Nat.lt_trichotomy y x with w | w | w
      · exact absurd (l7 y x k k y1 w x2 (by omega) (by omega) y3 x3) (by omega)
      · exact w
      · exact absurd (l7 x y k k x1 w y2 (by omega) (by omega) x3 y3) (by omega)
    have hothers : ∀ y, y < Sl → y ≠ x → ¬ xe_I ν 236 y = xe_I ν 203 71 ∨ ¬ xe_I ν 237 y = xe_I ν 203 72 ∨ xe_I ν 238 y < 0 := fun y y1 y2 => by
      by_cases w : s ≤ y ∧ y < s'
      · exact Or.inr (Or.inl (by rw [e4]; exact fun w2 => y2 (huniq y w.1 w.2 w2)))
      · exact Or.inl (hout y y1 w)
    rcases l10 x x1 x2 k hk x3 with ⟨w1, w2⟩ | ⟨t, kk, p0, t1, t2, t3, t4, t5, t6, t7, t8, t9⟩
    · refine ⟨μ, ν, z118n hR b1 e3 (by omega) w2, hall 0 (fun y y1 => ?_), hV, hG, hr, zfG_r, zfG_r⟩
      by_cases w : y = x
      · rw [w, w1]
        exact Or.inr (Or.inr (by decide))
      · exact hothers y y1 w
    · obtain ⟨l, sb, ⟨hq1, hq2, hq3, hq4⟩, ⟨hq5, hq6⟩, hq7⟩ := hr t t1 t2
      have ht24 : t < 24 := by omega
      obtain ⟨o1, o2, o3, o4, o5⟩ := hF.2 t t1 t2
      have dv2 := zdvk o3 hk o5
      have mu2 : (k / d 0 t + 1) * ns t ≤ per / d 0 t * ns t := Nat.mul_le_mul_right _ dv2
      rw [Nat.add_mul, Nat.one_mul] at mu2
      have hc := z118y (p0 := p0) hR b1 e3 (by omega) ht24 t5 hq1 hq3 hq5 (by omega) t9
      have hs := z193 (P := P) (p0 := p0) hst hF hP h12 hk e2 e4 t1 t2 t3 rfl hsp t6 t7 t8 hq2 hq3
      have a1 : zD187_71 ((zfu - x) + x) (nI 0) ν = zD187_71 (zfu - x) (nI (0 + x)) ν := z_skip (D := fun G i => zD187_71 G (nI i) ν) x 0 _ (fun G j w1 w2 => z71s l4 (by omega) l1 (hothers j (by omega) (by omega)))
      rw [Nat.zero_add] at a1
      have a2 : zD187_71 (zfu - x - 1 + 1) (nI x) ν = _ := z71y l4 (by omega) l1 ((l6 x x1 x2).1.trans e2.symm) (x3.trans e4.symm) t4 (by omega)
      rw [hs, zcV_ok] at a2
      have e9 : zD187_71 zfu (nI 0) ν = zD187_71 ((zfu - x) + x) (nI 0) ν := congrArg (fun q => zD187_71 q (nI 0) ν) (by omega)
      have e8 : zD187_71 (zfu - x) (nI x) ν = zD187_71 (zfu - x - 1 + 1) (nI x) ν := congrArg (fun q => zD187_71 q (nI x) ν) (by omega)
      have hrest : ∀ ν2 : xe_Mem, (∀ a j, a = 236 ∨ a = 237 ∨ a = 238 → xe_I ν2 a j = xe_I ν a j) → (∀ j, j = 43 ∨ j = 71 ∨ j = 72 → xe_I ν2 203 j = xe_I ν 203 j) → zD187_71 (zfu - x - 1) (nI (x + 1)) ν2 = zD187_104 zfu 0 ν2 := fun ν2 w1 w2 => by
        have a3 : zD187_71 ((zfu - x - 1 - (Sl - (x + 1)) - 1 + 1) + (Sl - (x + 1))) (nI (x + 1)) ν2 = zD187_71 (zfu - x - 1 - (Sl - (x + 1)) - 1 + 1) (nI (x + 1 + (Sl - (x + 1)))) ν2 := z_skip (D := fun G i => zD187_71 G (nI i) ν2) (Sl - (x + 1)) (x + 1) _ (fun G j w3 w4 => z71s ((w2 43 (by omega)).trans l4) (by omega) l1 (by
          rw [w1 236 j (by omega), w1 237 j (by omega), w1 238 j (by omega), w2 71 (by omega), w2 72 (by omega)]
          exact hothers j (by omega) (by omega)))
        rw [show x + 1 + (Sl - (x + 1)) = Sl by omega, z71e ((w2 43 (by omega)).trans l4) l1, show (zfu - x - 1 - (Sl - (x + 1)) - 1 + 1) + (Sl - (x + 1)) = zfu - x - 1 by omega] at a3
        exact a3
      by_cases hl0 : l = 0
      · rw [if_pos hl0] at hc a2
        have g1 : zfG (zXse t) zZu zZu μ (zcse μ t p0 sb) := by
          unfold zcse
          exact zfG_t (zfG_I (by unfold zXse; omega)) (zfG_I (by unfold zXse; omega))
        have g2 : zfG (zYse t) zZu zZu ν (zrse ν t p0) := zrse_f (by omega)
        have G1 : zfG zXst zZu zZu μ (zcse μ t p0 sb) := zfG_w g1 (fun a j w => by unfold zXse at w; unfold zXst; omega) (fun _ _ w => w) (fun _ _ w => w)
        have G2 : zfG zYst zZu zZu ν (zrse ν t p0) := zfG_w g2 (fun a j w => by unfold zYse at w; unfold zYst; omega) (fun _ _ w => w) (fun _ _ w => w)
        have a3 := hrest (zrse ν t p0) (fun a j w => zrse_o (by omega) (by omega)) (fun j w => zrse_o (by omega) (by omega))
        refine ⟨_, _, hc, e9.trans (a1.trans (e8.trans (a2.trans a3))), zVw_s hV G1 G2, zRg_s hG b4 ht24 (by omega), fun t' w1 w2 => ?_, G1, G2⟩
        by_cases et : t' = t
        · subst et
          refine ⟨l, sb ||| 2 ^ p0, ⟨?_, ?_, hq3, ?_⟩, ⟨?_, ?_⟩, fun p hp => ⟨?_, ?_, ?_⟩⟩
          · unfold zcse
            rw [xu_In (by omega), xu_In (by omega)]
            exact hq1
          · rw [zrse_o (by omega) (by omega)]
            exact hq2
          · unfold zcse
            rw [xu_In (by omega), xu_In (by omega)]
            exact hq4
          · unfold zcse
            rw [xu_In (by omega), xu_I]
          · exact Nat.or_lt_two_pow (n := 12) hq6 (Nat.pow_lt_pow_right (by decide) (by omega))
          · rw [zb_or]
            by_cases w : p0 = p
            · subst w
              unfold zrse
              rw [xu_In (by omega), xu_I, decide_eq_true rfl, Bool.or_true]
              rfl
            · rw [zrse_o (by omega) (by omega), decide_eq_false w, Bool.or_false]
              exact (hq7 p hp).1
          · unfold zcse
            rw [zrse_o (by omega) (by omega), xu_In (by omega), xu_In (by omega)]
            exact (hq7 p hp).2.1
          · unfold zcse
            rw [zrse_o (by omega) (by omega), xu_In (by omega), xu_In (by omega)]
            exact (hq7 p hp).2.2
        · exact zRx_k (hr t' w1 w2) (by omega) hP g1 g2 (fun a j w4 w5 w6 w7 => by unfold zXse at w7; omega) (fun a j w4 w5 => by unfold zYse at w5; omega)
      · rw [if_neg hl0] at hc a2
        exact ⟨_, _, hc, e9.trans (a1.trans (e8.trans (a2.trans (hrest ν (fun _ _ _ => rfl) (fun _ _ => rfl))))), hV, hG, hr, zfG_r, zfG_r⟩
  · have hnone := l11 k hk (fun x w1 w2 w3 => hex ⟨x, w1, w2, w3⟩)
    refine ⟨μ, ν, z118n hR b1 e3 (by omega) hnone, hall 0 (fun y y1 => ?_), hV, hG, hr, zfG_r, zfG_r⟩
    by_cases w : s ≤ y ∧ y < s'
    · exact Or.inr (Or.inl (by rw [e4]; exact fun w2 => hex ⟨y, w.1, w.2, w2⟩))
    · exact Or.inl (hout y y1 w)
end
