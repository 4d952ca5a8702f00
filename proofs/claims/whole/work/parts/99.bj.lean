/-! checking a mode: slots, the class -/
theorem zR_m8 : ∀ m, m < 4 → (xv_rt.getD (17 + 11 * m) []).lookup 8 = some (21 + 11 * m) ∧ (xv_rt.getD (17 + 11 * m) []).lookup 9 = some (22 + 11 * m) ∧ (xv_rt.getD (17 + 11 * m) []).lookup 11 = some (23 + 11 * m) := by decide +kernel
theorem zS_m8 : ∀ m, m < 4 → xv_S[21 + 11 * m]? = some (.inr (4, 120)) ∧ xv_S[22 + 11 * m]? = some (.inr (0, 120)) ∧ xv_S[23 + 11 * m]? = some (.inr (0, 1440)) := by decide +kernel
section
variable {m f n per T k : Nat} {d : Nat → Nat → Nat} {ns fm c l en : Nat → Nat} {μ ν : xe_Mem}
/-- loseSlots -/
theorem z72 (hR : zRt μ) (hm : m < 4) : ∃ μ', zD72 (17 + 11 * m) μ = some (.inl none, μ') ∧ zfG (fun a j => a = 23 + 11 * m ∧ j < 1440) zZu (zZ7 m) μ μ' ∧ (∀ i, i < 1440 → xe_I μ' (23 + 11 * m) i = -1) ∧ (∀ j, j < 120 → xe_R μ' (21 + 11 * m) j = none) := by
  obtain ⟨q8, q9, q11⟩ := zR_m8 m hm
  obtain ⟨s1, s2, s3⟩ := zS_m8 m hm
  have h73 : ∀ (r g i : Nat) (μ1 : xe_Mem), i + r = 1440 → r < g → zfG (fun a j => a = 23 + 11 * m ∧ j < 1440) zZu (zZ7 m) μ μ1 → (∀ j, j < i → xe_I μ1 (23 + 11 * m) j = -1) → ∃ μ', zD73_5 g (23 + 11 * m) (-1) (nI i) (nI 1440) μ1 = some (.inl none, μ') ∧ zfG (fun a j => a = 23 + 11 * m ∧ j < 1440) zZu (zZ7 m) μ μ' ∧ ∀ j, j < 1440 → xe_I μ' (23 + 11 * m) j = -1 := by
    intro r
    induction r with
    | zero =>
      intro g i μ1 hi hg G h1
      obtain ⟨g, rfl⟩ : ∃ k, g = k + 1 := ⟨g - 1, by omega⟩
      refine ⟨μ1, ?_, G, fun j hj => h1 j (by omega)⟩
      show zD73_5_b (zD73_5 g) (23 + 11 * m) (-1) (nI i) (nI 1440) μ1 = _
      unfold zD73_5_b
      rw [if_pos (nI_le (by omega) (by omega))]
    | succ r ih =>
      intro g i μ1 hi hg G h1
      obtain ⟨g, rfl⟩ : ∃ k, g = k + 1 := ⟨g - 1, by omega⟩
      have hstep : zD73_5 (g + 1) (23 + 11 * m) (-1) (nI i) (nI 1440) μ1 = zD73_5 g (23 + 11 * m) (-1) (nI (i + 1)) (nI 1440) (xe_setI μ1 (23 + 11 * m) i (-1)) := by
        show zD73_5_b (zD73_5 g) (23 + 11 * m) (-1) (nI i) (nI 1440) μ1 = _
        unfold zD73_5_b
        rw [if_neg (nI_ge (by omega) (by omega)), za_in s3 (by omega), zx_nI (show i < 1440 by omega) (by decide), nI_1]
        rfl
      rw [hstep]
      refine ih g (i + 1) _ (by omega) (by omega) (zfG_t G (zfG_I ⟨rfl, by omega⟩)) (fun j hj => ?_)
      by_cases e : j = i
      · rw [e]
        exact xu_I
      · rw [xu_In (by omega)]
        exact h1 j (by omega)
  obtain ⟨μ2, a1, a2, a3⟩ := h73 1440 zfu 0 μ (by omega) (zfu_lt (by omega)) zfG_r (fun j hj => absurd hj (by omega))
  have hRr : ∀ μ1, zfG (fun a j => a = 23 + 11 * m ∧ j < 1440) zZu (zZ7 m) μ μ1 → xe_R μ1 (17 + 11 * m) 8 = some (21 + 11 * m) := fun μ1 G => ((G _ (by omega) 8).2.2 (fun w => by unfold zZ7 at w; omega)).trans (hR _ _ _ q8)
  have h6 : ∀ (r g i : Nat) (μ1 : xe_Mem), i + r = 120 → r < g → zfG (fun a j => a = 23 + 11 * m ∧ j < 1440) zZu (zZ7 m) μ μ1 → (∀ j, j < i → xe_R μ1 (21 + 11 * m) j = none) → (∀ j, j < 1440 → xe_I μ1 (23 + 11 * m) j = -1) → ∃ μ', zD72_6 g (17 + 11 * m) (nI i) μ1 = some (.inl none, μ') ∧ zfG (fun a j => a = 23 + 11 * m ∧ j < 1440) zZu (zZ7 m) μ μ' ∧ (∀ i, i < 1440 → xe_I μ' (23 + 11 * m) i = -1) ∧ (∀ j, j < 120 → xe_R μ' (21 + 11 * m) j = none) := by
    intro r
    induction r with
    | zero =>
      intro g i μ1 hi hg G h1 h2
      obtain ⟨g, rfl⟩ : ∃ k, g = k + 1 := ⟨g - 1, by omega⟩
      refine ⟨μ1, ?_, G, h2, fun j hj => h1 j (by omega)⟩
      show zD72_6_b (zD72_6 g) (17 + 11 * m) (nI i) μ1 = _
      unfold zD72_6_b
      rw [zo_in (zS_mode m hm) (by omega), hRr μ1 G, zs_some, za_in s1 (by omega), if_pos (show Int32.ofNat 120 ≤ nI i from nI_le (a := 120) (by omega) (by omega))]
    | succ r ih =>
      intro g i μ1 hi hg G h1 h2
      obtain ⟨g, rfl⟩ : ∃ k, g = k + 1 := ⟨g - 1, by omega⟩
      have hstep : zD72_6 (g + 1) (17 + 11 * m) (nI i) μ1 = zD72_6 g (17 + 11 * m) (nI (i + 1)) (xe_setR μ1 (21 + 11 * m) i none) := by
        show zD72_6_b (zD72_6 g) (17 + 11 * m) (nI i) μ1 = _
        unfold zD72_6_b zq_w
        rw [zo_in (zS_mode m hm) (by omega), hRr μ1 G, zs_some, za_in s1 (by omega), if_neg (show ¬ Int32.ofNat 120 ≤ nI i from nI_ge (b := 120) (by omega) (by decide)), zs_some, za_in s1 (by omega), zx_nI (show i < 120 by omega) (by decide), if_pos (zR_21 m hm i (by omega)), nI_1]
        rfl
      rw [hstep]
      refine ih g (i + 1) _ (by omega) (by omega) (zfG_t G (zfG_R ⟨rfl, by omega⟩)) (fun j hj => ?_) h2
      by_cases e : j = i
      · rw [e, zu_R, if_pos ⟨rfl, rfl⟩]
      · rw [zu_R, if_neg (by omega)]
        exact h1 j (by omega)
  obtain ⟨μ', b1, b2, b3, b4⟩ := h6 120 zfu 0 μ2 (by omega) (zfu_lt (by omega)) a2 (fun j hj => absurd hj (by omega)) a3
  refine ⟨μ', ?_, b2, b3, b4⟩
  unfold zD72
  rw [zo_in (zS_mode m hm) (by omega), hR _ _ _ q11, zs_some]
  unfold zD73
  rw [za_in s3 (by omega)]
  simp only [zq_vI]
  rw [show zD73_5 zfu (23 + 11 * m) (-1) 0 (Int32.ofNat 1440) μ = _ from a1, zcV_ok]
  exact b1
/-- the class's memory when a slot is given to t, its c-th -/
def zc76 (μ : xe_Mem) (m k t c ix : Nat) : xe_Mem := xe_setI (xe_setI (xe_setI (xe_setR μ (21 + 11 * m) k (some (61 + 5 * t))) (22 + 11 * m) k (xe_I μ (62 + 5 * t) c)) (23 + 11 * m) ix (nI k)) (63 + 5 * t) 3 (nI (c + 1))
/-- giveSlot -/
theorem z76 (hs : zSt m f n per T d ns fm μ ν) (hk : k < per) (hl : ∀ t, f ≤ t → t < f + n → l t ≤ 200 ∧ en t < 1000 ∧ ns t ≤ 12 ∧ c t ≤ 12 ∧ fm t + (k / d 0 t + 1) * ns t ≤ 1440 ∧ xe_I μ (63 + 5 * t) 0 = nI (l t) ∧ xe_I μ (63 + 5 * t) 1 = nI (en t) ∧ xe_I μ (63 + 5 * t) 3 = nI (c t)) : zD76 (17 + 11 * m) (nI k) μ = some (.inl none, match zpk (fun t => decide (l t = 0) && decide (c t < ns t)) en f n with
    | none => μ
    | some t => zc76 μ m k t (c t) (fm t + k / d 0 t * ns t + c t)) := by
  obtain ⟨hR, ⟨b1, b2, b3, b4, b5, b6⟩, ⟨c1, c2, c3⟩, hst, -⟩ := id hs
  obtain ⟨q8, q9, q11⟩ := zR_m8 m b1
  obtain ⟨s1, s2, s3⟩ := zS_m8 m b1
  have hlp : ∀ r g i : Nat, i + r = n → r < g → zD76_4 g (17 + 11 * m) (nI k) (zoa (zpk (fun t => decide (l t = 0) && decide (c t < ns t)) en f i)) (nI i) μ = some (.inl none, match zpk (fun t => decide (l t = 0) && decide (c t < ns t)) en f n with
    | none => μ
    | some t => zc76 μ m k t (c t) (fm t + k / d 0 t * ns t + c t)) := by
    intro r
    induction r with
    | zero =>
      intro g i hi hg
      obtain ⟨g, rfl⟩ : ∃ k, g = k + 1 := ⟨g - 1, by omega⟩
      have : i = n := by omega
      subst this
      show zD76_4_b (zD76_4 g) (17 + 11 * m) (nI k) _ (nI i) μ = _
      unfold zD76_4_b zD76_88
      rw [zo_in (zS_mode m b1) (by omega), c1, if_pos (nI_le (by omega) (by omega))]
      cases hz : zpk (fun t => decide (l t = 0) && decide (c t < ns t)) en f i with
      | none => rfl
      | some t =>
        obtain ⟨h1, h2, h3⟩ := zpk_in i t hz
        rw [Bool.and_eq_true] at h3
        have hct : c t < ns t := of_decide_eq_true h3.2
        obtain ⟨l1, l2, l3, l4, l5, l6, l7, l8⟩ := hl t h1 h2
        obtain ⟨⟨p1, p2, p3, p4, p5⟩, ⟨u0, u1, u2, u3, u4, u5⟩, -⟩ := hst t h1 h2
        have ht24 : t < 24 := by omega
        have r14 : xe_R μ (61 + 5 * t) 14 = some (63 + 5 * t) := hR _ _ _ (zR_62 t ht24).2
        have r10 : xe_R μ (61 + 5 * t) 10 = some (62 + 5 * t) := hR _ _ _ (zR_62 t ht24).1
        rw [Nat.add_mul, Nat.one_mul] at l5
        have hidx : fm t + k / d 0 t * ns t + c t < 1440 := by omega
        show (zq_o (61 + 5 * t) 8 <| zq_s (xe_R μ (61 + 5 * t) 14) fun b4 => zq_o b4 6 <| zq_vI (xe_I μ b4 3) fun x6 => zq_s (xe_R μ (17 + 11 * m) 8) fun b7 => zq_a b7 4 fun N9 => zq_x (nI k) N9 fun j10 => zq_w b7 j10 <| zq_m (xe_setR μ b7 j10 (some (61 + 5 * t))) fun m14 => zq_s (xe_R m14 (17 + 11 * m) 9) fun b17 => zq_s (xe_R m14 (61 + 5 * t) 10) fun b18 => zq_a b18 0 fun N20 => zq_x x6 N20 fun j21 => zq_a b17 0 fun N26 => zq_x (nI k) N26 fun j27 => zq_m (xe_setI m14 b17 j27 (xe_I m14 b18 j21)) fun m31 => zq_s (xe_R m31 (17 + 11 * m) 11) fun b33 => zq_d (xe_I m31 (61 + 5 * t) 3) <| zq_a b33 0 fun N36 => zq_x (((xe_I m31 (61 + 5 * t) 12) + ((nI k / (xe_I m31 (61 + 5 * t) 3)) * (xe_I m31 (61 + 5 * t) 11))) + x6) N36 fun j37 => zq_m (xe_setI m31 b33 j37 (nI k)) fun m41 => zq_s (xe_R m41 (61 + 5 * t) 14) fun b43 => zq_o b43 6 <| zq_m (xe_setI m41 b43 3 ((xe_I m41 b43 3) + 1)) fun m45 => some (.inl none, m45)) = _
        rw [zo_in (zS_task t ht24) (by omega), r14, zs_some, zo_in (zS_62 t ht24).2 (by omega), l8]
        simp only [zq_vI]
        rw [hR _ _ _ q8, zs_some, za_in s1 (by omega), zx_nI (show k < 120 by omega) (by decide)]
        unfold zq_w
        rw [if_pos (zR_21 m b1 k (by omega))]
        simp only [zq_m]
        have R1 : ∀ b i, ¬ (b = 21 + 11 * m ∧ i = k) → xe_R (xe_setR μ (21 + 11 * m) k (some (61 + 5 * t))) b i = xe_R μ b i := fun b i w => by rw [zu_R, if_neg w]
        rw [show xe_R (xe_setR μ (21 + 11 * m) k (some (61 + 5 * t))) (17 + 11 * m) 9 = some (22 + 11 * m) from (R1 _ _ (by omega)).trans (hR _ _ _ q9), zs_some, show xe_R (xe_setR μ (21 + 11 * m) k (some (61 + 5 * t))) (61 + 5 * t) 10 = some (62 + 5 * t) from (R1 _ _ (by omega)).trans r10, zs_some, za_in (zS_62 t ht24).1 (by omega), zx_nI (show c t < 12 by omega) (by decide), za_in s2 (by omega), zx_nI (show k < 120 by omega) (by decide)]
        have kk : ∀ a j, a ≠ 22 + 11 * m → xe_I (xe_setI (xe_setR μ (21 + 11 * m) k (some (61 + 5 * t))) (22 + 11 * m) k (xe_I (xe_setR μ (21 + 11 * m) k (some (61 + 5 * t))) (62 + 5 * t) (c t))) a j = xe_I μ a j := fun a j w => by
          rw [xu_In (by omega)]
        rw [show xe_R (xe_setI (xe_setR μ (21 + 11 * m) k (some (61 + 5 * t))) (22 + 11 * m) k (xe_I (xe_setR μ (21 + 11 * m) k (some (61 + 5 * t))) (62 + 5 * t) (c t))) (17 + 11 * m) 11 = some (23 + 11 * m) from (R1 _ _ (by omega)).trans (hR _ _ _ q11), zs_some, kk (61 + 5 * t) 3 (by omega), u2, zd_ok (nI_ne0 p1 (by omega)), za_in s3 (by omega), kk (61 + 5 * t) 12 (by omega), u5, kk (61 + 5 * t) 11 (by omega), u4, zn_div (by omega) (by omega), zn_mul, nI_add, nI_add, zx_nI hidx (by decide)]
        rw [show xe_R (xe_setI (xe_setI (xe_setR μ (21 + 11 * m) k (some (61 + 5 * t))) (22 + 11 * m) k (xe_I (xe_setR μ (21 + 11 * m) k (some (61 + 5 * t))) (62 + 5 * t) (c t))) (23 + 11 * m) (fm t + k / d 0 t * ns t + c t) (nI k)) (61 + 5 * t) 14 = some (63 + 5 * t) from (R1 _ _ (by omega)).trans r14, zs_some, zo_in (zS_62 t ht24).2 (by omega), show xe_I (xe_setI (xe_setI (xe_setR μ (21 + 11 * m) k (some (61 + 5 * t))) (22 + 11 * m) k (xe_I (xe_setR μ (21 + 11 * m) k (some (61 + 5 * t))) (62 + 5 * t) (c t))) (23 + 11 * m) (fm t + k / d 0 t * ns t + c t) (nI k)) (63 + 5 * t) 3 = nI (c t) from (xu_In (by omega)).trans ((kk _ _ (by omega)).trans l8), nI_1]
        rfl
    | succ r ih =>
      intro g i hi hg
      obtain ⟨g, rfl⟩ : ∃ k, g = k + 1 := ⟨g - 1, by omega⟩
      have e := ih g (i + 1) (by omega) (by omega)
      rw [zpk_s] at e
      have ht24 : f + i < 24 := by omega
      obtain ⟨l1, l2, l3, l4, l5, l6, l7, l8⟩ := hl (f + i) (by omega) (by omega)
      obtain ⟨-, ⟨u0, u1, u2, u3, u4, u5⟩, -⟩ := hst (f + i) (by omega) (by omega)
      have r14 : xe_R μ (61 + 5 * (f + i)) 14 = some (63 + 5 * (f + i)) := hR _ _ _ (zR_62 (f + i) ht24).2
      have r2 : xe_R μ (17 + 11 * m) 2 = some (18 + 11 * m) := hR _ _ _ (zR_m m b1).1
      show zD76_4_b (zD76_4 g) (17 + 11 * m) (nI k) _ (nI i) μ = _
      unfold zD76_4_b zD76_27 zD76_28 zD76_39 zD76_44
      rw [zo_in (zS_mode m b1) (by omega), c1, if_neg (nI_ge (by omega) (by omega)), r2, zs_some, za_in (zS_18 m b1).1 (by omega), zx_nI (show i < 6 by omega) (by decide), c3 i (by omega), zs_some, zo_in (zS_task (f + i) ht24) (by omega), r14, zs_some, zo_in (zS_62 (f + i) ht24).2 (by omega), l6, nI_1]
      by_cases h1 : l (f + i) = 0
      · rw [if_pos (show nI (l (f + i)) = 0 by rw [h1]; rfl), zs_some, za_in (zS_18 m b1).1 (by omega), zx_nI (show i < 6 by omega) (by decide), c3 i (by omega), zs_some, zo_in (zS_task (f + i) ht24) (by omega), u4, l8]
        by_cases h2 : c (f + i) < ns (f + i)
        · have hok : (decide (l (f + i) = 0) && decide (c (f + i) < ns (f + i))) = true := by rw [decide_eq_true h1, decide_eq_true h2]; rfl
          rw [if_neg (nI_ge h2 (by omega)), if_neg (show ¬ (1 : Int32) = 0 by decide)]
          rw [if_pos hok] at e
          cases hz : zpk (fun t => decide (l t = 0) && decide (c t < ns t)) en f i with
          | none =>
            rw [hz] at e
            show (zq_o (17 + 11 * m) 2 <| zq_s (some (18 + 11 * m)) fun b69 => zq_a b69 4 fun N71 => zq_x (nI i) N71 fun j72 => zq_s (xe_R μ b69 j72) fun b76 => zD76_4 g (17 + 11 * m) (nI k) (some b76) (nI (i + 1)) μ) = _
            rw [zo_in (zS_mode m b1) (by omega), zs_some, za_in (zS_18 m b1).1 (by omega), zx_nI (show i < 6 by omega) (by decide), c3 i (by omega), zs_some]
            exact e
          | some b =>
            rw [hz] at e
            obtain ⟨e1, e2, -⟩ := zpk_in i b hz
            obtain ⟨-, o2, -, -, -, -, o7, -⟩ := hl b e1 (by omega)
            have hb24 : b < 24 := by omega
            show (zq_o (63 + 5 * (f + i)) 6 <| zq_o (61 + 5 * b) 8 <| zq_s (xe_R μ (61 + 5 * b) 14) fun b79 => zq_o b79 6 <| if (xe_I μ b79 1) ≤ (xe_I μ (63 + 5 * (f + i)) 1) then zD76_4 g (17 + 11 * m) (nI k) (some (61 + 5 * b)) (nI (i + 1)) μ else (zq_o (17 + 11 * m) 2 <| zq_s (some (18 + 11 * m)) fun b69 => zq_a b69 4 fun N71 => zq_x (nI i) N71 fun j72 => zq_s (xe_R μ b69 j72) fun b76 => zD76_4 g (17 + 11 * m) (nI k) (some b76) (nI (i + 1)) μ)) = _
            rw [zo_in (zS_62 (f + i) ht24).2 (by omega), zo_in (zS_task b hb24) (by omega), hR _ _ _ (zR_62 b hb24).2, zs_some, zo_in (zS_62 b hb24).2 (by omega), o7, l7]
            by_cases h3 : en (f + i) < en b
            · rw [if_neg (nI_ge h3 (by omega)), zo_in (zS_mode m b1) (by omega), zs_some, za_in (zS_18 m b1).1 (by omega), zx_nI (show i < 6 by omega) (by decide), c3 i (by omega), zs_some]
              have e9 : zD76_4 g (17 + 11 * m) (nI k) (zoa (if en (f + i) < en b then some (f + i) else some b)) (nI (i + 1)) μ = _ := e
              rw [if_pos h3] at e9
              exact e9
            · rw [if_pos (nI_le (by omega) (by omega))]
              have e9 : zD76_4 g (17 + 11 * m) (nI k) (zoa (if en (f + i) < en b then some (f + i) else some b)) (nI (i + 1)) μ = _ := e
              rw [if_neg h3] at e9
              exact e9
        · have hok : ¬ (decide (l (f + i) = 0) && decide (c (f + i) < ns (f + i))) = true := by rw [decide_eq_false h2, Bool.and_false]; decide
          rw [if_pos (nI_le (by omega) (by omega)), if_pos rfl]
          rw [if_neg hok] at e
          exact e
      · have hok : ¬ (decide (l (f + i) = 0) && decide (c (f + i) < ns (f + i))) = true := by rw [decide_eq_false h1, Bool.false_and]; decide
        rw [if_neg (show ¬ nI (l (f + i)) = 0 from nI_ne0 (by omega) (by omega)), if_pos rfl]
        rw [if_neg hok] at e
        exact e
  exact hlp n zfu 0 (by omega) (zfu_lt (by omega))
end
