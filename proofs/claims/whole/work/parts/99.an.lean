/-! reading slots -/
def zXl (m a j : Nat) : Prop := (a = 181 ∧ j = 6) ∨ (a = 20 + 11 * m ∧ j < 120)
def zXk (Sl a j : Nat) : Prop := (a = 203 ∧ (j = 10 ∨ j = 43)) ∨ (236 ≤ a ∧ a ≤ 238 ∧ j = Sl)
section
variable {N P S m T per p p' f L U Sw Sl Sl' k0 s0 st mb M x least nn g F : Nat} {μ ν μ' ν' : xe_Mem} {A B : zO}
theorem zKc_l (hm : m < 4) (hT : T ≤ 24) (h : zfG (zXl m) zZu zZu μ μ') : zKc m T L μ μ' := by
  refine ⟨fun a j q => ?_, fun a j q => ?_, fun a j q => ?_⟩
  · unfold zPI at q
    refine (h a (by rcases q with ⟨i, h1, h2⟩ | ⟨i, h1, h2⟩ | h1 | h1 <;> omega) j).1 (fun w => ?_)
    unfold zXl at w
    rcases q with ⟨i, h1, h2⟩ | ⟨i, h1, h2⟩ | h1 | h1 <;> omega
  · unfold zPL at q
    exact (h a (by omega) j).2.1 (fun w => w.2 rfl)
  · obtain ⟨i, h1, h2⟩ := q
    exact (h a (by omega) j).2.2 (fun w => w.2 rfl)
theorem zKd_l (h : zfG (zXk Sl) zZu zZu ν ν') : zKd M T Sw Sl U ν ν' := by
  refine ⟨fun a j q => ?_, fun a j q => ?_⟩
  · unfold zQI at q
    refine (h a (by omega) j).1 (fun w => ?_)
    unfold zXk at w
    omega
  · unfold zQL at q
    exact (h a (by omega) j).2.1 (fun w => w.2 rfl)
theorem zIM_g (h : zIM N P S m f k0 s0 μ ν p T Sw Sl L st mb per) (hP' : zPo N μ' ν' p') (hp : p ≤ p') (G1 : zfG (zXl m) zZu zZu μ μ') (G2 : zfG (zXk Sl) zZu zZu ν ν') (h43 : xe_I ν' 203 43 = nI Sl') (hD' : zMd N P S L (L + T + Sw) μ' ν' m per f T k0 Sw s0 Sl') : zIM N P S m f k0 s0 μ' ν' p' T Sw Sl' L st mb per := by
  obtain ⟨hP, hK, hNn, hC, hM, ⟨m4, f6, k4, s120⟩, hO, hD⟩ := id h
  obtain ⟨hR, hNp, ⟨p1, p2, p3⟩, ct, cm, cv⟩ := id hK
  obtain ⟨⟨n1, n2, n3, n4⟩, ⟨n5, n6, n7, n8⟩⟩ := id hNn
  obtain ⟨c1, c2, c3, c4, c5, c6, c7, c8⟩ := id hC
  obtain ⟨d1, d2, d3, d4, d5⟩ := id hM
  obtain ⟨⟨b1, b2, b3, b4, b5, b6, b7, b8⟩, -⟩ := id hD
  have hT24 : T ≤ 24 := by omega
  have g : ∀ a j, a < 265 → ¬ zXl m a j → xe_I μ' a j = xe_I μ a j := fun a j q1 q2 => (G1 a q1 j).1 q2
  have gL : ∀ a j, a < 265 → xe_L μ' a j = xe_L μ a j := fun a j q1 => (G1 a q1 j).2.1 (fun w => w.2 rfl)
  have gr : ∀ a j, a < 265 → ¬ zXk Sl a j → xe_I ν' a j = xe_I ν a j := fun a j q1 q2 => (G2 a q1 j).1 q2
  have grL : ∀ a j, a < 265 → xe_L ν' a j = xe_L ν a j := fun a j q1 => (G2 a q1 j).2.1 (fun w => w.2 rfl)
  refine ⟨hP', ⟨zRt_G hR G1, ?_, ⟨(g 7 4 (by decide) (by unfold zXl; omega)).trans p1, (g 7 5 (by decide) (by unfold zXl; omega)).trans p2, (gr 203 70 (by decide) (by unfold zXk; omega)).trans p3⟩, fun t ht => (g _ 0 (by omega) (by unfold zXl; omega)).trans (ct t ht), fun i hi => (g _ 0 (by omega) (by unfold zXl; omega)).trans (cm i hi), fun j hj => ?_⟩, ⟨⟨(g 190 3 (by decide) (by unfold zXl; omega)).trans n1, (g 7 7 (by decide) (by unfold zXl; omega)).trans n2, (gr 203 22 (by decide) (by unfold zXk; omega)).trans n3, fun t ht => ?_⟩, ⟨(g 186 3 (by decide) (by unfold zXl; omega)).trans n5, (g 7 6 (by decide) (by unfold zXl; omega)).trans n6, (gr 203 17 (by decide) (by unfold zXk; omega)).trans n7, fun i hi => ?_⟩⟩, ⟨(g 8 2 (by decide) (by unfold zXl; omega)).trans c1, (g 181 7 (by decide) (by unfold zXl; omega)).trans c2, (gr 203 47 (by decide) (by unfold zXk; omega)).trans c3, (gr 203 52 (by decide) (by unfold zXk; omega)).trans c4, by omega, c6, (gr 203 37 (by decide) (by unfold zXk; omega)).trans c7, h43⟩, ⟨?_, (g _ 4 (by omega) (by unfold zXl; omega)).trans d2, d3, fun t ht => ?_, fun q hq => ?_⟩, ⟨m4, f6, k4, s120⟩, ?_, hD'⟩
  · exact zNp_k hNp (fun e _ => ⟨g 184 e (by decide) (by unfold zXl; omega), g 185 e (by decide) (by unfold zXl; omega), gL 183 e (by decide)⟩) ⟨funext fun e => grL 210 e (by decide), funext fun e => grL 212 e (by decide)⟩ ⟨gr 203 12 (by decide) (by unfold zXk; omega), gr 203 15 (by decide) (by unfold zXk; omega)⟩
  · rw [g 14 j (by decide) (by unfold zXl; omega), gr 211 j (by decide) (by unfold zXk; omega)]
    exact cv j hj
  · refine ⟨?_, zDij_k (n4 t ht).2 (fun k hk => gr 218 k (by decide) (by unfold zXk; omega)) (fun i hi => gr 227 i (by decide) (by unfold zXk; omega))⟩
    rw [gL 191 t (by decide), grL 217 t (by decide)]
    exact (n4 t ht).1
  · rw [gL 187 i (by decide), grL 213 i (by decide)]
    exact n8 i hi
  · exact ((G1 181 (by decide) 10).2.2 (fun w => w.2 rfl)).trans d1
  · rw [gr 218 t (by decide) (by unfold zXk; omega)]
    exact d4 t ht
  · rw [← d5 q hq]
    constructor
    · rintro ⟨t, w1, w2, w3⟩
      rw [gr 227 _ (by decide) (by unfold zXk; omega)] at w3
      exact ⟨t, w1, w2, w3⟩
    · rintro ⟨t, w1, w2, w3⟩
      exact ⟨t, w1, w2, by rw [gr 227 _ (by decide) (by unfold zXk; omega)]; exact w3⟩
  · exact zOm_k (M' := m) (T' := T) (Sw' := Sw) (Sl' := Sl) hO (Nat.le_refl _) (by omega) (by omega) (by omega) (zKc_l m4 hT24 G1) (zKd_l G2) (Nat.le_refl _) (Nat.le_refl _)
theorem zIM_mv (h : zIM N P S m f k0 s0 μ ν p T Sw Sl L st mb per) (hN : p + 1 < N) : zIM N P S m f k0 s0 (zmv μ p) (zrmv ν p) (p + 1) T Sw Sl L st mb per := by
  have m4 := h.2.2.2.2.2.1
  have hb := h.2.2.2.2.2.2.2.1
  refine zIM_g h (zPo_mv h.1 hN) (by omega) (zfG_I (by unfold zXl; omega)) (zfG_I (by unfold zXk; omega)) ((xu_In (by omega)).trans h.2.2.2.1.2.2.2.2.2.2.2) ?_
  refine zMd_k (M := m + 1) (T := T) (Sw := Sw) (Sl := Sl) (L := L) (U := L + T + Sw) h.2.2.2.2.2.2.2 (by omega) (Nat.le_refl _) (Nat.le_refl _) (Nat.le_refl _) (zKc_I ?_) (zKd_I ?_) (Nat.le_refl _) (Nat.le_refl _)
  · intro q
    rcases q with ⟨i, h1, h2⟩ | ⟨i, h1, h2⟩ | h1 | h1 <;> omega
  · intro q
    unfold zQI at q
    omega
/-- the slots that are read so far: all are below least -/
def zSi (ν : xe_Mem) (s0 Sl least per : Nat) : Prop := least ≤ per ∧ Sl ≤ s0 + least ∧ ∀ i, s0 ≤ i → i < Sl → ∀ k, k < 120 → xe_I ν 237 i = nI k → k < least
def zslc (μ : xe_Mem) (m p x : Nat) : xe_Mem := xe_setI (zmv μ p) (20 + 11 * m) x 1
def zslr (ν : xe_Mem) (m p x Sl : Nat) : xe_Mem := xe_setI (xe_setI (xe_setI (xe_setI (zrmv ν p) 236 Sl (nI m)) 237 Sl (nI x)) 238 Sl (-1)) 203 43 (nI (Sl + 1))
theorem zslr_o {c j : Nat} (h1 : c ≠ 203 ∨ (j ≠ 10 ∧ j ≠ 43)) (h2 : c < 236 ∨ 238 < c ∨ j ≠ Sl) : xe_I (zslr ν m p x Sl) c j = xe_I ν c j := by
  unfold zslr zrmv
  rw [xu_In (by omega), xu_In (by omega), xu_In (by omega), xu_In (by omega), xu_In (by omega)]
theorem zslr_v : xe_I (zslr ν m p x Sl) 236 Sl = nI m ∧ xe_I (zslr ν m p x Sl) 237 Sl = nI x ∧ xe_I (zslr ν m p x Sl) 238 Sl = -1 := by
  unfold zslr
  refine ⟨?_, ?_, ?_⟩
  · rw [xu_In (by omega), xu_In (by omega), xu_In (by omega)]
    exact xu_I
  · rw [xu_In (by omega), xu_In (by omega)]
    exact xu_I
  · rw [xu_In (by omega)]
    exact xu_I
theorem z_slot1 (h : zIM N P S m f k0 s0 μ ν p T Sw Sl L st mb per) (hi : zSi ν s0 Sl least per) (hN : p + 1 < N) (hx : least ≤ x) (hx2 : x + 1 ≤ per) : zIM N P S m f k0 s0 (zslc μ m p x) (zslr ν m p x Sl) (p + 1) T Sw (Sl + 1) L st mb per ∧ zSi (zslr ν m p x Sl) s0 (Sl + 1) (x + 1) per := by
  obtain ⟨m4, f6, k4, s120⟩ := h.2.2.2.2.2.1
  have hD := h.2.2.2.2.2.2.2
  obtain ⟨i1, i2, i3⟩ := hi
  obtain ⟨⟨b1, b2, b3, b4, b5, b6, b7, b8⟩, ⟨e1, e2, e3, e4, e5, e6⟩, hr18, hts, het, hsr⟩ := id hD
  have hT24 : T ≤ 24 := by omega
  have G1 : zfG (zXl m) zZu zZu μ (zslc μ m p x) := zfG_t (zfG_I (by unfold zXl; omega)) (zfG_I (by unfold zXl; omega))
  have G2 : zfG (zXk Sl) zZu zZu ν (zslr ν m p x Sl) := fun a ha j => ⟨fun q => zslr_o (by unfold zXk at q; omega) (by unfold zXk at q; omega), fun _ => rfl, fun _ => rfl⟩
  have hc := zKc_l (L := L) m4 hT24 G1
  have hd := zKd_l (M := m) (T := T) (Sw := Sw) (U := L + T + Sw) G2
  have k1 : ∀ a j, a < 265 → ¬ zXl m a j → xe_I (zslc μ m p x) a j = xe_I μ a j := fun a j q1 q2 => (G1 a q1 j).1 q2
  have hold : ∀ c i, i ≠ Sl → xe_I (zslr ν m p x Sl) c i = xe_I ν c i ∨ c = 203 := fun c i hi => by
    by_cases w : c = 203
    · exact Or.inr w
    · exact Or.inl (zslr_o (by omega) (by omega))
  have hsl : ∀ c i, 236 ≤ c → i ≠ Sl → xe_I (zslr ν m p x Sl) c i = xe_I ν c i := fun c i hc hi => zslr_o (by omega) (by omega)
  have hP1 : zPo N (zslc μ m p x) (zslr ν m p x Sl) (p + 1) := zPo_k (zPo_mv h.1 hN) (fun a ha => ⟨funext fun j => xu_In (by omega), rfl, rfl⟩) (fun a ha => ⟨funext fun j => by
    unfold zslr
    rw [xu_In (by omega), xu_In (by omega), xu_In (by omega), xu_In (by omega)], rfl⟩) (xu_In (by omega)) ⟨by
    unfold zslr
    rw [xu_In (by omega), xu_In (by omega), xu_In (by omega), xu_In (by omega)], by
    unfold zslr
    rw [xu_In (by omega), xu_In (by omega), xu_In (by omega), xu_In (by omega)]⟩ rfl rfl (xu_In (by omega))
  have hS : zSr (zslc μ m p x) (zslr ν m p x Sl) m per s0 (Sl + 1) := by
    refine ⟨fun i q1 q2 => ?_, fun i i' k k' q1 q2 q3 q4 q5 q6 q7 => ?_, fun k hk => ?_⟩
    · by_cases w : i = Sl
      · rw [w, zslr_v.1, zslr_v.2.1, zslr_v.2.2]
        exact ⟨rfl, rfl, x, by omega, rfl⟩
      · rw [hsl 236 i (by omega) w, hsl 237 i (by omega) w, hsl 238 i (by omega) w]
        exact hsr.1 i q1 (by omega)
    · rw [hsl 237 i (by omega) (by omega)] at q6
      by_cases w : i' = Sl
      · rw [w, zslr_v.2.1, zi_eq (by omega) (by omega)] at q7
        have := i3 i q1 (by omega) k q4 q6
        omega
      · rw [hsl 237 i' (by omega) w] at q7
        exact hsr.2.1 i i' k k' q1 q2 (by omega) q4 q5 q6 q7
    · by_cases w : k = x
      · rw [w, show xe_I (zslc μ m p x) (20 + 11 * m) x = 1 from xu_I]
        exact ⟨fun _ => ⟨Sl, by omega, by omega, zslr_v.2.1⟩, fun _ => by decide⟩
      · rw [show xe_I (zslc μ m p x) (20 + 11 * m) k = xe_I μ (20 + 11 * m) k from (xu_In (by omega)).trans (xu_In (by omega)), hsr.2.2 k hk]
        constructor
        · rintro ⟨i, w1, w2, w3⟩
          exact ⟨i, w1, by omega, by rw [hsl 237 i (by omega) (by omega)]; exact w3⟩
        · rintro ⟨i, w1, w2, w3⟩
          by_cases w4 : i = Sl
          · rw [w4, zslr_v.2.1, zi_eq (by omega) (by omega)] at w3
            omega
          · exact ⟨i, w1, by omega, by rw [hsl 237 i (by omega) w4] at w3; exact w3⟩
  refine ⟨zIM_g h hP1 (by omega) G1 G2 xu_I ⟨⟨b1, b2, b3, b4, b5, b6, by omega, by omega⟩, ⟨(k1 _ 1 (by omega) (by unfold zXl; omega)).trans e1, (zslr_o (by omega) (by omega)).trans e2, (k1 _ 3 (by omega) (by unfold zXl; omega)).trans e3, (k1 _ 6 (by omega) (by unfold zXl; omega)).trans e4, (k1 _ 10 (by omega) (by unfold zXl; omega)).trans e5, e6⟩, hr18, fun t w1 w2 => zTs_k (hts t w1 w2) w2 hc hd (Nat.le_refl _) (Nat.le_refl _), fun e he => zEt_k (het e he) (by omega) (fun j => k1 _ j (by omega) (by unfold zXl; omega)) hc hd (Nat.le_refl _) (Nat.le_refl _), hS⟩, by omega, by omega, fun i w1 w2 k w3 w4 => ?_⟩
  by_cases w : i = Sl
  · rw [w, zslr_v.2.1, zi_eq (by omega) (by omega)] at w4
    omega
  · rw [hsl 237 i (by omega) w] at w4
    have := i3 i w1 (by omega) k w3 w4
    omega
/-- slots are read by both, or refused by both -/
def zLO (N P S m f k0 s0 : Nat) (μ ν : xe_Mem) (p T Sw L st mb per : Nat) (A B : zO) : Prop := (∃ μ' ν' p' Sl', A = some (.inl none, μ') ∧ B = zint 1 ν' ∧ zIM N P S m f k0 s0 μ' ν' p' T Sw Sl' L st mb per ∧ p < p' ∧ zW μ ν μ' ν') ∨ zFx N μ ν A B
theorem z_slots : ∀ (r : Nat) (μ ν : xe_Mem) (p Sl least nn g F : Nat), N - p ≤ r → zIM N P S m f k0 s0 μ ν p T Sw Sl L st mb per → zSi ν s0 Sl least per → nn ≤ least → 4000 ≤ g + p → 4000 ≤ F + p → zLO N P S m f k0 s0 μ ν p T Sw L st mb per (zD65_10 g (nI least) (nI nn) μ) (zD168_8 F (nI m) (nL least) ν) := by
  intro r
  induction r with
  | zero =>
    intro μ ν p Sl least nn g F hr h
    have := h.1.2.2.2.1
    omega
  | succ r ih =>
    intro μ ν p Sl least nn g F hr h hi hnn hg hF
    obtain ⟨hP, hK, hNn, hC, hM, ⟨m4, f6, k4, s120⟩, hO, hD⟩ := id h
    obtain ⟨⟨b1, b2, b3, b4, b5, b6, b7, b8⟩, ⟨e1, e2, e3, e4, e5, e6⟩, hr18, hts, het, hsr⟩ := id hD
    have hR := hK.1
    have d1 := hM.1
    have hN3 := hP.1.2.1
    have hpN := hP.2.2.2.1
    obtain ⟨g, rfl⟩ : ∃ k, g = k + 1 := ⟨g - 1, by omega⟩
    obtain ⟨F, rfl⟩ : ∃ k, F = k + 1 := ⟨F - 1, by omega⟩
    obtain ⟨i1, i2, i3⟩ := id hi
    show zLO N P S m f k0 s0 μ ν p T Sw L st mb per (zD65_10_b (zD65_10 g) (nI least) (nI nn) μ) (zD168_8_b (zD168_8 F) (nI m) (nL least) ν)
    unfold zD65_10_b zD168_8_b
    rw [d1, zs_some, zo_in (zS_mode m m4) (by omega), e1, if_neg (nI_nlt (by omega) (by omega)), zs_some, zo_in (zS_mode m m4) (by omega), e1, show (nI per - 1 : Int32) = nI (per - 1) from by rw [show (1 : Int32) = nI 1 from rfl, zn_sub (by omega)], zx_nI m4 (by decide), e2, zn_64 (by omega), show (nL per - 1 : Int64) = nL (per - 1) from by rw [show (1 : Int64) = nL 1 from rfl, zL_sub (by omega)]]
    rcases zt_num hP (lo := least) (hi := per - 1) (by omega) (by omega) with ⟨x, hN, x1, x2, a1, a2, a3, a4⟩ | hf
    · have hSl : Sl < 480 := by omega
      obtain ⟨hI, hi2⟩ := z_slot1 (x := x) h hi hN x1 (by omega)
      have hW1 : zW μ ν (zslc μ m p x) (zslr ν m p x Sl) := zW_t zW_mv (zW_t (zW_I ⟨by omega, by omega, fun w => by rcases w with ⟨t, h3, h4⟩ | ⟨t, h3, h4⟩ <;> omega⟩) (zW_t (zW_t (zW_t (zW_rI ⟨by omega, by omega⟩) (zW_rI ⟨by omega, by omega⟩)) (zW_rI ⟨by omega, by omega⟩)) (zW_rI ⟨by omega, by omega⟩)))
      have k43 : xe_I (zrmv ν p) 203 43 = nI Sl := (xu_In (by omega)).trans hC.2.2.2.2.2.2.2
      have k1 : zD149 (xe_setI (zrmv ν p) 236 Sl (nI m)) = zint (nI x) (xe_setI (zrmv ν p) 236 Sl (nI m)) := z149 (p := p) ((xu_In (by omega)).trans xu_I) a4 a3 (by omega)
      have k2 : zD149 (zslr ν m p x Sl) = zint (nI x) (zslr ν m p x Sl) := z149 (p := p) (by
        unfold zslr
        rw [xu_In (by omega), xu_In (by omega), xu_In (by omega), xu_In (by omega)]
        exact xu_I) a4 a3 (by omega)
      rw [a1, zcI_ok, show xe_R (zmv μ p) 181 10 = some (17 + 11 * m) from d1, zs_some, zo_in (zS_mode m m4) (by omega), show xe_R (zmv μ p) (17 + 11 * m) 7 = some (20 + 11 * m) from hR _ _ _ (zR_m m m4).2.2, zs_some, za_in (zS_18 m m4).2.2 (by omega), zx_nI (show x < 120 by omega) (by decide), a2, zcI_ok, if_neg (show ¬ (1 : Int32) = 0 by decide), k43, zx_nI hSl (by decide)]
      simp only [zq_m, zq_vI, zq_vL]
      rw [k1, zcI_ok, show xe_I (xe_setI (zrmv ν p) 236 Sl (nI m)) 203 43 = nI Sl from (xu_In (by omega)).trans k43, zx_nI hSl (by decide), show xe_I (xe_setI (xe_setI (zrmv ν p) 236 Sl (nI m)) 237 Sl (nI x)) 203 43 = nI Sl from (xu_In (by omega)).trans ((xu_In (by omega)).trans k43), zx_nI hSl (by decide), show xe_I (xe_setI (xe_setI (xe_setI (zrmv ν p) 236 Sl (nI m)) 237 Sl (nI x)) 238 Sl (-1)) 203 43 = nI Sl from (xu_In (by omega)).trans ((xu_In (by omega)).trans ((xu_In (by omega)).trans k43)), nI_1, nI_1, nI_1, show zD149 (xe_setI (xe_setI (xe_setI (xe_setI (zrmv ν p) 236 Sl (nI m)) 237 Sl (nI x)) 238 Sl (-1)) 203 43 (nI (Sl + 1))) = _ from k2, zcI_ok, zn_64 (by omega), show (nL x + 1 : Int64) = nL (x + 1) from by rw [show (1 : Int64) = nL 1 from rfl, zL_add]]
      obtain ⟨b, y1, y2, y3⟩ := zt_iss hI.1 (K := 14) (by decide) (by decide)
      rw [show zD35 1000015 (xe_setI (zmv μ p) (20 + 11 * m) x (vp_nar .boolean 1)) = _ from y1, zcI_ok, show zD147 44 (zslr ν m p x Sl) = _ from y2, zcI_ok]
      cases b
      · rw [if_pos (show zb01 false = 0 by decide), if_pos (show zb01 false = 0 by decide)]
        unfold zD65_47
        rcases zt_sign hI.1 (K := 13) (by decide) (by decide) with ⟨hN2, w1, w2⟩ | hf
        · rw [show zD41 1000014 (zslc μ m p x) = _ from w1, zcV_ok, show zD146 59 (zslr ν m p x Sl) = _ from w2, zcI_ok, zz_1]
          exact Or.inl ⟨_, _, p + 1 + 1, Sl + 1, rfl, rfl, zIM_mv hI hN2, by omega, zW_t hW1 zW_mv⟩
        · exact Or.inr (zFx_w hW1 (zFx_cV (zFx_z hf)))
      · rw [if_neg (show ¬ zb01 true = 0 by decide), if_neg (show ¬ zb01 true = 0 by decide)]
        have hN2 := y3 rfl
        rw [show xe_I (zslc μ m p x) 181 6 = nI (p + 1) from hI.1.2.1, show xe_I (zslr ν m p x Sl) 203 10 = nI (p + 1) from hI.1.2.2.1, nI_1]
        rcases ih (zmv (zslc μ m p x) (p + 1)) (zrmv (zslr ν m p x Sl) (p + 1)) (p + 1 + 1) (Sl + 1) (x + 1) (nn + 1) g F (by omega) (zIM_mv hI hN2) ⟨hi2.1, hi2.2.1, fun i w1 w2 k w3 w4 => hi2.2.2 i w1 w2 k w3 ((xu_In (by omega)).symm.trans w4)⟩ (by omega) (by omega) (by omega) with ⟨μ', ν', p', Sl', v1, v2, v3, v4, v5⟩ | hf
        · exact Or.inl ⟨μ', ν', p', Sl', v1, v2, v3, by omega, zW_t hW1 (zW_t zW_mv v5)⟩
        · exact Or.inr (zFx_w (zW_t hW1 zW_mv) hf)
    · exact Or.inr (zFx_cI (zFx_b hf))
end
