/-! reading a mode: its head -/
/-- both between two modes -/
def zBM (N P S M : Nat) (μ ν : xe_Mem) (p T Sw Sl L st : Nat) : Prop := zPo N μ ν p ∧ zKn P S μ ν ∧ zNn μ ν T M ∧ zCc μ ν p L (L + T + Sw) st Sw Sl ∧ (M ≤ 4 ∧ T ≤ 6 * M ∧ Sw ≤ 4 * M ∧ Sl ≤ 120 * M) ∧ (∀ t, t < T → ∃ i, i < M ∧ xe_I ν 218 t = nI i) ∧ zOm N P S L (L + T + Sw) μ ν M T Sw Sl
def zc20 (μ : xe_Mem) (m : Nat) : Nat → xe_Mem
  | 0 => μ
  | i + 1 => xe_setI (zc20 μ m i) (20 + 11 * m) i 0
def zc46 (μ : xe_Mem) (m per : Nat) : xe_Mem := xe_setI (xe_setI (xe_setI (xe_setI (xe_setI μ (17 + 11 * m) 1 (nI per)) (17 + 11 * m) 3 0) (17 + 11 * m) 4 0) (17 + 11 * m) 6 0) (17 + 11 * m) 10 0
def zc45 (μ : xe_Mem) (m per : Nat) : xe_Mem := xe_setR (xe_setI (zc20 (zc46 μ m per) m 120) 7 6 (nI (m + 1))) 181 10 (some (17 + 11 * m))
section
variable {N P S m T per p M Sw Sl L st : Nat} {μ ν : xe_Mem} {v : Int32} {c j : Nat}
theorem zc20_v : ∀ i, xe_I (zc20 μ m i) c j = if c = 20 + 11 * m ∧ j < i then 0 else xe_I μ c j := by
  intro i
  induction i with
  | zero => rw [if_neg (by omega)]; rfl
  | succ i ih =>
    show xe_I (xe_setI (zc20 μ m i) (20 + 11 * m) i 0) c j = _
    by_cases h1 : c = 20 + 11 * m ∧ j = i
    · rw [h1.1, h1.2, if_pos (by omega)]
      exact xu_I
    · rw [xu_In h1, ih]
      by_cases h3 : c = 20 + 11 * m ∧ j < i
      · rw [if_pos h3, if_pos (by omega)]
      · rw [if_neg h3, if_neg (by omega)]
theorem zc20_L : ∀ i, xe_L (zc20 μ m i) = xe_L μ ∧ xe_R (zc20 μ m i) = xe_R μ ∧ xe_sh (zc20 μ m i) = xe_sh μ ∧ xe_sl (zc20 μ m i) = xe_sl μ := by
  intro i
  induction i with
  | zero => exact ⟨rfl, rfl, rfl, rfl⟩
  | succ i ih => exact ih
theorem z46l (hR : zRt μ) (hm : m < 4) : ∀ r g i : Nat, i + r = 120 → r < g → zD46_17 g (17 + 11 * m) v (nI i) (zc20 μ m i) = some (.inl none, zc20 μ m 120) := by
  intro r
  induction r with
  | zero =>
    intro g i hi hg
    obtain ⟨g, rfl⟩ : ∃ k, g = k + 1 := ⟨g - 1, by omega⟩
    have : i = 120 := by omega
    subst this
    have hr : xe_R (zc20 μ m 120) (17 + 11 * m) 7 = some (20 + 11 * m) := by
      rw [(zc20_L 120).2.1]
      exact hR _ _ _ (zR_m m hm).2.2
    show zD46_17_b (zD46_17 g) (17 + 11 * m) v (nI 120) (zc20 μ m 120) = _
    unfold zD46_17_b
    rw [zo_in (zS_mode m hm) (by omega), hr, zs_some, za_in (zS_18 m hm).2.2 (by omega), if_pos (show Int32.ofNat 120 ≤ nI 120 by decide)]
  | succ r ih =>
    intro g i hi hg
    obtain ⟨g, rfl⟩ : ∃ k, g = k + 1 := ⟨g - 1, by omega⟩
    have hr : xe_R (zc20 μ m i) (17 + 11 * m) 7 = some (20 + 11 * m) := by
      rw [(zc20_L i).2.1]
      exact hR _ _ _ (zR_m m hm).2.2
    show zD46_17_b (zD46_17 g) (17 + 11 * m) v (nI i) (zc20 μ m i) = _
    unfold zD46_17_b
    rw [zo_in (zS_mode m hm) (by omega), hr, zs_some, za_in (zS_18 m hm).2.2 (by omega), if_neg (show ¬ Int32.ofNat 120 ≤ nI i from nI_ge (b := 120) (by omega) (by decide)), zs_some, za_in (zS_18 m hm).2.2 (by omega), zx_nI (show i < 120 by omega) (by decide)]
    simp only [zq_m]
    rw [nI_1]
    exact ih g (i + 1) (by omega) (by omega)
theorem z46 (hR : zRt μ) (hm : m < 4) : zD46 (17 + 11 * m) (nI per) μ = some (.inl none, zc20 (zc46 μ m per) m 120) := by
  unfold zD46
  rw [zo_in (zS_mode m hm) (by omega)]
  simp only [zq_m]
  exact z46l (μ := zc46 μ m per) hR hm 120 zfu 0 (by omega) (zfu_lt (by omega))
theorem zc46_o (h : c ≠ 17 + 11 * m ∨ (j ≠ 1 ∧ j ≠ 3 ∧ j ≠ 4 ∧ j ≠ 6 ∧ j ≠ 10)) : xe_I (zc46 μ m per) c j = xe_I μ c j := by
  unfold zc46
  rw [xu_In (by omega), xu_In (by omega), xu_In (by omega), xu_In (by omega), xu_In (by omega)]
theorem z45 (hR : zRt μ) (hm : m < 4) (h6 : xe_I μ 7 6 = nI m) : zD45 (nI per) μ = some (.inl (some (.ref (17 + 11 * m))), xe_setI (zc20 (zc46 μ m per) m 120) 7 6 (nI (m + 1))) := by
  unfold zD45
  rw [h6, zx_nI hm (by decide), hR 15 m _ (zR_15 m hm), zs_some, zo_in (zS_mode m hm) (by omega), z46 hR hm, zcV_ok]
  simp only [zq_m]
  rw [show xe_I (zc20 (zc46 μ m per) m 120) 7 6 = nI m from by rw [zc20_v, if_neg (by omega), zc46_o (by omega)]; exact h6, nI_1]
theorem zc45_o (h1 : c ≠ 17 + 11 * m ∨ (j ≠ 1 ∧ j ≠ 3 ∧ j ≠ 4 ∧ j ≠ 6 ∧ j ≠ 10)) (h2 : c ≠ 20 + 11 * m ∨ 120 ≤ j) (h3 : c ≠ 7 ∨ j ≠ 6) : xe_I (zc45 μ m per) c j = xe_I μ c j := by
  show xe_I (xe_setI (zc20 (zc46 μ m per) m 120) 7 6 (nI (m + 1))) c j = _
  rw [xu_In (by omega), zc20_v, if_neg (by omega), zc46_o h1]
theorem zc45_v : xe_I (zc45 μ m per) 7 6 = nI (m + 1) ∧ xe_I (zc45 μ m per) (17 + 11 * m) 1 = nI per ∧ xe_I (zc45 μ m per) (17 + 11 * m) 3 = 0 ∧ xe_I (zc45 μ m per) (17 + 11 * m) 4 = 0 ∧ xe_I (zc45 μ m per) (17 + 11 * m) 6 = 0 ∧ xe_I (zc45 μ m per) (17 + 11 * m) 10 = 0 ∧ (∀ k, k < 120 → xe_I (zc45 μ m per) (20 + 11 * m) k = 0) ∧ xe_R (zc45 μ m per) 181 10 = some (17 + 11 * m) := by
  have k : ∀ j, xe_I (zc45 μ m per) (17 + 11 * m) j = xe_I (zc46 μ m per) (17 + 11 * m) j := fun j => by
    show xe_I (xe_setI (zc20 (zc46 μ m per) m 120) 7 6 (nI (m + 1))) (17 + 11 * m) j = _
    rw [xu_In (by omega), zc20_v, if_neg (by omega)]
  refine ⟨?_, ?_, ?_, ?_, ?_, ?_, fun i hi => ?_, ?_⟩
  · show xe_I (xe_setI (zc20 (zc46 μ m per) m 120) 7 6 (nI (m + 1))) 7 6 = _
    exact xu_I
  · rw [k]
    unfold zc46
    rw [xu_In (by omega), xu_In (by omega), xu_In (by omega), xu_In (by omega)]
    exact xu_I
  · rw [k]
    unfold zc46
    rw [xu_In (by omega), xu_In (by omega), xu_In (by omega)]
    exact xu_I
  · rw [k]
    unfold zc46
    rw [xu_In (by omega), xu_In (by omega)]
    exact xu_I
  · rw [k]
    unfold zc46
    rw [xu_In (by omega)]
    exact xu_I
  · rw [k]
    exact xu_I
  · show xe_I (xe_setI (zc20 (zc46 μ m per) m 120) 7 6 (nI (m + 1))) (20 + 11 * m) i = 0
    rw [xu_In (by omega), zc20_v, if_pos ⟨rfl, hi⟩]
  · exact (zu_R (μ := xe_setI (zc20 (zc46 μ m per) m 120) 7 6 (nI (m + 1)))).trans (if_pos ⟨rfl, rfl⟩)
theorem zqL_I {μ : xe_Mem} {a j : Nat} {v : Int32} : xe_L (xe_setI μ a j v) = xe_L μ := rfl
theorem zqL_R {μ : xe_Mem} {a j : Nat} {v : Option Nat} : xe_L (xe_setR μ a j v) = xe_L μ := rfl
theorem zqs_I {μ : xe_Mem} {a j : Nat} {v : Int32} : xe_sh (xe_setI μ a j v) = xe_sh μ ∧ xe_sl (xe_setI μ a j v) = xe_sl μ := ⟨rfl, rfl⟩
theorem zqs_R {μ : xe_Mem} {a j : Nat} {v : Option Nat} : xe_sh (xe_setR μ a j v) = xe_sh μ ∧ xe_sl (xe_setR μ a j v) = xe_sl μ := ⟨rfl, rfl⟩
theorem zc46_L : xe_L (zc46 μ m per) = xe_L μ ∧ xe_sh (zc46 μ m per) = xe_sh μ ∧ xe_sl (zc46 μ m per) = xe_sl μ := ⟨rfl, rfl, rfl⟩
theorem zc45_L : xe_L (zc45 μ m per) = xe_L μ := by
  unfold zc45
  rw [zqL_R, zqL_I, (zc20_L 120).1, zc46_L.1]
theorem zc45_R (h : c ≠ 181 ∨ j ≠ 10) : xe_R (zc45 μ m per) c j = xe_R μ c j := by
  show xe_R (xe_setR (xe_setI (zc20 (zc46 μ m per) m 120) 7 6 (nI (m + 1))) 181 10 (some (17 + 11 * m))) c j = _
  rw [zu_R, if_neg (by omega)]
  show xe_R (zc20 (zc46 μ m per) m 120) c j = _
  rw [(zc20_L 120).2.1]
  rfl
theorem zc45_s : xe_sh (zc45 μ m per) = xe_sh μ ∧ xe_sl (zc45 μ m per) = xe_sl μ := by
  unfold zc45
  rw [zqs_R.1, zqs_R.2, zqs_I.1, zqs_I.2, (zc20_L 120).2.2.1, (zc20_L 120).2.2.2, zc46_L.2.1, zc46_L.2.2]
  exact ⟨rfl, rfl⟩
theorem zRt_c45 (h : zRt μ) : zRt (zc45 μ m per) := zRt_sR (μ := xe_setI (zc20 (zc46 μ m per) m 120) 7 6 (nI (m + 1))) (fun a j b hb => by
  show xe_R (zc20 (zc46 μ m per) m 120) a j = _
  rw [(zc20_L 120).2.1]
  exact h a j b hb) zR_181.2
theorem zW_c45 (hm : m < 4) : zW μ ν (zc45 μ m per) ν := by
  refine ⟨⟨fun a ha => ⟨funext fun j => zc45_o (by omega) (by omega) (by omega), by rw [zc45_L], funext fun j => zc45_R (by omega)⟩, fun t ht => zc45_o (by omega) (by omega) (by omega), fun i hi => zc45_o (by omega) (by omega) (by omega), fun j => zc45_o (by omega) (by omega) (by omega)⟩, zGr_r, zc45_s.1, zc45_s.2⟩
theorem zPo_c45 (hm : m < 4) (h : zPo N μ ν p) : zPo N (zc45 μ m per) ν p := zPo_k h (fun a ha => ⟨funext fun j => zc45_o (by omega) (by omega) (by omega), by rw [zc45_L], funext fun j => zc45_R (by omega)⟩) (fun _ _ => ⟨rfl, rfl⟩) (zc45_o (by omega) (by omega) (by omega)) ⟨rfl, rfl⟩ zc45_s.1 zc45_s.2 (zc45_o (by omega) (by omega) (by omega))
/-- the class's cells that the head of a mode may change, and the reference's -/
def zXh (M a j : Nat) : Prop := (a = 181 ∧ j = 6) ∨ (a = 186 ∧ j = 3) ∨ a = 188 ∨ a = 189 ∨ (a = 17 + 11 * M ∧ j ≠ 0) ∨ a = 20 + 11 * M ∨ (a = 7 ∧ j = 6)
def zYh (M a j : Nat) : Prop := a = 187 ∧ j = M
def zZh (a j : Nat) : Prop := a = 181 ∧ j = 10
def zXg (M a j : Nat) : Prop := (a = 203 ∧ (j = 10 ∨ j = 17)) ∨ (a = 214 ∧ j = M)
def zYg (M a j : Nat) : Prop := a = 213 ∧ j = M
theorem zIM_0 {μ' ν' : xe_Mem} {p' : Nat} (h : zBM N P S M μ ν p T Sw Sl L st) (hM : M < 4) (hP' : zPo N μ' ν' p') (hp : p ≤ p') (hR' : zRt μ') (G1 : zfG (zXh M) (zYh M) zZh μ μ') (G2 : zfG (zXg M) (zYg M) zZu ν ν') (h1 : 1 ≤ per) (h2 : per ≤ 120)
    (c186 : xe_I μ' 186 3 = nI (M + 1)) (c76 : xe_I μ' 7 6 = nI (M + 1)) (c17 : xe_I ν' 203 17 = nI (M + 1)) (cn : xe_L μ' 187 M = xe_L ν' 213 M) (cr : xe_R μ' 181 10 = some (17 + 11 * M))
    (v1 : xe_I μ' (17 + 11 * M) 1 = nI per) (v3 : xe_I μ' (17 + 11 * M) 3 = 0) (v4 : xe_I μ' (17 + 11 * M) 4 = 0) (v6 : xe_I μ' (17 + 11 * M) 6 = 0) (v10 : xe_I μ' (17 + 11 * M) 10 = 0) (v20 : ∀ k, k < 120 → xe_I μ' (20 + 11 * M) k = 0) (v214 : xe_I ν' 214 M = nI per) : zIM N P S M T Sw Sl μ' ν' p' T Sw Sl L st 0 per := by
  obtain ⟨hP, hK, hNn, hC, ⟨m4, f6, k4, s120⟩, hlow, hO⟩ := id h
  obtain ⟨hR, hNp, ⟨p1, p2, p3⟩, ct, cm, cv⟩ := id hK
  obtain ⟨⟨n1, n2, n3, n4⟩, ⟨n5, n6, n7, n8⟩⟩ := id hNn
  obtain ⟨c1, c2, c3, c4, c5, c6, c7, c8⟩ := id hC
  have g : ∀ a j, a < 265 → ¬ zXh M a j → xe_I μ' a j = xe_I μ a j := fun a j q1 q2 => (G1 a q1 j).1 q2
  have gL : ∀ a j, a < 265 → ¬ zYh M a j → xe_L μ' a j = xe_L μ a j := fun a j q1 q2 => (G1 a q1 j).2.1 q2
  have gr : ∀ a j, a < 265 → ¬ zXg M a j → xe_I ν' a j = xe_I ν a j := fun a j q1 q2 => (G2 a q1 j).1 q2
  have grL : ∀ a j, a < 265 → ¬ zYg M a j → xe_L ν' a j = xe_L ν a j := fun a j q1 q2 => (G2 a q1 j).2.1 q2
  have hc : zKc M T L μ μ' := by
    refine ⟨fun a j q => ?_, fun a j q => ?_, fun a j q => ?_⟩
    · unfold zPI at q
      refine g a j (by rcases q with ⟨i, h1, h2⟩ | ⟨i, h1, h2⟩ | h1 | h1 <;> omega) (fun w => ?_)
      unfold zXh at w
      rcases q with ⟨i, h1, h2⟩ | ⟨i, h1, h2⟩ | h1 | h1 <;> omega
    · unfold zPL at q
      exact gL a j (by omega) (fun w => by unfold zYh at w; omega)
    · obtain ⟨i, h1, h2⟩ := q
      exact (G1 a (by omega) j).2.2 (fun w => by unfold zZh at w; omega)
  have hd : zKd M T Sw Sl (L + T + Sw) ν ν' := by
    refine ⟨fun a j q => ?_, fun a j q => ?_⟩
    · unfold zQI at q
      exact gr a j (by omega) (fun w => by unfold zXg at w; omega)
    · unfold zQL at q
      exact grL a j (by omega) (fun w => by unfold zYg at w; omega)
  refine ⟨hP', ⟨hR', ?_, ⟨(g 7 4 (by decide) (by unfold zXh; omega)).trans p1, (g 7 5 (by decide) (by unfold zXh; omega)).trans p2, (gr 203 70 (by decide) (by unfold zXg; omega)).trans p3⟩, fun t ht => (g _ 0 (by omega) (by unfold zXh; omega)).trans (ct t ht), fun i hi => (g _ 0 (by omega) (by unfold zXh; omega)).trans (cm i hi), fun j hj => ?_⟩, ⟨⟨(g 190 3 (by decide) (by unfold zXh; omega)).trans n1, (g 7 7 (by decide) (by unfold zXh; omega)).trans n2, (gr 203 22 (by decide) (by unfold zXg; omega)).trans n3, fun t ht => ?_⟩, ⟨c186, c76, c17, fun i hi => ?_⟩⟩, ⟨(g 8 2 (by decide) (by unfold zXh; omega)).trans c1, (g 181 7 (by decide) (by unfold zXh; omega)).trans c2, (gr 203 47 (by decide) (by unfold zXg; omega)).trans c3, (gr 203 52 (by decide) (by unfold zXg; omega)).trans c4, by omega, c6, (gr 203 37 (by decide) (by unfold zXg; omega)).trans c7, (gr 203 43 (by decide) (by unfold zXg; omega)).trans c8⟩, ⟨cr, v4, by decide, fun t ht => ?_, fun q hq => ?_⟩, ⟨hM, f6, k4, s120⟩, ?_, ?_⟩
  · exact zNp_k hNp (fun e _ => ⟨g 184 e (by decide) (by unfold zXh; omega), g 185 e (by decide) (by unfold zXh; omega), gL 183 e (by decide) (by unfold zYh; omega)⟩) ⟨funext fun e => grL 210 e (by decide) (by unfold zYg; omega), funext fun e => grL 212 e (by decide) (by unfold zYg; omega)⟩ ⟨gr 203 12 (by decide) (by unfold zXg; omega), gr 203 15 (by decide) (by unfold zXg; omega)⟩
  · rw [g 14 j (by decide) (by unfold zXh; omega), gr 211 j (by decide) (by unfold zXg; omega)]
    exact cv j hj
  · refine ⟨?_, zDij_k (n4 t ht).2 (fun k hk => gr 218 k (by decide) (by unfold zXg; omega)) (fun i hi => gr 227 i (by decide) (by unfold zXg; omega))⟩
    rw [gL 191 t (by decide) (by unfold zYh; omega), grL 217 t (by decide) (by unfold zYg; omega)]
    exact (n4 t ht).1
  · by_cases w : i = M
    · rw [w]
      exact cn
    · rw [gL 187 i (by decide) (by unfold zYh; omega), grL 213 i (by decide) (by unfold zYg; omega)]
      exact n8 i (by omega)
  · rw [gr 218 t (by decide) (by unfold zXg; omega)]
    exact hlow t ht
  · rw [Nat.zero_testBit]
    exact ⟨fun ⟨t, w1, w2, _⟩ => absurd w1 (by omega), fun w => by cases w⟩
  · exact zOm_k (M' := M) (T' := T) (Sw' := Sw) (Sl' := Sl) hO (Nat.le_refl _) (Nat.le_refl _) (Nat.le_refl _) (Nat.le_refl _) hc hd (Nat.le_refl _) (Nat.le_refl _)
  · refine ⟨⟨h1, h2, Nat.le_refl _, by omega, Nat.le_refl _, by omega, Nat.le_refl _, by omega⟩, ⟨v1, v214, ?_, ?_, v10, cn⟩, fun i hi => absurd hi (by omega), fun t w1 w2 => absurd w1 (by omega), fun e he => absurd he (by omega), ⟨fun i w1 w2 => absurd w1 (by omega), fun i i' k k' w1 w2 w3 => absurd w1 (by omega), fun k hk => ⟨fun w => absurd (v20 k hk) w, fun ⟨i, w1, w2, _⟩ => absurd w1 (by omega)⟩⟩⟩
    · rw [Nat.sub_self]
      exact v3
    · rw [Nat.sub_self]
      exact v6
end
