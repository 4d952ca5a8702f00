/-! reading a switch: its end, and what both hold behind it -/
def zsr (ν : xe_Mem) (p U Sw : Nat) : xe_Mem := zrmv (xe_setI (zrmv (xe_setI (xe_setL (zrmv (zrad ν U 13 0) p) 234 Sw (xe_L ν 209 (p + 1))) 235 Sw (xe_I ν 208 (p + 1))) (p + 1)) 203 37 (nI (Sw + 1))) (p + 2)
def zsc5 (μ : xe_Mem) (p x11 : Nat) : xe_Mem := zmv (zmv (xe_setI (zmv μ p) x11 3 (nI (p + 1))) (p + 1)) (p + 2)
def zXw (m e L a j : Nat) : Prop := (a = 181 ∧ (j = 6 ∨ j = 8 ∨ j = 9)) ∨ (a = 182 ∧ j = 3) ∨ (a = 17 + 11 * m ∧ j = 6) ∨ a = 24 + 11 * m + e ∨ (a = 8 ∧ j = 2) ∨ ((a = 9 ∨ a = 10) ∧ L ≤ j)
def zXv (Sw U a j : Nat) : Prop := (a = 203 ∧ (j = 10 ∨ j = 37 ∨ j = 47 ∨ (59 ≤ j ∧ j ≤ 64))) ∨ (231 ≤ a ∧ a ≤ 235 ∧ j = Sw) ∨ a = 248 ∨ a = 249 ∨ ((a = 239 ∨ a = 240) ∧ U ≤ j)
def zYv (Sw a j : Nat) : Prop := a = 234 ∧ j = Sw
theorem zgI_x {m e j : Nat} (hm : m < 4) (he : e < 4) : zgI (24 + 11 * m + e) j := ⟨by omega, by omega, fun w => by rcases w with ⟨t, h3, h4⟩ | ⟨t, h3, h4⟩ <;> omega⟩
section
variable {N P S m T per p q pl n f e L L' U t off ub Sw Sl k0 s0 st mb ev M x11 : Nat} {μ ν μ' ν' : xe_Mem} {a j : Nat}
theorem zRt_G {X Y : Nat → Nat → Prop} (h : zRt μ) (hf : zfG X Y zZu μ μ') : zRt μ' := fun a j b hb => by
  have ha : a < 265 := by
    refine Nat.lt_of_not_le (fun h265 => ?_)
    rw [xv_zn _ (by rw [xv_rl]; omega)] at hb
    cases hb
  rw [(hf a ha j).2.2 (fun w => w.2 rfl)]
  exact h a j b hb
theorem zkr_1 {q : Nat} : (nI (zkr q) = 1) ↔ q = 25 := by
  rw [show (1 : Int32) = nI 1 from rfl, zi_eq (by have := zkr_lt q; omega) (by omega)]
  unfold zkr
  constructor
  · intro e
    split at e
    · omega
    · split at e
      · omega
      · split at e
        · assumption
        · split at e
          · omega
          · split at e <;> omega
  · intro e
    subst e
    rfl
theorem z_sc (h : zPo N μ ν p) (hm : m < 4) (he : e < 4) (c3 : xe_I ν 203 47 = nI U) (hU : U < 6000) (c7 : xe_I ν 203 37 = nI Sw) (hSw : Sw < 16) :
    (∃ pl, p + 3 < N ∧ zTk μ ν (p + 1) 25 pl ∧ zc63f (24 + 11 * m + e) μ = some (.inl none, zsc5 μ p (24 + 11 * m + e)) ∧ zr67d (nI Sw) ν = zint 1 (zsr ν p U Sw)) ∨ zFx N μ ν (zc63f (24 + 11 * m + e) μ) (zr67d (nI Sw) ν) := by
  have hP0 : zPo N μ (zrad ν U 13 0) p := zPo_k h (fun _ _ => ⟨rfl, rfl, rfl⟩) (fun a ha => ⟨funext fun j => zrad_o (by omega) (by omega) (by omega), rfl⟩) rfl ⟨zrad_o (by omega) (by omega) (by omega), zrad_o (by omega) (by omega) (by omega)⟩ rfl rfl rfl
  have hW0 : zW μ ν μ (zrad ν U 13 0) := zW_t (zW_t (zW_rI ⟨by omega, by omega⟩) (zW_rI ⟨by omega, by omega⟩)) (zW_rI ⟨by omega, by omega⟩)
  unfold zc63f zr67d
  rw [z157 c3 hU, zcV_ok]
  rcases zt_word hP0 (K := 9) (by decide) with ⟨hN, a1, a2⟩ | hf
  · rw [show zD41 1000010 μ = _ from a1, zcV_ok, show zD154 9 (zrad ν U 13 0) = _ from a2, zcI_ok, if_neg (show ¬ (1 : Int32) = 0 by decide)]
    simp only [zq_m]
    rw [show xe_I (zmv μ p) 181 6 = nI (p + 1) from xu_I]
    have hP1 : zPo N (xe_setI (zmv μ p) (24 + 11 * m + e) 3 (nI (p + 1))) (zrmv (zrad ν U 13 0) p) (p + 1) := zPo_k (zPo_mv hP0 hN) (fun a ha => ⟨funext fun j => xu_In (by omega), rfl, rfl⟩) (fun _ _ => ⟨rfl, rfl⟩) (xu_In (by omega)) ⟨rfl, rfl⟩ rfl rfl (xu_In (by omega))
    obtain ⟨q, pl, t1, t2, t3, t4⟩ := zPo_tok hP1
    obtain ⟨hx, e1, f1, b1, b2, b3, b4, b5, b6⟩ := id hP1
    have k9 : xe_L (zrmv (zrad ν U 13 0) p) 209 (p + 1) = xe_L ν 209 (p + 1) := rfl
    have k8 : xe_I (xe_setL (zrmv (zrad ν U 13 0) p) 234 Sw (xe_L ν 209 (p + 1))) 208 (p + 1) = xe_I ν 208 (p + 1) := (show xe_I (zrmv (zrad ν U 13 0) p) 208 (p + 1) = xe_I ν 208 (p + 1) from (xu_In (by omega)).trans (zrad_o (by omega) (by omega) (by omega)))
    have k37 : xe_I (zrmv (zrad ν U 13 0) p) 203 37 = nI Sw := (xu_In (by omega)).trans ((zrad_o (by omega) (by omega) (by omega)).trans c7)
    have hP2 : zPo N (xe_setI (zmv μ p) (24 + 11 * m + e) 3 (nI (p + 1))) (xe_setI (xe_setL (zrmv (zrad ν U 13 0) p) 234 Sw (xe_L ν 209 (p + 1))) 235 Sw (xe_I ν 208 (p + 1))) (p + 1) := zPo_k hP1 (fun _ _ => ⟨rfl, rfl, rfl⟩) (fun a ha => ⟨funext fun j => (xu_In (by omega)).trans rfl, by
      show xe_L (xe_setL (zrmv (zrad ν U 13 0) p) 234 Sw (xe_L ν 209 (p + 1))) a = _
      rw [zr_LL, if_neg (by omega)]⟩) rfl ⟨(xu_In (by omega)).trans rfl, (xu_In (by omega)).trans rfl⟩ rfl rfl rfl
    have hW2 : zW μ ν (xe_setI (zmv μ p) (24 + 11 * m + e) 3 (nI (p + 1))) (xe_setI (xe_setL (zrmv (zrad ν U 13 0) p) 234 Sw (xe_L ν 209 (p + 1))) 235 Sw (xe_I ν 208 (p + 1))) := zW_t hW0 (zW_t zW_mv (zW_t (zW_I (zgI_x hm he)) (zW_t (zW_rL (by omega)) (zW_rI ⟨by omega, by omega⟩))))
    obtain ⟨-, -, g1, -, g2, -⟩ := id hP2
    have hr : zr67e (nI Sw) (zrmv (zrad ν U 13 0) p) = if q = 25 then zD167_157 1 (xe_setI (xe_setL (zrmv (zrad ν U 13 0) p) 234 Sw (xe_L ν 209 (p + 1))) 235 Sw (xe_I ν 208 (p + 1))) else zD167_157 0 (xe_setI (xe_setL (zrmv (zrad ν U 13 0) p) 234 Sw (xe_L ν 209 (p + 1))) 235 Sw (xe_I ν 208 (p + 1))) := by
      unfold zr67e
      rw [f1, zx_nI (show p + 1 < 3002 by omega) (by decide), zx_nI hSw (by decide), k9]
      simp only [zq_m]
      rw [show xe_I (xe_setL (zrmv (zrad ν U 13 0) p) 234 Sw (xe_L ν 209 (p + 1))) 203 10 = nI (p + 1) from f1, zx_nI (show p + 1 < 3002 by omega) (by decide), zx_nI hSw (by decide), k8, g1, zx_nI (show p + 1 < 3002 by omega) (by decide), show xe_I (xe_setI (xe_setL (zrmv (zrad ν U 13 0) p) 234 Sw (xe_L ν 209 (p + 1))) 235 Sw (xe_I ν 208 (p + 1))) 207 (p + 1) = nI (zkr q) from (xu_In (by omega)).trans (zRk_k t3.2.2.2.2)]
      by_cases e : q = 25
      · rw [if_pos (zkr_1.mpr e), if_pos e]
      · rw [if_neg (fun w => e (zkr_1.mp w)), if_neg e]
    rw [hr, show zD41 1000026 (xe_setI (zmv μ p) (24 + 11 * m + e) 3 (nI (p + 1))) = _ from z41 e1 t4 t3.1 t1 (K := 25) (by decide)]
    by_cases hq : q = 25
    · subst hq
      have hN2 : p + 1 + 1 < N := t2.mp (by decide)
      rw [if_pos rfl, if_pos rfl, zcV_ok]
      unfold zD167_157
      rw [z143t g1 g2, zcI_ok, if_neg (show ¬ (1 : Int32) = 0 by decide)]
      simp only [zq_m]
      rw [show xe_I (zrmv (xe_setI (xe_setL (zrmv (zrad ν U 13 0) p) 234 Sw (xe_L ν 209 (p + 1))) 235 Sw (xe_I ν 208 (p + 1))) (p + 1)) 203 37 = nI Sw from (xu_In (by omega)).trans ((xu_In (by omega)).trans k37), nI_1]
      have hP3 : zPo N (zmv (xe_setI (zmv μ p) (24 + 11 * m + e) 3 (nI (p + 1))) (p + 1)) (xe_setI (zrmv (xe_setI (xe_setL (zrmv (zrad ν U 13 0) p) 234 Sw (xe_L ν 209 (p + 1))) 235 Sw (xe_I ν 208 (p + 1))) (p + 1)) 203 37 (nI (Sw + 1))) (p + 1 + 1) := zPo_k (zPo_mv hP2 hN2) (fun _ _ => ⟨rfl, rfl, rfl⟩) (fun a ha => ⟨funext fun j => xu_In (by omega), rfl⟩) rfl ⟨xu_In (by omega), xu_In (by omega)⟩ rfl rfl rfl
      have hW3 := zW_t hW2 (zW_t (zW_mv (p := p + 1)) (zW_rI (a := 203) (j := 37) (v := nI (Sw + 1)) ⟨by omega, by omega⟩))
      rcases zt_sign hP3 (K := 13) (by decide) (by decide) with ⟨hN3, a3, a4⟩ | hf
      · rw [show zD41 1000014 (zmv (xe_setI (zmv μ p) (24 + 11 * m + e) 3 (nI (p + 1))) (p + 1)) = _ from a3, zcV_ok]
        refine Or.inl ⟨pl, hN3, ⟨t3.1, ?_, ?_, t3.2.2.2.1, ?_⟩, rfl, ?_⟩
        · exact ((xu_In (by omega)).trans (xu_In (by omega))).symm.trans t3.2.1
        · exact ((xu_In (by omega)).trans (zrad_o (by omega) (by omega) (by omega))).symm.trans t3.2.2.1
        · have w := t3.2.2.2.2
          rw [show xe_I (zrmv (zrad ν U 13 0) p) 207 (p + 1) = xe_I ν 207 (p + 1) from (xu_In (by omega)).trans (zrad_o (by omega) (by omega) (by omega))] at w
          exact w
        · rw [show zD146 59 (xe_setI (zrmv (xe_setI (xe_setL (zrmv (zrad ν U 13 0) p) 234 Sw (xe_L ν 209 (p + 1))) 235 Sw (xe_I ν 208 (p + 1))) (p + 1)) 203 37 (nI (Sw + 1))) = _ from a4, zcI_ok, zz_1]
          rfl
      · exact Or.inr (zFx_w hW3 (zFx_cV (zFx_z hf)))
    · rw [if_neg hq, if_neg hq]
      unfold zD167_157
      rw [z143f, zcI_ok, if_pos rfl]
      exact Or.inr (zFx_w hW2 (zFx_cV (zPo_no hP2 rfl rfl)))
  · exact Or.inr (zFx_w hW0 (zFx_cV (zFx_b hf)))
theorem zKc_S (hm : m < 4) (hT : T ≤ 24) (he : e < 4) (h : zfG (zXw m e L) zZu zZu μ μ') : zKc m T L μ μ' := by
  refine ⟨fun a j q => ?_, fun a j q => ?_, fun a j q => ?_⟩
  · unfold zPI at q
    refine (h a (by rcases q with ⟨i, h1, h2⟩ | ⟨i, h1, h2⟩ | h1 | h1 <;> omega) j).1 (fun w => ?_)
    unfold zXw at w
    rcases q with ⟨i, h1, h2⟩ | ⟨i, h1, h2⟩ | h1 | h1 <;> omega
  · unfold zPL at q
    exact (h a (by omega) j).2.1 (fun w => w.2 rfl)
  · obtain ⟨i, h1, h2⟩ := q
    exact (h a (by omega) j).2.2 (fun w => w.2 rfl)
theorem zKd_S (h : zfG (zXv Sw U) (zYv Sw) zZu ν ν') : zKd M T Sw Sl U ν ν' := by
  refine ⟨fun a j q => ?_, fun a j q => ?_⟩
  · unfold zQI at q
    refine (h a (by omega) j).1 (fun w => ?_)
    unfold zXv at w
    omega
  · unfold zQL at q
    refine (h a (by omega) j).2.1 (fun w => ?_)
    unfold zYv at w
    omega
/-- one switch more -/
theorem zMd_S {U' : Nat} (h : zMd N P S L U μ ν m per f T k0 Sw s0 Sl) (hm : m < 4) (hT : T ≤ 24) (he : e = Sw - k0) (he4 : e < 4) (g1 : zfG (zXw m e L) zZu zZu μ μ') (g2 : zfG (zXv Sw U) (zYv Sw) zZu ν ν') (hL : L ≤ L') (hU : U ≤ U') (h6 : xe_I μ' (17 + 11 * m) 6 = nI (e + 1)) (hx : zEt N P S L' U' μ' ν' m per Sw e) : zMd N P S L' U' μ' ν' m per f T k0 (Sw + 1) s0 Sl := by
  have hc := zKc_S (T := T) hm hT he4 g1
  have hd := zKd_S (M := m) (T := T) (Sl := Sl) g2
  have k1 : ∀ j, j ≠ 6 → xe_I μ' (17 + 11 * m) j = xe_I μ (17 + 11 * m) j := fun j q => (g1 _ (by omega) j).1 (fun w => by unfold zXw at w; omega)
  obtain ⟨⟨b1, b2, b3, b4, b5, b6, b7, b8⟩, ⟨c1, c2, c3, c4, c5, c6⟩, q1, q2, q3, q4⟩ := h
  refine ⟨⟨b1, b2, b3, b4, by omega, by omega, b7, b8⟩, ⟨(k1 1 (by omega)).trans c1, ?_, (k1 3 (by omega)).trans c3, ?_, (k1 10 (by omega)).trans c5, ?_⟩, fun i hi => ?_, fun t h1 h2 => zTs_k (q2 t h1 h2) h2 hc hd hL hU, fun i hi => ?_, ?_⟩
  · exact ((g2 214 (by decide) m).1 (fun w => by unfold zXv at w; omega)).trans c2
  · rw [h6]
    congr 1
    omega
  · rw [(g1 187 (by decide) m).2.1 (fun w => w.2 rfl), (g2 213 (by decide) m).2.1 (fun w => by unfold zYv at w; omega)]
    exact c6
  · rw [(g1 (18 + 11 * m) (by omega) i).2.2 (fun w => w.2 rfl)]
    exact q1 i hi
  · by_cases w : i = e
    · rw [w, show k0 + e = Sw by omega]
      exact hx
    · exact zEt_k (q3 i (by omega)) (by omega) (fun j => (g1 _ (by omega) j).1 (fun w2 => by unfold zXw at w2; omega)) hc hd hL hU
  · exact zSr_k q4 (Nat.le_refl _) (fun j => (g1 _ (by omega) j).1 (fun w => by unfold zXw at w; omega)) hd
end
section
variable {N P S m T per p f e L L' U ub Sw Sl k0 s0 st mb ev p' : Nat} {μ ν μ' ν' : xe_Mem}
theorem zsc5_o {x11 c j : Nat} (h1 : c ≠ 181 ∨ j ≠ 6) (h2 : c ≠ x11 ∨ j ≠ 3) : xe_I (zsc5 μ p x11) c j = xe_I μ c j := by
  unfold zsc5 zmv
  rw [xu_In (by omega), xu_In (by omega), xu_In (by omega), xu_In (by omega)]
theorem zW_sc5 (hm : m < 4) (he : e < 4) : zW μ ν (zsc5 μ p (24 + 11 * m + e)) ν := by
  unfold zsc5 zmv
  refine zW_t ?_ (zW_I (zgI_a (by decide) (by decide)))
  refine zW_t ?_ (zW_I (zgI_a (by decide) (by decide)))
  refine zW_t ?_ (zW_I (zgI_x hm he))
  exact zW_I (zgI_a (by decide) (by decide))
theorem zsr_o {c j : Nat} (h1 : c ≠ 203 ∨ (j ≠ 10 ∧ j ≠ 37 ∧ j ≠ 47)) (h2 : c ≠ 235 ∨ j ≠ Sw) (h3 : c ≠ 239 ∨ j ≠ U) (h4 : c ≠ 240 ∨ j ≠ U) : xe_I (zsr ν p U Sw) c j = xe_I ν c j := by
  unfold zsr zrmv zrad
  rw [xu_In (by omega), xu_In (by omega), xu_In (by omega), xu_In (by omega)]
  show xe_I (xe_setI (xe_setI (xe_setI (xe_setI ν 239 U 13) 240 U 0) 203 47 (nI (U + 1))) 203 10 (nI (p + 1))) c j = _
  rw [xu_In (by omega), xu_In (by omega), xu_In (by omega), xu_In (by omega)]
theorem zsr_L {c j : Nat} (h : c ≠ 234 ∨ j ≠ Sw) : xe_L (zsr ν p U Sw) c j = xe_L ν c j := by
  show xe_L (xe_setL ν 234 Sw (xe_L ν 209 (p + 1))) c j = _
  rw [zu_L, if_neg (by omega)]
theorem zsr_v : xe_I (zsr ν p U Sw) 203 10 = nI (p + 3) ∧ xe_I (zsr ν p U Sw) 203 37 = nI (Sw + 1) ∧ xe_I (zsr ν p U Sw) 203 47 = nI (U + 1) ∧ xe_I (zsr ν p U Sw) 235 Sw = xe_I ν 208 (p + 1) ∧ xe_I (zsr ν p U Sw) 239 U = 13 ∧ xe_L (zsr ν p U Sw) 234 Sw = xe_L ν 209 (p + 1) := by
  unfold zsr zrmv zrad
  refine ⟨xu_I, ?_, ?_, ?_, ?_, ?_⟩
  · rw [xu_In (by omega)]
    exact xu_I
  · rw [xu_In (by omega), xu_In (by omega), xu_In (by omega), xu_In (by omega)]
    show xe_I (xe_setI (xe_setI (xe_setI (xe_setI ν 239 U 13) 240 U 0) 203 47 (nI (U + 1))) 203 10 (nI (p + 1))) 203 47 = _
    rw [xu_In (by omega)]
    exact xu_I
  · rw [xu_In (by omega), xu_In (by omega), xu_In (by omega)]
    exact xu_I
  · rw [xu_In (by omega), xu_In (by omega), xu_In (by omega), xu_In (by omega)]
    show xe_I (xe_setI (xe_setI (xe_setI (xe_setI ν 239 U 13) 240 U 0) 203 47 (nI (U + 1))) 203 10 (nI (p + 1))) 239 U = _
    rw [xu_In (by omega), xu_In (by omega), xu_In (by omega)]
    exact xu_I
  · show xe_L (xe_setL ν 234 Sw (xe_L ν 209 (p + 1))) 234 Sw = _
    rw [zu_L, if_pos ⟨rfl, rfl⟩]
/-- what both hold behind a switch -/
theorem z_send (h : zIM N P S m f k0 s0 μ ν p T Sw Sl L st mb per) (he : e = Sw - k0) (he4 : e < 4) (hev : 1 ≤ ev) (hev2 : ev ≤ per) (hN : p' + 3 < N)
    (g1 : zfG (zXw m e L) zZu zZu μ μ') (g2 : zfG (zXv Sw (L + T + Sw)) (zYv Sw) zZu ν ν')
    (hQ : zQ N P S 0 0 false (T + Sw) L (fun _ => false) μ' ν' p' L' ub) (hL : L < L') (hEp : zEq P S μ' L L') (hsh : xe_sh μ' = xe_sh μ) (hsl : xe_sl μ' = xe_sl μ)
    (x0 : xe_I μ' (24 + 11 * m + e) 0 = nI ev) (x1 : xe_I μ' (24 + 11 * m + e) 1 = nI L) (h6 : xe_I μ' (17 + 11 * m) 6 = nI (e + 1)) (r1 : xe_I ν' 231 Sw = nI m) (r2 : xe_I ν' 232 Sw = nI ev) (r3 : xe_I ν' 233 Sw = nI (L + (T + Sw))) {pl : Nat} (htk : zTk μ' ν' (p' + 1) 25 pl) :
    zIM N P S m f k0 s0 (zsc5 (xe_setI μ' (24 + 11 * m + e) 2 (nI L')) p' (24 + 11 * m + e)) (zsr ν' p' (L' + (T + Sw)) Sw) (p' + 3) T (Sw + 1) Sl L' st mb per := by
  obtain ⟨hP, hK, hNn, hC, hM, ⟨m4, f6, k4, s120⟩, hO, hD⟩ := id h
  obtain ⟨hR, hNp, ⟨p1, p2, p3⟩, ct, cm, cv⟩ := id hK
  obtain ⟨⟨n1, n2, n3, n4⟩, ⟨n5, n6, n7, n8⟩⟩ := id hNn
  obtain ⟨c1, c2, c3, c4, c5, c6, c7, c8⟩ := id hC
  obtain ⟨d1, d2, d3, d4, d5⟩ := id hM
  obtain ⟨⟨b1, b2, b3, b4, b5, b6, b7, b8⟩, -⟩ := id hD
  have hT24 : T ≤ 24 := by omega
  obtain ⟨hx, e1, e2, e3, f1, f2, hcd, hub, v1, v2, v3, v4, v5, v6⟩ := id hQ
  have hN2 := hx.1.2.1
  have ke : ∀ c j, (c ≠ 181 ∨ j ≠ 6) → (c ≠ 24 + 11 * m + e ∨ (j ≠ 3 ∧ j ≠ 2)) → xe_I (zsc5 (xe_setI μ' (24 + 11 * m + e) 2 (nI L')) p' (24 + 11 * m + e)) c j = xe_I μ' c j := fun c j q1 q2 => (zsc5_o q1 (by omega)).trans (xu_In (by omega))
  have G1 : zfG (zXw m e L) zZu zZu μ (zsc5 (xe_setI μ' (24 + 11 * m + e) 2 (nI L')) p' (24 + 11 * m + e)) := zfG_t g1 (fun a ha j => ⟨fun q => ke a j (by unfold zXw at q; omega) (by unfold zXw at q; omega), fun _ => rfl, fun _ => rfl⟩)
  have G2 : zfG (zXv Sw (L + T + Sw)) (zYv Sw) zZu ν (zsr ν' p' (L' + (T + Sw)) Sw) := zfG_t g2 (fun a ha j => ⟨fun q => zsr_o (by unfold zXv at q; omega) (by unfold zXv at q; omega) (by unfold zXv at q; omega) (by unfold zXv at q; omega), fun q => zsr_L (by unfold zYv at q; omega), fun _ => rfl⟩)
  have g : ∀ a j, a < 265 → ¬ zXw m e L a j → xe_I (zsc5 (xe_setI μ' (24 + 11 * m + e) 2 (nI L')) p' (24 + 11 * m + e)) a j = xe_I μ a j := fun a j q1 q2 => (G1 a q1 j).1 q2
  have gL : ∀ a j, a < 265 → xe_L (zsc5 (xe_setI μ' (24 + 11 * m + e) 2 (nI L')) p' (24 + 11 * m + e)) a j = xe_L μ a j := fun a j q1 => (G1 a q1 j).2.1 (fun w => w.2 rfl)
  have gr : ∀ a j, a < 265 → ¬ zXv Sw (L + T + Sw) a j → xe_I (zsr ν' p' (L' + (T + Sw)) Sw) a j = xe_I ν a j := fun a j q1 q2 => (G2 a q1 j).1 q2
  have grL : ∀ a j, a < 265 → a ≠ 234 → xe_L (zsr ν' p' (L' + (T + Sw)) Sw) a j = xe_L ν a j := fun a j q1 q2 => (G2 a q1 j).2.1 (fun w => by unfold zYv at w; omega)
  have hTE : zTE (zsc5 (xe_setI μ' (24 + 11 * m + e) 2 (nI L')) p' (24 + 11 * m + e)) (zsr ν' p' (L' + (T + Sw)) Sw) N := zTE_k hx.1 (fun a q => ⟨funext fun j => ke a j (by omega) (by omega), rfl, rfl⟩) (fun a q => ⟨funext fun j => zsr_o (by omega) (by omega) (by omega) (by omega), funext fun j => zsr_L (by omega)⟩)
  have hcode : ∀ i, xe_I (zsc5 (xe_setI μ' (24 + 11 * m + e) 2 (nI L')) p' (24 + 11 * m + e)) 9 i = xe_I μ' 9 i ∧ xe_I (zsc5 (xe_setI μ' (24 + 11 * m + e) 2 (nI L')) p' (24 + 11 * m + e)) 10 i = xe_I μ' 10 i := fun i => ⟨ke 9 i (by omega) (by omega), ke 10 i (by omega) (by omega)⟩
  have hEt : zEt N P S L' (L' + T + (Sw + 1)) (zsc5 (xe_setI μ' (24 + 11 * m + e) 2 (nI L')) p' (24 + 11 * m + e)) (zsr ν' p' (L' + (T + Sw)) Sw) m per Sw e := by
    refine ⟨ev, L, L', T + Sw, p' + 1, ⟨hev, hev2, hL, Nat.le_refl _, by omega, by omega⟩, ⟨(ke _ 0 (by omega) (by omega)).trans x0, (ke _ 1 (by omega) (by omega)).trans x1, ?_, ?_⟩, ⟨(zsr_o (by omega) (by omega) (by omega) (by omega)).trans r1, (zsr_o (by omega) (by omega) (by omega) (by omega)).trans r2, (zsr_o (by omega) (by omega) (by omega) (by omega)).trans r3⟩, zCd_c hcd (fun i _ => hcode i) (fun i hi => ⟨zsr_o (by omega) (by omega) (by omega) (by omega), zsr_o (by omega) (by omega) (by omega) (by omega)⟩), ?_, zsr_v.2.2.2.2.1, ?_, ?_⟩
    · exact (zsc5_o (by omega) (by omega)).trans xu_I
    · unfold zsc5 zmv
      rw [xu_In (by omega), xu_In (by omega)]
      exact xu_I
    · obtain ⟨n, hn⟩ := hEp
      exact ⟨n, zEy_c n L L' hn (fun i _ _ => hcode i)⟩
    · rw [zsr_v.2.2.2.2.2]
      exact zRk_n htk.2.2.2.2 rfl
    · rw [zsr_v.2.2.2.1, ke 5 _ (by omega) (by omega), htk.2.1, htk.2.2.1]
  refine ⟨⟨hTE, ?_, zsr_v.1, hN, ?_, hx.2.2.2.1.1, hx.2.2.2.2.1, hx.2.2.2.2.2, ub, v6, (ke 181 9 (by omega) (by omega)).trans e3⟩, ⟨zRt_G hR G1, ?_, ⟨(g 7 4 (by decide) (by unfold zXw; omega)).trans p1, (g 7 5 (by decide) (by unfold zXw; omega)).trans p2, (gr 203 70 (by decide) (by unfold zXv; omega)).trans p3⟩, fun t ht => (g _ 0 (by omega) (by unfold zXw; omega)).trans (ct t ht), fun i hi => (g _ 0 (by omega) (by unfold zXw; omega)).trans (cm i hi), fun j hj => ?_⟩, ⟨⟨(g 190 3 (by decide) (by unfold zXw; omega)).trans n1, (g 7 7 (by decide) (by unfold zXw; omega)).trans n2, (gr 203 22 (by decide) (by unfold zXv; omega)).trans n3, fun t ht => ?_⟩, ⟨(g 186 3 (by decide) (by unfold zXw; omega)).trans n5, (g 7 6 (by decide) (by unfold zXw; omega)).trans n6, (gr 203 17 (by decide) (by unfold zXv; omega)).trans n7, fun i hi => ?_⟩⟩, ⟨(ke 8 2 (by omega) (by omega)).trans e2, (g 181 7 (by decide) (by unfold zXw; omega)).trans c2, ?_, (gr 203 52 (by decide) (by unfold zXv; omega)).trans c4, by omega, c6, zsr_v.2.1, (gr 203 43 (by decide) (by unfold zXv; omega)).trans c8⟩, ⟨?_, (g _ 4 (by omega) (by unfold zXw; omega)).trans d2, d3, fun t ht => ?_, fun q hq => ?_⟩, ⟨m4, f6, k4, s120⟩, ?_, ?_⟩
  · exact xu_I
  · rw [zsr_o (by omega) (by omega) (by omega) (by omega)]
    exact hx.2.2.2.1.2
  · exact zNp_k hNp (fun e _ => ⟨g 184 e (by decide) (by unfold zXw; omega), g 185 e (by decide) (by unfold zXw; omega), gL 183 e (by decide)⟩) ⟨funext fun e => grL 210 e (by decide) (by decide), funext fun e => grL 212 e (by decide) (by decide)⟩ ⟨gr 203 12 (by decide) (by unfold zXv; omega), gr 203 15 (by decide) (by unfold zXv; omega)⟩
  · rw [g 14 j (by decide) (by unfold zXw; omega), gr 211 j (by decide) (by unfold zXv; omega)]
    exact cv j hj
  · refine ⟨?_, zDij_k (n4 t ht).2 (fun k hk => gr 218 k (by decide) (by unfold zXv; omega)) (fun i hi => gr 227 i (by decide) (by unfold zXv; omega))⟩
    rw [gL 191 t (by decide), grL 217 t (by decide) (by decide)]
    exact (n4 t ht).1
  · rw [gL 187 i (by decide), grL 213 i (by decide) (by decide)]
    exact n8 i hi
  · rw [zsr_v.2.2.1]
    congr 1
    omega
  · exact ((G1 181 (by decide) 10).2.2 (fun w => w.2 rfl)).trans d1
  · rw [gr 218 t (by decide) (by unfold zXv; omega)]
    exact d4 t ht
  · rw [← d5 q hq]
    constructor
    · rintro ⟨t, w1, w2, w3⟩
      rw [gr 227 _ (by decide) (by unfold zXv; omega)] at w3
      exact ⟨t, w1, w2, w3⟩
    · rintro ⟨t, w1, w2, w3⟩
      exact ⟨t, w1, w2, by rw [gr 227 _ (by decide) (by unfold zXv; omega)]; exact w3⟩
  · exact zOm_k (M' := m) (T' := T) (Sw' := Sw) (Sl' := Sl) hO (Nat.le_refl _) (by omega) (by omega) (by omega) (zKc_S m4 hT24 he4 G1) (zKd_S G2) (by omega) (by omega)
  · exact zMd_S hD m4 hT24 he he4 G1 G2 (by omega) (by omega) ((ke _ 6 (by omega) (by omega)).trans h6) hEt
/-- a switch is read by both, or refused by both -/
def zSO2 (N P S m f k0 s0 : Nat) (μ ν : xe_Mem) (p T Sw Sl per st mb : Nat) (A B : zO) : Prop := (∃ μ' ν' p' L', A = some (.inl none, μ') ∧ B = zint 1 ν' ∧ zIM N P S m f k0 s0 μ' ν' p' T (Sw + 1) Sl L' st mb per ∧ p < p' ∧ zW μ ν μ' ν') ∨ zFx N μ ν A B
theorem z_switch (h : zIM N P S m f k0 s0 μ ν p T Sw Sl L st mb per) (hN : p + 1 < N) (hS : Sw < k0 + 4) : zSO2 N P S m f k0 s0 μ ν p T Sw Sl per st mb (zD63 μ) (zD167 (nI m) ν) := by
  obtain ⟨hP, hK, hNn, hC, hM, ⟨m4, f6, k4, s120⟩, hO, hD⟩ := id h
  obtain ⟨hR, hNp, ⟨p1, p2, p3'⟩, ct, cm, cv⟩ := id hK
  obtain ⟨⟨n1, n2, n3, n4⟩, ⟨n5, n6, n7, n8⟩⟩ := id hNn
  obtain ⟨c1, c2, c3, c4, c5, c6, c7, c8⟩ := id hC
  obtain ⟨d1, d2, d3, d4, d5⟩ := id hM
  obtain ⟨⟨b1, b2, b3, b4, b5, b6, b7, b8⟩, ⟨e1, e2, e3, e4, e5, e6⟩, hr18, hts, -, -⟩ := id hD
  obtain ⟨e, he⟩ : ∃ e, e = Sw - k0 := ⟨_, rfl⟩
  rw [← he] at e4
  have he4 : e < 4 := by omega
  rw [z63a hR m4 d1 e4 (by omega) hP.2.1, if_neg (by omega), z167a hP.2.2.1]
  have h1 : zPo N (xe_setI (zmv μ p) (17 + 11 * m) 6 (nI (e + 1))) (zrmv ν p) (p + 1) := zPo_k (zPo_mv hP hN) (fun a ha => ⟨funext fun j => xu_In (by omega), rfl, rfl⟩) (fun _ _ => ⟨rfl, rfl⟩) (xu_In (by omega)) ⟨rfl, rfl⟩ rfl rfl (xu_In (by omega))
  have hW1 : zW μ ν (xe_setI (zmv μ p) (17 + 11 * m) 6 (nI (e + 1))) (zrmv ν p) := zW_t zW_mv (zW_I (zgI_j (by omega) (by omega) (by decide)))
  rcases z_sa (T := T) (per := per) (n := T - f) (f := f) h1 hR m4 he4 d1 ((xu_In (by omega)).trans ((xu_In (by omega)).trans e1)) ((xu_In (by omega)).trans e2) b1 b2 ((xu_In (by omega)).trans ((xu_In (by omega)).trans e3)) (by omega) (by omega) (by omega) hr18 (fun t q1 q2 => by
    obtain ⟨nd, tm, sp, w, lc, ab, ub, a, b, off, ⟨g1, g2, g3, -⟩, ⟨-, -, g4, -⟩, ⟨g5, -, -, g6, -⟩, -⟩ := hts t q1 q2
    have hsp1 : 1 ≤ sp := by
      rcases Nat.eq_zero_or_pos sp with w | w
      · rw [w, Nat.mul_zero] at g3
        omega
      · exact w
    have hsp2 : sp ≤ 120 := by
      have : 1 * sp ≤ tm * sp := Nat.mul_le_mul_right sp g2
      omega
    exact ⟨(xu_In (by omega)).trans g5, sp, hsp1, hsp2, (xu_In (by omega)).trans ((xu_In (by omega)).trans g4), (xu_In (by omega)).trans g6⟩) (fun t ht => by
    obtain ⟨i, i1, i2⟩ := d4 t ht
    exact ⟨i, i1, (xu_In (by omega)).trans i2⟩) ((xu_In (by omega)).trans n3) with ⟨ev, v1, v2, hN2, ea, eb⟩ | hf
  · rw [ea, eb]
    have h2 : zPo N (xe_setI (zmv (xe_setI (zmv μ p) (17 + 11 * m) 6 (nI (e + 1))) (p + 1)) (24 + 11 * m + e) 0 (nI ev)) (zrmv (zrmv ν p) (p + 1)) (p + 1 + 1) := zPo_k (zPo_mv h1 hN2) (fun a ha => ⟨funext fun j => xu_In (by omega), rfl, rfl⟩) (fun _ _ => ⟨rfl, rfl⟩) (xu_In (by omega)) ⟨rfl, rfl⟩ rfl rfl (xu_In (by omega))
    have hW2 : zW μ ν (xe_setI (zmv (xe_setI (zmv μ p) (17 + 11 * m) 6 (nI (e + 1))) (p + 1)) (24 + 11 * m + e) 0 (nI ev)) (zrmv (zrmv ν p) (p + 1)) := zW_t hW1 (zW_t zW_mv (zW_I (zgI_x m4 he4)))
    have k2 : ∀ c j, (c ≠ 181 ∨ j ≠ 6) → (c ≠ 17 + 11 * m ∨ j ≠ 6) → c ≠ 24 + 11 * m + e → xe_I (xe_setI (zmv (xe_setI (zmv μ p) (17 + 11 * m) 6 (nI (e + 1))) (p + 1)) (24 + 11 * m + e) 0 (nI ev)) c j = xe_I μ c j := fun c j q1 q2 q3 => by
      unfold zmv
      rw [xu_In (by omega), xu_In (by omega), xu_In (by omega), xu_In (by omega)]
    have k2r : ∀ c j, (c ≠ 203 ∨ j ≠ 10) → xe_I (zrmv (zrmv ν p) (p + 1)) c j = xe_I ν c j := fun c j q1 => by
      unfold zrmv
      rw [xu_In (by omega), xu_In (by omega)]
    have x26 : xe_I (xe_setI (zmv (xe_setI (zmv μ p) (17 + 11 * m) 6 (nI (e + 1))) (p + 1)) (24 + 11 * m + e) 0 (nI ev)) (17 + 11 * m) 6 = nI (e + 1) := by
      unfold zmv
      rw [xu_In (by omega), xu_In (by omega)]
      exact xu_I
    have x20 : xe_I (xe_setI (zmv (xe_setI (zmv μ p) (17 + 11 * m) 6 (nI (e + 1))) (p + 1)) (24 + 11 * m + e) 0 (nI ev)) (24 + 11 * m + e) 0 = nI ev := xu_I
    have hR2 : zRt (xe_setI (zmv (xe_setI (zmv μ p) (17 + 11 * m) 6 (nI (e + 1))) (p + 1)) (24 + 11 * m + e) 0 (nI ev)) := hR
    have hL2 : ∀ a j, xe_L (xe_setI (zmv (xe_setI (zmv μ p) (17 + 11 * m) 6 (nI (e + 1))) (p + 1)) (24 + 11 * m + e) 0 (nI ev)) a j = xe_L μ a j ∧ xe_R (xe_setI (zmv (xe_setI (zmv μ p) (17 + 11 * m) 6 (nI (e + 1))) (p + 1)) (24 + 11 * m + e) 0 (nI ev)) a j = xe_R μ a j := fun a j => ⟨rfl, rfl⟩
    have hL2r : ∀ a, xe_L (zrmv (zrmv ν p) (p + 1)) a = xe_L ν a ∧ xe_R (zrmv (zrmv ν p) (p + 1)) a = xe_R ν a := fun a => ⟨rfl, rfl⟩
    generalize xe_setI (zmv (xe_setI (zmv μ p) (17 + 11 * m) 6 (nI (e + 1))) (p + 1)) (24 + 11 * m + e) 0 (nI ev) = μ2 at h2 hW2 k2 x26 x20 hR2 hL2 ⊢
    generalize zrmv (zrmv ν p) (p + 1) = ν2 at h2 hW2 k2r hL2r ⊢
    rcases z_sb (m := m) (L := L) (off := T + Sw) (Sw := Sw) (x11 := 24 + 11 * m + e) (ev := ev) h2 hR2 (zNp_k hNp (fun i _ => ⟨k2 184 i (by omega) (by omega) (by omega), k2 185 i (by omega) (by omega) (by omega), (hL2 183 i).1⟩) ⟨(hL2r 210).1, (hL2r 212).1⟩ ⟨k2r 203 12 (by omega), k2r 203 15 (by omega)⟩) (by omega) ((k2 7 4 (by omega) (by omega) (by omega)).trans p1) ((k2 7 5 (by omega) (by omega) (by omega)).trans p2) ((k2 8 2 (by omega) (by omega) (by omega)).trans c1) (by
      rw [k2r 203 47 (by omega), c3]
      congr 1
      omega) ((k2r 203 37 (by omega)).trans c7) (by omega) (by omega) (by omega) with ⟨μ', ν', p', L', ub', o1, o2, o3, o4, o5, o6, o7, o8, o9, o10⟩ | hf
    · rw [o1, o2]
      obtain ⟨hx, q1, q2, q3, r1, r2, -, -, w1, w2, -, -, -, w6⟩ := id o3
      have hN3 := hx.1.2.1
      have hP4 : zPo N (xe_setI μ' (24 + 11 * m + e) 2 (nI L')) ν' p' := ⟨zTE_k hx.1 (fun a ha => ⟨funext fun j => xu_In (by omega), rfl, rfl⟩) (fun _ _ => ⟨rfl, rfl⟩), (xu_In (by omega)).trans q1, r1, w1, hx.2.2.2.1.2, hx.2.2.2.1.1, hx.2.2.2.2.1, hx.2.2.2.2.2, ub', w6, (xu_In (by omega)).trans q3⟩
      -- frames
      have g1 : zfG (zXw m e L) zZu zZu μ μ' := by
        refine zfG_t (μ1 := μ2) (fun a ha j => ⟨fun q => k2 a j (by unfold zXw at q; omega) (by unfold zXw at q; omega) (by unfold zXw at q; omega), fun _ => (hL2 a j).1, fun _ => (hL2 a j).2⟩) ?_
        refine zfG_t ?_ (zfG_w o7 (fun a j q => by unfold zXce at q; unfold zXw; omega) (fun a j q => q) (fun a j q => q))
        refine zfG_t ?_ (zfG_I (by unfold zXw; omega))
        refine zfG_t ?_ (zfG_I (by unfold zXw; omega))
        refine zfG_t ?_ (zfG_I (by unfold zXw; omega))
        exact zfG_I (by unfold zXw; omega)
      have g2 : zfG (zXv Sw (L + T + Sw)) (zYv Sw) zZu ν ν' := by
        refine zfG_t (μ1 := ν2) (fun a ha j => ⟨fun q => k2r a j (by unfold zXv at q; omega), fun _ => by rw [(hL2r a).1], fun _ => by rw [(hL2r a).2]⟩) ?_
        refine zfG_t ?_ (zfG_w o8 (fun a j q => by unfold zXe at q; unfold zXv; omega) (fun a j q => absurd rfl q.2) (fun a j q => q))
        refine zfG_t ?_ (zfG_I (by unfold zXv; omega))
        refine zfG_t ?_ (zfG_I (by unfold zXv; omega))
        refine zfG_t ?_ (zfG_I (by unfold zXv; omega))
        exact zfG_I (by unfold zXv; omega)
      have hWE : zW μ ν μ' ν' := by
        refine ⟨⟨fun a ha => ⟨funext fun j => (g1 a (by omega) j).1 (by unfold zXw; omega), funext fun j => (g1 a (by omega) j).2.1 (fun w => w.2 rfl), funext fun j => (g1 a (by omega) j).2.2 (fun w => w.2 rfl)⟩, fun t ht => (g1 _ (by omega) 0).1 (by unfold zXw; omega), fun i hi => (g1 _ (by omega) 0).1 (by unfold zXw; omega), fun j => (g1 194 (by decide) j).1 (by unfold zXw; omega)⟩, ⟨fun a h1 h2 => ⟨funext fun j => (g2 a (by omega) j).1 (by unfold zXv; omega), funext fun j => (g2 a (by omega) j).2.1 (fun w => by unfold zYv at w; omega)⟩, fun j hj => (g2 203 (by decide) j).1 (by unfold zXv; omega)⟩, o9.trans hW2.2.2.1, o10.trans hW2.2.2.2⟩
      have hW4 : zW μ ν (xe_setI μ' (24 + 11 * m + e) 2 (nI L')) ν' := zW_t hWE (zW_I (zgI_x m4 he4))
      have fx : ∀ c j, c < 265 → ¬ zXce L c j → (c ≠ 182 ∨ j ≠ 3) → (c ≠ 181 ∨ (j ≠ 6 ∧ j ≠ 8)) → (c ≠ 24 + 11 * m + e ∨ j ≠ 1) → xe_I μ' c j = xe_I μ2 c j := fun c j z0 z1 z2 z3 z4 => by
        rw [(o7 c z0 j).1 z1]
        unfold zmv
        rw [xu_In (by omega), xu_In (by omega), xu_In (by omega), xu_In (by omega)]
      have fr : ∀ c, 231 ≤ c → c ≤ 233 → xe_I ν' c Sw = xe_I (xe_setI (xe_setI (xe_setI (zrmv ν2 (p + 1 + 1)) 231 Sw (nI m)) 232 Sw (nI ev)) 233 Sw (nI (L + (T + Sw)))) c Sw := fun c z0 z1 => (o8 c (by omega) Sw).1 (by unfold zXe; omega)
      rcases z_sc (m := m) (e := e) (U := L' + (T + Sw)) (Sw := Sw) hP4 m4 he4 r2 (by omega) (((o8 203 (by decide) 37).1 (by unfold zXe; omega)).trans (by
        unfold zrmv
        rw [xu_In (by omega), xu_In (by omega), xu_In (by omega), xu_In (by omega), k2r 203 37 (by omega)]
        exact c7)) (by omega) with ⟨pl, hN5, htk, y1, y2⟩ | hf
      · refine Or.inl ⟨_, _, p' + 3, L', y1, y2, ?_, by omega, ?_⟩
        · refine z_send h he he4 v1 v2 hN5 g1 g2 o3 o5 o6 (o9.trans hW2.2.2.1) (o10.trans hW2.2.2.2) ((fx _ 0 (by omega) (by unfold zXce; omega) (by omega) (by omega) (by omega)).trans x20) ?_ ((fx _ 6 (by omega) (by unfold zXce; omega) (by omega) (by omega) (by omega)).trans x26) ?_ ?_ ?_ (pl := pl) ?_
          · rw [(o7 _ (by omega) 1).1 (by unfold zXce; omega)]
            exact xu_I
          · rw [fr 231 (by omega) (by omega), xu_In (by omega), xu_In (by omega)]
            exact xu_I
          · rw [fr 232 (by omega) (by omega), xu_In (by omega)]
            exact xu_I
          · rw [fr 233 (by omega) (by omega)]
            exact xu_I
          · exact ⟨htk.1, (xu_In (by omega)).symm.trans htk.2.1, htk.2.2.1, htk.2.2.2.1, htk.2.2.2.2⟩
        · refine zW_t hW4 (zW_t (zW_sc5 (p := p') m4 he4) ?_)
          exact ⟨zG_r, ⟨fun a h1 h2 => ⟨funext fun j => zsr_o (by omega) (by omega) (by omega) (by omega), funext fun j => zsr_L (by omega)⟩, fun j hj => zsr_o (by omega) (by omega) (by omega) (by omega)⟩, rfl, rfl⟩
      · exact Or.inr (zFx_w hW4 hf)
    · exact Or.inr (zFx_w hW2 hf)
  · exact Or.inr (zFx_w hW1 hf)
end
