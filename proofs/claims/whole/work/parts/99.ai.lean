/-! reading a task whole -/
def zX3 (a j : Nat) : Prop := (a = 181 ∧ j = 6) ∨ (a = 190 ∧ j = 3) ∨ a = 192 ∨ a = 193
def zY3 (T a j : Nat) : Prop := a = 191 ∧ j = T
def zX3r (T a j : Nat) : Prop := (a = 203 ∧ j = 10) ∨ ((a = 220 ∨ a = 221) ∧ j = T)
section
variable {N P S m T M Sw Sl f k0 s0 per n L U L' p w ub v PS nd : Nat} {μ ν μ' ν' : xe_Mem} {a2 sp : Int32} {x : Int64}
theorem zfG_c7 : zfG (zXt m T L') (zYt T) (zZt m n) μ (zc7 μ T m n a2 sp PS L) := by
  unfold zc7 zc6k zc51
  refine zfG_t ?_ (zfG_I (by unfold zXt; omega))
  refine zfG_t ?_ (zfG_I (by unfold zXt; omega))
  refine zfG_t ?_ (zfG_I (by unfold zXt; omega))
  refine zfG_t ?_ (zfG_R (by unfold zZt; omega))
  refine zfG_t ?_ (zfG_I (by unfold zXt; omega))
  refine zfG_t ?_ (zfG_R (by unfold zZt; omega))
  refine zfG_t ?_ (zfG_I (by unfold zXt; omega))
  refine zfG_t ?_ (zfG_I (by unfold zXt; omega))
  refine zfG_t ?_ (zfG_I (by unfold zXt; omega))
  refine zfG_t ?_ (zfG_I (by unfold zXt; omega))
  refine zfG_t ?_ (zfG_I (by unfold zXt; omega))
  refine zfG_t ?_ (zfG_I (by unfold zXt; omega))
  refine zfG_t ?_ (zfG_I (by unfold zXt; omega))
  exact zfG_I (by unfold zXt; omega)
theorem zW_c7 (hm : m < 4) : zW μ ν (zc7 μ T m n a2 sp PS L) ν := by
  unfold zc7 zc6k zc51
  refine zW_t ?_ (zW_I (zgI_j (by omega) (by omega) (by decide)))
  refine zW_t ?_ (zW_I (zgI_j (by omega) (by omega) (by decide)))
  refine zW_t ?_ (zW_I (zgI_j (by omega) (by omega) (by decide)))
  refine zW_t ?_ (zW_R (by omega))
  refine zW_t ?_ (zW_I (zgI_j (by omega) (by omega) (by decide)))
  refine zW_t ?_ (zW_R (by omega))
  refine zW_t ?_ (zW_I (zgI_j (by omega) (by omega) (by decide)))
  refine zW_t ?_ (zW_I (zgI_j (by omega) (by omega) (by decide)))
  refine zW_t ?_ (zW_I (zgI_j (by omega) (by omega) (by decide)))
  refine zW_t ?_ (zW_I (zgI_j (by omega) (by omega) (by decide)))
  refine zW_t ?_ (zW_I (zgI_j (by omega) (by omega) (by decide)))
  refine zW_t ?_ (zW_I (zgI_j (by omega) (by omega) (by decide)))
  refine zW_t ?_ (zW_I (zgI_j (by omega) (by omega) (by decide)))
  exact zW_I (zgI_j (by omega) (by omega) (by decide))
theorem zfG_c9 : zfG (zXt m T L') (zYt T) (zZt m n) μ (zc9 μ T m w L ub v) := by
  unfold zc9
  refine zfG_t ?_ (zfG_I (by unfold zXt; omega))
  refine zfG_t ?_ (zfG_I (by unfold zXt; omega))
  refine zfG_t ?_ (zfG_I (by unfold zXt; omega))
  exact zfG_I (by unfold zXt; omega)
theorem zfG_mv : zfG (zXt m T L') (zYt T) (zZt m n) μ (zmv μ p) := zfG_I (by unfold zXt; omega)
theorem zW_c9 (hm : m < 4) : zW μ ν (zc9 μ T m w L ub v) ν := by
  unfold zc9
  refine zW_t ?_ (zW_I (zgI_j (by omega) (by omega) (by decide)))
  refine zW_t ?_ (zW_I (zgI_j (by omega) (by omega) (by decide)))
  refine zW_t ?_ (zW_I (zgI_j (by omega) (by omega) (by decide)))
  exact zW_I (zgI_j (by omega) (by omega) (by decide))
theorem zfG_r8 : zfG (zXu T U) (zYu T) zZu ν (zr8 ν T m x nd L) := fun a ha j => by
  refine ⟨fun hn => zr8_o ?_ ?_ ?_ ?_, fun hn => zr8_L ?_, fun _ => ?_⟩
  · unfold zXu at hn; omega
  · unfold zXu at hn; omega
  · unfold zXu at hn; omega
  · unfold zXu at hn; omega
  · unfold zYu at hn; omega
  · unfold zr8
    rw [(zc6_L 6).2, (zc12_L 12).2]
    rfl
theorem zW_r8 : zW μ ν μ (zr8 ν T m x nd L) := by
  refine ⟨zG_r, ⟨fun a h1 h2 => ⟨funext fun j => zr8_o (by omega) (by omega) (by omega) (by omega), funext fun j => zr8_L (by omega)⟩, fun j hj => zr8_o (by omega) (by omega) (by omega) (by omega)⟩, rfl, rfl⟩
theorem zfG_r0 : zfG (zXu T U) (zYu T) zZu ν (zr0 ν p) := fun a ha j => ⟨fun hn => zr0_o (by unfold zXu at hn; omega) (by unfold zXu at hn; omega) (by unfold zXu at hn; omega), fun _ => rfl, fun _ => rfl⟩
theorem zfG_r9 (hU : U ≤ L) : zfG (zXu T U) (zYu T) zZu ν (zr9 ν T p w L) := by
  unfold zr9 zrad zcl
  refine zfG_t ?_ (zfG_I (by unfold zXu; omega))
  refine zfG_t ?_ (zfG_I (by unfold zXu; omega))
  refine zfG_t ?_ (zfG_I (by unfold zXu; omega))
  refine zfG_t ?_ (zfG_I (by unfold zXu; omega))
  refine zfG_t ?_ (zfG_I (by unfold zXu; omega))
  refine zfG_t ?_ (zfG_I (by unfold zXu; omega))
  exact zfG_I (by unfold zXu; omega)
theorem zW_r9 : zW μ ν μ (zr9 ν T p w L) := by
  unfold zr9 zrad zcl
  refine zW_t ?_ (zW_rI ⟨by omega, by omega⟩)
  refine zW_t ?_ (zW_rI ⟨by omega, by omega⟩)
  refine zW_t ?_ (zW_rI ⟨by omega, by omega⟩)
  refine zW_t ?_ (zW_rI ⟨by omega, by omega⟩)
  refine zW_t ?_ (zW_rI ⟨by omega, by omega⟩)
  refine zW_t ?_ (zW_rI ⟨by omega, by omega⟩)
  exact zW_rI ⟨by omega, by omega⟩
theorem zc9_o {c j : Nat} (h1 : c ≠ 61 + 5 * T ∨ (j ≠ 4 ∧ j ≠ 9 ∧ j ≠ 7)) (h2 : c ≠ 17 + 11 * m ∨ j ≠ 4) : xe_I (zc9 μ T m w L ub v) c j = xe_I μ c j := by
  unfold zc9
  rw [xu_In (by omega), xu_In (by omega), xu_In (by omega), xu_In (by omega)]
theorem zc9_v (hm : m < 4) : xe_I (zc9 μ T m w L ub v) (61 + 5 * T) 4 = nI w ∧ xe_I (zc9 μ T m w L ub v) (61 + 5 * T) 9 = nI L ∧ xe_I (zc9 μ T m w L ub v) (61 + 5 * T) 7 = nI ub ∧ xe_I (zc9 μ T m w L ub v) (17 + 11 * m) 4 = nI v := by
  unfold zc9
  refine ⟨?_, ?_, ?_, xu_I⟩
  · rw [xu_In (by omega), xu_In (by omega), xu_In (by omega)]
    exact xu_I
  · rw [xu_In (by omega), xu_In (by omega)]
    exact xu_I
  · rw [xu_In (by omega)]
    exact xu_I
theorem zr9_o {c j : Nat} (h1 : c ≠ 203 ∨ (j ≠ 10 ∧ j ≠ 22 ∧ j ≠ 47 ∧ j ≠ 53)) (h2 : c ≠ 222 ∨ j ≠ T) (h3 : c ≠ 239 ∨ j ≠ L) (h4 : c ≠ 240 ∨ j ≠ L) : xe_I (zr9 ν T p w L) c j = xe_I ν c j := by
  unfold zr9 zrad zcl
  rw [xu_In (by omega), xu_In (by omega), xu_In (by omega), xu_In (by omega), xu_In (by omega), xu_In (by omega), xu_In (by omega)]
theorem zr9_v : xe_I (zr9 ν T p w L) 203 10 = nI (p + 1) ∧ xe_I (zr9 ν T p w L) 203 22 = nI (T + 1) ∧ xe_I (zr9 ν T p w L) 203 47 = nI (L + 1) ∧ xe_I (zr9 ν T p w L) 222 T = nI w ∧ xe_I (zr9 ν T p w L) 239 L = 13 := by
  unfold zr9 zrad zcl
  refine ⟨?_, xu_I, ?_, ?_, ?_⟩
  · rw [xu_In (by omega), xu_In (by omega), xu_In (by omega), xu_In (by omega), xu_In (by omega)]
    exact xu_I
  · rw [xu_In (by omega)]
    exact xu_I
  · rw [xu_In (by omega), xu_In (by omega), xu_In (by omega), xu_In (by omega), xu_In (by omega), xu_In (by omega)]
    exact xu_I
  · rw [xu_In (by omega), xu_In (by omega), xu_In (by omega)]
    exact xu_I
end
section
variable {N P S m T Sw Sl f k0 s0 per n L p ub Lc abn st st' mb w nd tm sp p7 p' L' : Nat} {μ ν μ7 ν7 μ' ν' : xe_Mem} {x : Int64}
/-- what both hold behind a task -/
theorem z_tend (h : zIM N P S m f k0 s0 μ ν p T Sw Sl L st mb per) (hT : T < f + 6) (hn : n = T - f)
    (hb : zTb P S m T L st mb (T + Sw) n nd tm sp x μ7 ν7) (g1 : zfG (zXt m T L) (zYt T) (zZt m n) μ μ7) (g2 : zfG (zXu T (L + T + Sw)) (zYu T) zZu ν ν7)
    (hnd : nd ≤ 3) (htm : 1 ≤ tm) (hsp : tm * sp = per) (hw : w ≤ 200) (hL : L ≤ L') (hN : p' + 1 < N)
    (hB : zBb N P S T m mb (T + Sw) L μ' ν' p' L' ub Lc abn st' 0 w) (hRw : zRw P S 0 μ' L L' w) (j1 : zfJ (zXcb T L) 183 (zmv μ7 p7) μ') (j2 : zfJ (zXrb T (L + (T + Sw)) 0) 241 (zr0 ν7 p7) ν') :
    zIM N P S m f k0 s0 (zc9 (zmv μ' p') T m w L' ub (mb ||| abn)) (zr9 ν' T p' w (L' + (T + Sw))) (p' + 1) (T + 1) Sw Sl L' st' (mb ||| abn) per := by
  obtain ⟨hP, hK, hNn, hC, hM, ⟨m4, f6, k4, s120⟩, hO, hD⟩ := id h
  obtain ⟨hR, hNp, ⟨p1, p2, p3⟩, ct, cm, cv⟩ := id hK
  obtain ⟨⟨n1, n2, n3, n4⟩, ⟨n5, n6, n7, n8⟩⟩ := id hNn
  obtain ⟨c1, c2, c3, c4, c5, c6, c7, c8⟩ := id hC
  obtain ⟨d1, d2, d3, d4, d5⟩ := id hM
  obtain ⟨⟨b1, b2, b3, b4, b5, b6, b7, b8⟩, -, -, hts, -, -⟩ := id hD
  have hT24 : T < 24 := by omega
  obtain ⟨hR7, hNp7, ⟨a1, a2, a3, a4, a5, a6, a7⟩, ⟨o1, o2, o3, o4, o5⟩, ⟨t1, t2, t3, t5, t6, t8, t11, t13⟩, ⟨r1, r2, r3⟩, ⟨u0, u1, u2, u3, u4, u5, u6⟩, hz, h242, hmbi⟩ := hb
  obtain ⟨hq, hRB, ha, s1, s2, s3, s4, s5, s6⟩ := id hB
  obtain ⟨hx, e1, e2, e3, f1, f2, hcd, hub, v1, v2, v3, v4, v5, v6⟩ := id hq
  obtain ⟨y1, y2, y3, y4, y5, y6, y7, y8, y9, y10, y11, y12, y13⟩ := id ha
  -- frames to the end
  have G1 : zfG (zXt m T L) (zYt T) (zZt m n) μ (zc9 (zmv μ' p') T m w L' ub (mb ||| abn)) := zfG_t (zfG_t (zfG_t (zfG_t g1 zfG_mv) (zfG_J j1 (fun a j => zXt_b hT24) (fun j => Or.inl rfl))) zfG_mv) zfG_c9
  have G2 : zfG (zXu T (L + T + Sw)) (zYu T) zZu ν (zr9 ν' T p' w (L' + (T + Sw))) := zfG_t (zfG_t (zfG_t g2 zfG_r0) (zfG_J j2 (fun a j hn => zXu_b (by rw [show L + (T + Sw) = L + T + Sw by omega]; exact hn)) (fun j => Or.inl rfl))) (zfG_r9 (by omega))
  -- cells of the class from the block's begin
  have kc : ∀ a j, a < 265 → (a ≠ 181 ∨ (j ≠ 6 ∧ j ≠ 7 ∧ j ≠ 8 ∧ j ≠ 9)) → a ≠ 182 → a ≠ 184 → a ≠ 185 → (a ≠ 61 + 5 * T ∨ (j ≠ 5 ∧ j ≠ 6 ∧ j ≠ 4 ∧ j ≠ 9 ∧ j ≠ 7)) → (a ≠ 17 + 11 * m ∨ j ≠ 4) → a ≠ 8 → a ≠ 9 → a ≠ 10 → xe_I (zc9 (zmv μ' p') T m w L' ub (mb ||| abn)) a j = xe_I μ7 a j := fun a j q0 q1 q2 q3 q4 q5 q6 q7 q8 q9 => by
    rw [zc9_o (by omega) (by omega), show xe_I (zmv μ' p') a j = xe_I μ' a j from xu_In (by omega), (j1 a q0).1 j (by
      unfold zXcb zXct zXc
      simp only [Bool.or_eq_false_iff, Bool.and_eq_false_iff, beq_eq_false_iff_ne, ne_eq]
      omega)]
    exact xu_In (by omega)
  have kr : ∀ a j, 213 ≤ a → a ≤ 224 → a ≠ 223 → (a ≠ 222) → xe_I (zr9 ν' T p' w (L' + (T + Sw))) a j = xe_I ν7 a j := fun a j q0 q1 q2 q3 => by
    rw [zr9_o (by omega) (by omega) (by omega) (by omega), (j2 a (by omega)).1 j (by
      unfold zXrb zXr
      simp only [Bool.or_eq_false_iff, Bool.and_eq_false_iff, beq_eq_false_iff_ne, ne_eq]
      omega)]
    exact zr0_o (by omega) (by omega) (by omega)
  have hTE : zTE (zc9 (zmv μ' p') T m w L' ub (mb ||| abn)) (zr9 ν' T p' w (L' + (T + Sw))) N := zTE_k hx.1 (fun a q => ⟨funext fun j => by rw [zc9_o (by omega) (by omega)]; exact xu_In (by omega), rfl, rfl⟩) (fun a q => ⟨funext fun j => zr9_o (by omega) (by omega) (by omega) (by omega), rfl⟩)
  have hNpE : zNp (zc9 (zmv μ' p') T m w L' ub (mb ||| abn)) (zr9 ν' T p' w (L' + (T + Sw))) P S := zNp_k (zNm_p hx.2.1) (fun e _ => ⟨by rw [zc9_o (by omega) (by omega)]; exact xu_In (by omega), by rw [zc9_o (by omega) (by omega)]; exact xu_In (by omega), rfl⟩) ⟨rfl, rfl⟩ ⟨zr9_o (by omega) (by omega) (by omega) (by omega), zr9_o (by omega) (by omega) (by omega) (by omega)⟩
  have hP12 : P ≤ 12 := hNpE.1
  have hor : mb ||| abn < 4096 := by
    have h12 : abn < 2 ^ 12 := y8
    exact Nat.or_lt_two_pow (n := 12) d3 h12
  have h227 : ∀ t q, t < T → q < 12 → xe_I (zr9 ν' T p' w (L' + (T + Sw))) 227 (12 * t + q) = xe_I ν 227 (12 * t + q) := fun t q q1 q2 => (G2 227 (by decide) _).1 (fun w => by unfold zXu at w; omega)
  have h227T : ∀ q, q < 12 → xe_I (zr9 ν' T p' w (L' + (T + Sw))) 227 (12 * T + q) = zb01 (Nat.testBit abn q) := fun q hq => (zr9_o (by omega) (by omega) (by omega) (by omega)).trans (y9 q hq)
  have hcode : ∀ i, xe_I (zc9 (zmv μ' p') T m w L' ub (mb ||| abn)) 9 i = xe_I μ' 9 i ∧ xe_I (zc9 (zmv μ' p') T m w L' ub (mb ||| abn)) 10 i = xe_I μ' 10 i := fun i => ⟨by rw [zc9_o (by omega) (by omega)]; exact xu_In (by omega), by rw [zc9_o (by omega) (by omega)]; exact xu_In (by omega)⟩
  have hrcode : ∀ i, i < L' + (T + Sw) → xe_I (zr9 ν' T p' w (L' + (T + Sw))) 239 i = xe_I ν' 239 i ∧ xe_I (zr9 ν' T p' w (L' + (T + Sw))) 240 i = xe_I ν' 240 i := fun i hi => ⟨zr9_o (by omega) (by omega) (by omega) (by omega), zr9_o (by omega) (by omega) (by omega) (by omega)⟩
  have hLc : Lc ≤ 6 := hx.2.1.2.2.1
  have hTs : zTs P S L' (L' + (T + 1) + Sw) (zc9 (zmv μ' p') T m w L' ub (mb ||| abn)) (zr9 ν' T p' w (L' + (T + Sw))) m per T := by
    refine ⟨nd, tm, sp, w, Lc, abn, ub, L, L', T + Sw, ⟨by omega, htm, hsp, hw, hLc, s3.2.1, v6, hL, Nat.le_refl _, by omega⟩, ⟨?_, ?_, ?_, (zc9_v m4).1, ?_, ?_, (zc9_v m4).2.2.1, ?_, (zc9_v m4).2.1, ?_, ?_⟩, ⟨(kr 218 T (by omega) (by omega) (by omega) (by omega)).trans u1, (kr 219 T (by omega) (by omega) (by omega) (by omega)).trans u2, (kr 220 T (by omega) (by omega) (by omega) (by omega)).trans u3, (kr 221 T (by omega) (by omega) (by omega) (by omega)).trans u4, zr9_v.2.2.2.1, (zr9_o (by omega) (by omega) (by omega) (by omega)).trans y6, (kr 224 T (by omega) (by omega) (by omega) (by omega)).trans u6⟩, fun q hq => ⟨h227T q hq, (zr9_o (by omega) (by omega) (by omega) (by omega)).trans (hub rfl q hq)⟩, zCd_c hcd (fun i _ => hcode i) hrcode, zRw_f hRw (fun i _ _ => hcode i), zr9_v.2.2.2.2⟩
    · exact (kc _ 1 (by omega) (by omega) (by omega) (by omega) (by omega) (by omega) (by omega) (by omega) (by omega) (by omega)).trans t1
    · exact (kc _ 2 (by omega) (by omega) (by omega) (by omega) (by omega) (by omega) (by omega) (by omega) (by omega) (by omega)).trans t2
    · exact (kc _ 3 (by omega) (by omega) (by omega) (by omega) (by omega) (by omega) (by omega) (by omega) (by omega) (by omega)).trans t3
    · rw [zc9_o (by omega) (by omega)]
      exact (xu_In (by omega)).trans y5
    · rw [zc9_o (by omega) (by omega)]
      exact (xu_In (by omega)).trans y7
    · exact (kc _ 8 (by omega) (by omega) (by omega) (by omega) (by omega) (by omega) (by omega) (by omega) (by omega) (by omega)).trans t8
    · exact (kc _ 11 (by omega) (by omega) (by omega) (by omega) (by omega) (by omega) (by omega) (by omega) (by omega) (by omega)).trans t11
    · exact (kc _ 13 (by omega) (by omega) (by omega) (by omega) (by omega) (by omega) (by omega) (by omega) (by omega) (by omega)).trans t13
  have g : ∀ a j, a < 265 → ¬ zXt m T L a j → xe_I (zc9 (zmv μ' p') T m w L' ub (mb ||| abn)) a j = xe_I μ a j := fun a j q1 q2 => (G1 a q1 j).1 q2
  have gr : ∀ a j, a < 265 → ¬ zXu T (L + T + Sw) a j → xe_I (zr9 ν' T p' w (L' + (T + Sw))) a j = xe_I ν a j := fun a j q1 q2 => (G2 a q1 j).1 q2
  refine ⟨⟨hTE, ?_, zr9_v.1, hN, ?_, hx.2.2.2.1.1, hx.2.2.2.2.1, hx.2.2.2.2.2, ub, v6, ?_⟩, ⟨hRB, hNpE, ⟨(g 7 4 (by decide) (by unfold zXt; omega)).trans p1, (g 7 5 (by decide) (by unfold zXt; omega)).trans p2, (gr 203 70 (by decide) (by unfold zXu; omega)).trans p3⟩, fun t ht => (g _ 0 (by omega) (by unfold zXt; omega)).trans (ct t ht), fun i hi => (g _ 0 (by omega) (by unfold zXt; omega)).trans (cm i hi), fun j hj => ?_⟩, ⟨⟨?_, ?_, zr9_v.2.1, fun t ht => ?_⟩, ⟨(g 186 3 (by decide) (by unfold zXt; omega)).trans n5, (g 7 6 (by decide) (by unfold zXt; omega)).trans n6, (gr 203 17 (by decide) (by unfold zXu; omega)).trans n7, fun i hi => ?_⟩⟩, ⟨?_, ?_, ?_, ?_, by omega, s3.1, (gr 203 37 (by decide) (by unfold zXu; omega)).trans c7, (gr 203 43 (by decide) (by unfold zXu; omega)).trans c8⟩, ⟨y4, (zc9_v m4).2.2.2, hor, fun t ht => ?_, fun q hq => ?_⟩, ⟨m4, f6, k4, s120⟩, ?_, ?_⟩
  · rw [zc9_o (by omega) (by omega)]
    exact xu_I
  · rw [zr9_o (by omega) (by omega) (by omega) (by omega)]
    exact hx.2.2.2.1.2
  · rw [zc9_o (by omega) (by omega)]
    exact (xu_In (by omega)).trans e3
  · rw [g 14 j (by decide) (by unfold zXt; omega), gr 211 j (by decide) (by unfold zXu; omega)]
    exact cv j hj
  · exact (kc 190 3 (by omega) (by omega) (by omega) (by omega) (by omega) (by omega) (by omega) (by omega) (by omega) (by omega)).trans o2
  · exact (kc 7 7 (by omega) (by omega) (by omega) (by omega) (by omega) (by omega) (by omega) (by omega) (by omega) (by omega)).trans o3
  · refine ⟨?_, ?_⟩
    rotate_left
    · by_cases e : t = T
      · subst e
        intro k hk e2 q hq
        rw [gr 218 k (by decide) (by unfold zXu; omega), kr 218 t (by omega) (by omega) (by omega) (by omega), u1] at e2
        by_cases hkf : k < f
        · obtain ⟨i, i1, i2⟩ := d4 k hkf
          rw [i2, zi_eq (by omega) (by omega)] at e2
          omega
        · rw [h227 k q hk hq, h227T q hq]
          by_cases h0 : xe_I ν 227 (12 * k + q) = 0
          · exact Or.inl h0
          · have hmbq := (d5 q hq).mp ⟨k, by omega, hk, h0⟩
            cases hbit : Nat.testBit abn q with
            | false => exact Or.inr rfl
            | true =>
              have := s3.2.2 q hbit
              rw [hmbq] at this
              cases this
      · exact zDij_k (n4 t (by omega)).2 (fun k hk => gr 218 k (by decide) (by unfold zXu; omega)) (fun i hi => gr 227 i (by decide) (by unfold zXu; omega))
    by_cases e : t = T
    · rw [e]
      have w1 : xe_L (zc9 (zmv μ' p') T m w L' ub (mb ||| abn)) 191 T = x := by
        show xe_L μ' 191 T = x
        rw [(j1 191 (by decide)).2.1 (by decide)]
        exact o1
      have w2 : xe_L (zr9 ν' T p' w (L' + (T + Sw))) 217 T = x := by
        show xe_L ν' 217 T = x
        rw [(j2 217 (by decide)).2.1 (by decide)]
        exact u0
      rw [w1, w2]
    · rw [(G1 191 (by decide) t).2.1 (fun w => by unfold zYt at w; omega), (G2 217 (by decide) t).2.1 (fun w => by unfold zYu at w; omega)]
      exact (n4 t (by omega)).1
  · rw [(G1 187 (by decide) i).2.1 (fun w => by unfold zYt at w; omega), (G2 213 (by decide) i).2.1 (fun w => by unfold zYu at w; omega)]
    exact n8 i hi
  · rw [zc9_o (by omega) (by omega)]
    exact (xu_In (by omega)).trans e2
  · rw [zc9_o (by omega) (by omega)]
    exact (xu_In (by omega)).trans s1
  · rw [zr9_v.2.2.1]
    congr 1
    omega
  · rw [zr9_o (by omega) (by omega) (by omega) (by omega)]
    exact s2
  · rw [gr 218 t (by decide) (by unfold zXu; omega)]
    exact d4 t ht
  · rw [Nat.testBit_or, Bool.or_eq_true, ← d5 q hq]
    constructor
    · rintro ⟨t, w1, w2, w3⟩
      by_cases e : t = T
      · rw [e, h227T q hq] at w3
        refine Or.inr ?_
        cases hbit : Nat.testBit abn q with
        | true => rfl
        | false => rw [hbit] at w3; exact absurd rfl w3
      · rw [h227 t q (by omega) hq] at w3
        exact Or.inl ⟨t, w1, by omega, w3⟩
    · rintro (⟨t, w1, w2, w3⟩ | w1)
      · exact ⟨t, w1, by omega, by rw [h227 t q w2 hq]; exact w3⟩
      · refine ⟨T, by omega, by omega, ?_⟩
        rw [h227T q hq, w1]
        decide
  · exact zOm_k (M' := m) (T' := T) (Sw' := Sw) (Sl' := Sl) hO (Nat.le_refl _) (by omega) (by omega) (by omega) (zKc_T m4 hT24 G1) (zKd_T G2) hL (by omega)
  · exact zMd_T hD m4 hT24 hT hn G1 G2 hL (by omega) ((kc _ 3 (by omega) (by omega) (by omega) (by omega) (by omega) (by omega) (by omega) (by omega) (by omega) (by omega)).trans o4) (by
      show xe_R μ' (18 + 11 * m) n = _
      rw [(j1 _ (by omega)).2.2]
      exact o5) hTs
end
