/-! statements: an assignment whole -/
section
variable {N P S Lc t m abn mb : Nat} {off a0 : Nat} {μ ν : xe_Mem} {p L ub o w p0 l : Nat} {x : Int64}
theorem z115p {v7 : Int32} (hp : p0 < 12) : zD166_115 (nI t) (nI p0) v7 ν = (zq_cI (zD146 61 ν) fun x17 m15 => if x17 = 0 then zint 0 m15 else zq_cI (zD160 (nI t) m15) fun x20 m18 => if x20 = 0 then zint 0 m18 else zq_cI (zD146 59 m18) fun x23 m21 => if x23 = 0 then zint 0 m21 else zRp t p0 m21) := by
  have hn : ¬ nI p0 < 0 := nI_pos (by omega)
  unfold zD166_115 zD166_127 zRp
  simp only [hn, if_false]
theorem z115l {l : Nat} : zD166_115 (nI t) (-1) (nI l) ν = (zq_cI (zD146 61 ν) fun x17 m15 => if x17 = 0 then zint 0 m15 else zq_cI (zD160 (nI t) m15) fun x20 m18 => if x20 = 0 then zint 0 m18 else zq_cI (zD146 59 m18) fun x23 m21 => if x23 = 0 then zint 0 m21 else zRl l m21) := by
  have hn : (-1 : Int32) < 0 := by decide
  unfold zD166_115 zD166_127 zRl
  simp only [hn, if_true]
theorem z62p {e : Nat} (hp : xe_I μ 181 6 = nI p) : zD62_89 (nI e) (nI p0) 1 μ = (zq_cV (zD41 1000016 (zmv μ p)) fun m30 => zq_cV (zE56 0 0 m30) fun m32 => zq_cI (zD58 13 (nI p0) m32) fun _ m34 => zq_cV (zD41 1000014 m34) (zKp p0)) := by
  have hn : ¬ (1 : Int32) = 0 := by decide
  unfold zD62_89 zD62_90 zD37 zD62_111
  simp only [zq_m, hn, if_false]
  rw [if_pos trivial, zcV_ok, hp, nI_1]
  rfl
theorem z62l {e : Nat} (hp : xe_I μ 181 6 = nI p) : zD62_89 (nI e) (nI l) 0 μ = (zq_cV (zD41 1000016 (zmv μ p)) fun m30 => zq_cV (zE56 0 0 m30) fun m32 => zq_cI (zD58 14 (nI l) m32) fun _ m34 => zq_cV (zD41 1000014 m34) (zKl e)) := by
  unfold zD62_89 zD62_90 zD37 zD62_111
  simp only [zq_m, if_true]
  rw [zcV_ok, hp, nI_1]
  rfl
theorem z62n {v1 v2 v3 : Int32} (h1 : (xe_sh μ).length < xg_CT) (h2 : xe_sl μ + 6 ≤ xg_ST) : zD62_87 v1 v2 v3 μ = zq_thr 12 μ := by
  unfold zD62_87 zD62_90 zD37
  rw [if_neg (by decide), zthr h1 h2, zcV_no]
theorem zAs_f {μ1 ν1 μ' ν' : xe_Mem} (h : zAs N P S t m mb abn off a0 o w μ1 ν1 μ' ν' (p + 1) L) (h1 : zfJ (zXct t L) 183 μ μ1) (h2 : zfJ (zXra t (L + off) o) 241 ν ν1) (h3 : xe_sh μ1 = xe_sh μ) (h4 : xe_sl μ1 = xe_sl μ) : zAs N P S t m mb abn off a0 o w μ ν μ' ν' p L := by
  obtain ⟨p', L', ub', Lc', abn', a1, a2, a3, a4, a5, a6, a7, a8, a9, a10, a11, a12⟩ := h
  exact ⟨p', L', ub', Lc', abn', a1, a2, by omega, a4, by omega, a6, a7, zfJ_t h1 a8, zfJ_t h2 a9, a10, a11.trans h3, a12.1.trans h4, a12.2⟩
theorem z87f {v1 : Int32} {v5 v7 : Int32} : zD166_87 v1 x v5 0 v7 ν = zint 0 (xe_setI ν 203 11 1) := by
  unfold zD166_87
  rw [z143f, zcI_ok, if_pos rfl]
/-- an assignment -/
theorem z_asg (h : zQ N P S Lc t true off a0 (Nat.testBit abn) μ ν p L ub) (hRt : zRt μ) (ha : zTa μ ν t m Lc abn mb) (h8 : xe_I μ 181 8 = 0) {pl : Nat} (hk : zTk μ ν p 25 pl) (hN : p + 1 < N) (ho : xe_I ν 203 53 = nI (o + 1)) (ho8 : o < 8) (hw : xe_I ν 245 o = nI w) :
    (∃ μ' ν', zD62 μ = some (.inl none, μ') ∧ zD166 (nI t) (nI m) ν = zint 1 ν' ∧ zAs N P S t m mb abn off a0 o w μ ν μ' ν' p L) ∨ zFx N μ ν (zD62 μ) (zD166 (nI t) (nI m) ν) := by
  obtain ⟨hx, e1, e2, e3, r1, r2, hcd, hub, b1, b2, b3, b4, b5, b6⟩ := id h
  obtain ⟨h1, h2, h3, h4, h5, h6, h7, h8', h9, h10, h11, h12, h13⟩ := id ha
  have hN2 := hx.1.2.1
  have hm := hx.2.1
  obtain ⟨m1, m2, m3, m4, m5, m6, m7, m8, m9, m10, m11, m12⟩ := id hm
  have hwx := zRk_n hk.2.2.2.2 rfl
  have hbad := hx.2.2.2.1.2
  have hC : zD62 μ = zq_cI (zD39 182 (xe_L μ 6 p) μ) (fun x12 m10 => if 0 ≤ x12 then zD62_53 x12 m10 else zq_s (xe_R m10 181 11) fun b51 => zq_o b51 8 <| if (xe_I m10 b51 5) = 6 then zD62_28 1 m10 else zD62_28 0 m10) := by
    unfold zD62 zD62_7 zD37
    rw [show zD35 1000026 μ = _ from z35 e1 (by omega) hk.1 (by decide) (K := 25) (by decide), zcI_ok, decide_eq_true rfl, if_neg (show ¬ zb01 true = 0 by decide), if_pos rfl, zcV_ok, e1, zx_nI (show p < 3001 by omega) (by decide)]
  have hR : zD166 (nI t) (nI m) ν = zq_cI (zD144 (xe_L μ 6 p) ν) (fun x8 m6 => zq_cI (zD145 (xe_L μ 6 p) m6) fun x11 m9 => if 0 ≤ x11 then zD166_17 (nI t) (nI m) (xe_L μ 6 p) x8 0 m9 else zD166_17 (nI t) (nI m) (xe_L μ 6 p) x8 1 m9) := by
    unfold zD166
    rw [r1, zx_nI (show p < 3002 by omega) (by decide), hwx]
    rfl
  have hno : zD62 μ = zq_thr 12 μ → zD166 (nI t) (nI m) ν = zint 0 (xe_setI ν 203 11 1) → zFx N μ ν (zD62 μ) (zD166 (nI t) (nI m) ν) := fun q1 q2 => zFx_l (zQ_no h q1 q2)
  have G1 : zfJ (zXct t L) 183 μ (zmv μ p) := zfJ_w (zfJ_I zmv_f) zXct_c
  have G2 : zfJ (zXra t (L + off) o) 241 ν (zrmv ν p) := zfJ_w (zfJ_I zrmv_f) zXra_r
  have q1 := zQ_mv h hN
  have t1 := zTa_f ha (zmv_f (L := L) (p := p)) (zrmv_f (U := L + off) (t := t) (p := p))
  have o1 : xe_I (zrmv ν p) 203 53 = nI (o + 1) := (xu_In (by omega)).trans ho
  have w1 : xe_I (zrmv ν p) 245 o = nI w := (xu_In (by omega)).trans hw
  have k8 : xe_I (zmv μ p) 181 8 = 0 := (xu_In (by omega)).trans h8
  rcases z_look (x := xe_L μ 6 p) hm hx.2.2.1 with ⟨e, p0, u1, u2, u3, u4, u5, u6, u7, u8⟩ | ⟨e, s, u1, u2, u3, u4, u5, u6, u7, u8⟩ | ⟨l, u1, u2, u3, u4, u5, u6⟩ | ⟨u1, u2, u3, u4, u5⟩
  · -- a port
    have hCa : zD62 μ = if Nat.testBit mb p0 = true then zq_thr 12 μ else zD62_89 (nI e) (nI p0) 1 μ := by
      rw [hC, u3, zcI_ok, if_pos (nI_pos' (by omega))]
      unfold zD62_53
      simp only [zq_vI]
      rw [zx_nI (show e < 22 by omega) (by decide), u5, zx_nI (show e < 22 by omega) (by decide), u4, if_pos rfl]
      unfold zD62_69
      rw [zx_nI (show e < 22 by omega) (by decide), u4, if_neg (by decide), if_neg (by decide), h4, zs_some, zo_in (zS_mode m h2) (by omega), h10]
      by_cases hb : Nat.testBit mb p0 = true
      · rw [if_neg (fun q => by
          have := (zbit h11 (show p0 < 12 by omega)).mp q
          rw [hb] at this
          cases this), if_pos hb, z62n hx.2.2.2.2.1 hx.2.2.2.2.2]
      · rw [if_pos ((zbit h11 (show p0 < 12 by omega)).mpr (by
          cases e : Nat.testBit mb p0 with
          | false => rfl
          | true => exact absurd e hb)), if_neg hb]
    have hRa : zD166 (nI t) (nI m) ν = zD166_87 (nI t) (xe_L μ 6 p) (nI p0) (zb01 (decide (¬ Nat.testBit mb p0 = true))) (-1) ν := by
      rw [hR, u6, zcI_ok, u7, zcI_ok, if_neg (by decide)]
      show zD166_20 zfu (nI t) (nI m) (xe_L μ 6 p) (nI p0) (zb01 true) (nI 0) ν = _
      rw [z166p h12 (by omega) (by omega) h2 t zfu 0 true (by omega) (zfu_lt (by omega)), Bool.true_and]
      unfold zE20
      rw [if_pos (nI_pos' (by omega))]
      congr 2
      by_cases hb : Nat.testBit mb p0 = true
      · rw [decide_eq_false (fun q => q hb)]
        cases ez : zall (fun k => decide (¬ (xe_I ν 218 k = nI m ∧ ¬ xe_I ν 227 (12 * k + p0) = 0))) t 0 with
        | false => rfl
        | true =>
          obtain ⟨k, c1, c2, c3⟩ := (h13 p0 (by omega)).mpr hb
          exact absurd ⟨c2, c3⟩ (of_decide_eq_true ((zall_t t 0).mp ez k (by omega) (by omega)))
      · rw [decide_eq_true hb]
        exact (zall_t t 0).mpr (fun i c1 c2 => decide_eq_true (fun q => hb ((h13 p0 (by omega)).mp ⟨i, by omega, q⟩)))
    by_cases hb : Nat.testBit mb p0 = true
    · rw [if_pos hb] at hCa
      rw [decide_eq_false (fun q => q hb)] at hRa
      exact Or.inr (hno hCa (hRa.trans z87f))
    · rw [if_neg hb, z62p e1] at hCa
      rw [decide_eq_true hb] at hRa
      have hRb : zD166 (nI t) (nI m) ν = zD166_115 (nI t) (nI p0) (-1) (zrmv ν p) := by
        rw [hRa]
        unfold zD166_87
        rw [show zD143 (zb01 true) ν = _ from z143t r1 hbad, zcI_ok, if_neg (by decide), if_pos (nI_pos' (by omega))]
      rw [hCa, hRb, z115p (by omega)]
      rcases z_endP q1 t1 k8 u2 o1 ho8 w1 (Bool.eq_false_iff.mpr hb) with ⟨μ', ν', y1, y2, y3⟩ | hfx
      · exact Or.inl ⟨μ', ν', y1, y2, zAs_f y3 G1 G2 rfl rfl⟩
      · exact Or.inr (zFx_f hfx (zG_J G1) (zGr_J G2) rfl rfl)
  · -- a sensor
    refine Or.inr (hno ?_ ?_)
    · rw [hC, u3, zcI_ok, if_pos (nI_pos' (by omega))]
      unfold zD62_53
      simp only [zq_vI]
      rw [zx_nI (show e < 22 by omega) (by decide), u5, zx_nI (show e < 22 by omega) (by decide), u4, if_neg (by decide)]
      unfold zD62_69
      rw [zx_nI (show e < 22 by omega) (by decide), u4, if_pos rfl, z62n hx.2.2.2.2.1 hx.2.2.2.2.2]
    · rw [hR, u6, zcI_ok, u7, zcI_ok, if_pos (nI_pos' (by omega))]
      show zD166_20 zfu (nI t) (nI m) (xe_L μ 6 p) (-1) (zb01 false) (nI 0) ν = _
      rw [z166n h12 (by omega) t zfu 0 (by omega) (zfu_lt (by omega))]
      unfold zE20
      rw [if_neg (by decide), if_pos (by decide)]
      exact z87f
  · -- a local
    obtain ⟨c1, c2, c3, c4⟩ := m11 l u1
    have hCa : zD62 μ = zD62_89 (nI (P + S + l)) (nI l) 0 μ := by
      rw [hC, u2, zcI_ok, if_pos (nI_pos' (by omega))]
      unfold zD62_53
      simp only [zq_vI]
      have n2 : ¬ xe_I μ 184 (P + S + l) = 2 := by rcases c4 with ⟨c, -⟩ | ⟨c, -⟩ <;> rw [c] <;> decide
      have n3 : ¬ xe_I μ 184 (P + S + l) = 3 := by rcases c4 with ⟨c, -⟩ | ⟨c, -⟩ <;> rw [c] <;> decide
      rw [zx_nI (show P + S + l < 22 by omega) (by decide), c3, zx_nI (show P + S + l < 22 by omega) (by decide), if_neg n2]
      unfold zD62_69
      rw [zx_nI (show P + S + l < 22 by omega) (by decide), if_neg n3, if_pos rfl]
    have hRa : zD166 (nI t) (nI m) ν = zD166_115 (nI t) (-1) (nI l) (zrmv ν p) := by
      rw [hR, u4, zcI_ok, u5, zcI_ok, if_neg (by decide)]
      show zD166_20 zfu (nI t) (nI m) (xe_L μ 6 p) (-1) (zb01 true) (nI 0) ν = _
      rw [z166n h12 (by omega) t zfu 0 (by omega) (zfu_lt (by omega))]
      unfold zE20
      rw [if_neg (by decide), if_neg (by decide), show zD166_57 zfu (nI t) (xe_L μ 6 p) (-1) (zb01 true) (-1) 0 ν = _ from z166l h1 h6 m3 Lc zfu 0 (-1) (by omega) (zfu_lt (by omega)), zlast_one (E := fun k => decide (xe_L ν 241 k = xe_L μ 6 p)) (z := l) (decide_eq_true u3) Lc 0 (-1) (by omega) (by omega) (fun y d1 d2 d3 => u6 y (by omega) (of_decide_eq_true d3))]
      unfold zE57 zD166_87
      rw [if_pos (nI_pos' (by omega)), show zD143 (zb01 true) ν = _ from z143t r1 hbad, zcI_ok, if_neg (by decide), if_neg (by decide), if_pos (nI_pos' (by omega))]
    rw [hCa, hRa, z62l e1, z115l]
    rcases z_endL q1 t1 k8 u1 o1 ho8 w1 with ⟨μ', ν', y1, y2, y3⟩ | hfx
    · exact Or.inl ⟨μ', ν', y1, y2, zAs_f y3 G1 G2 rfl rfl⟩
    · exact Or.inr (zFx_f hfx (zG_J G1) (zGr_J G2) rfl rfl)
  · -- a new local
    have hCa : zD62 μ = if Lc = 6 then zD62_28 1 μ else zD62_28 0 μ := by
      rw [hC, u1, zcI_ok, if_neg (by decide), h3, zs_some, zo_in (zS_task t h1) (by omega), h5]
      have c6 : (nI Lc = (6 : Int32)) = (Lc = 6) := zi_eq (b := 6) (by omega) (by decide)
      by_cases h66 : Lc = 6
      · rw [if_pos (c6.mpr h66), if_pos h66]
      · rw [if_neg (fun e => h66 (c6.mp e)), if_neg h66]
    have hRa : zD166 (nI t) (nI m) ν = zE57 (nI t) (xe_L μ 6 p) (-1) 1 (-1) Lc ν := by
      rw [hR, u2, zcI_ok, u3, zcI_ok, if_neg (by decide)]
      show zD166_20 zfu (nI t) (nI m) (xe_L μ 6 p) (-1) (zb01 true) (nI 0) ν = _
      rw [z166n h12 (by omega) t zfu 0 (by omega) (zfu_lt (by omega))]
      unfold zE20
      rw [if_neg (by decide), if_neg (by decide), show zD166_57 zfu (nI t) (xe_L μ 6 p) (-1) (zb01 true) (-1) 0 ν = _ from z166l h1 h6 m3 Lc zfu 0 (-1) (by omega) (zfu_lt (by omega)), zlast_no Lc 0 (fun y d1 d2 => decide_eq_false (u4 y (by omega)))]
      rfl
    unfold zE57 at hRa
    rw [if_neg (by decide)] at hRa
    by_cases h66 : Lc = 6
    · rw [if_pos h66] at hCa hRa
      refine Or.inr (hno ?_ hRa)
      rw [hCa]
      unfold zD62_28 zD37
      rw [if_neg (by decide), zthr hx.2.2.2.2.1 hx.2.2.2.2.2, zcV_no]
    · rw [if_neg h66] at hCa hRa
      let μn : xe_Mem := xe_setI (znew μ (P + S + Lc) Lc (xe_L μ 6 p)) (61 + 5 * t) 5 (nI (Lc + 1))
      let νn : xe_Mem := xe_setI (xe_setL (zrmv ν p) 241 Lc (xe_L μ 6 p)) 223 t (nI (Lc + 1))
      have kC : ∀ a j, a ≠ 182 → a ≠ 184 → a ≠ 185 → (a ≠ 61 + 5 * t ∨ j ≠ 5) → xe_I μn a j = xe_I μ a j := fun a j d1 d2 d3 d4 => by
        show xe_I (xe_setI (xe_setI (xe_setI (xe_setI (xe_setL μ 183 (P + S + Lc) (xe_L μ 6 p)) 184 (P + S + Lc) 0) 185 (P + S + Lc) (nI Lc)) 182 3 (nI (P + S + Lc + 1))) (61 + 5 * t) 5 (nI (Lc + 1))) a j = _
        rw [xu_In (by omega), xu_In (by omega), xu_In (by omega), xu_In (by omega)]
      have kR : ∀ a j, (a ≠ 203 ∨ j ≠ 10) → (a ≠ 223 ∨ j ≠ t) → xe_I νn a j = xe_I ν a j := fun a j d1 d2 => by
        show xe_I (xe_setI (xe_setL (zrmv ν p) 241 Lc (xe_L μ 6 p)) 223 t (nI (Lc + 1))) a j = _
        rw [xu_In (by omega)]
        exact xu_In (by omega)
      have kM : ∀ a j, (a ≠ 181 ∨ j ≠ 6) → xe_I (zmv μn p) a j = xe_I μn a j := fun a j d1 => xu_In (by omega)
      have w4 : xe_I μn 184 = va_up (xe_I μ 184) (P + S + Lc) 0 := by
        show xe_I (xe_setI (xe_setI (xe_setI (xe_setI (xe_setL μ 183 (P + S + Lc) (xe_L μ 6 p)) 184 (P + S + Lc) 0) 185 (P + S + Lc) (nI Lc)) 182 3 (nI (P + S + Lc + 1))) (61 + 5 * t) 5 (nI (Lc + 1))) 184 = _
        rw [zr_II, if_neg (by omega), zr_II, if_neg (by decide), zr_II, if_neg (by decide), zr_II, if_pos rfl]
      have w5 : xe_I μn 185 = va_up (xe_I μ 185) (P + S + Lc) (nI Lc) := by
        show xe_I (xe_setI (xe_setI (xe_setI (xe_setI (xe_setL μ 183 (P + S + Lc) (xe_L μ 6 p)) 184 (P + S + Lc) 0) 185 (P + S + Lc) (nI Lc)) 182 3 (nI (P + S + Lc + 1))) (61 + 5 * t) 5 (nI (Lc + 1))) 185 = _
        rw [zr_II, if_neg (by omega), zr_II, if_neg (by decide), zr_II, if_pos rfl, zr_II, if_neg (by decide)]
      have w2 : xe_I μn 182 3 = nI (P + S + Lc + 1) := by
        show xe_I (xe_setI (xe_setI (xe_setI (xe_setI (xe_setL μ 183 (P + S + Lc) (xe_L μ 6 p)) 184 (P + S + Lc) 0) 185 (P + S + Lc) (nI Lc)) 182 3 (nI (P + S + Lc + 1))) (61 + 5 * t) 5 (nI (Lc + 1))) 182 3 = _
        rw [xu_In (by omega)]
        exact xu_I
      have wL : xe_L μn 183 = va_up (xe_L μ 183) (P + S + Lc) (xe_L μ 6 p) := by
        show xe_L (xe_setL μ 183 (P + S + Lc) (xe_L μ 6 p)) 183 = _
        rw [zr_LL, if_pos rfl]
      have hCb : zD62 μ = zD62_89 (nI (P + S + Lc)) (nI Lc) 0 μn := by
        rw [hCa]
        unfold zD62_28 zD37
        simp only [zq_vI, zq_m]
        have e5 : xe_I (znew μ (P + S + Lc) Lc (xe_L μ 6 p)) (61 + 5 * t) 5 = nI Lc := by
          unfold znew
          rw [xu_In (by omega), xu_In (by omega), xu_In (by omega)]
          exact h5
        rw [if_pos trivial, zcV_ok, m4, e1, zx_nI (show p < 3001 by omega) (by decide), h3, zs_some, zo_in (zS_task t h1) (by omega), h5, z40 hRt m4 (by omega), zcV_ok, show xe_R (znew μ (P + S + Lc) Lc (xe_L μ 6 p)) 181 11 = some (61 + 5 * t) from h3, zs_some, zo_in (zS_task t h1) (by omega), e5, nI_1]
        show zD62_53 (nI (P + S + Lc)) μn = _
        unfold zD62_53
        simp only [zq_vI]
        rw [zx_nI (show P + S + Lc < 22 by omega) (by decide), zx_nI (show P + S + Lc < 22 by omega) (by decide), w4, w5, va_up_self, va_up_self, if_neg (by decide)]
        unfold zD62_69
        rw [zx_nI (show P + S + Lc < 22 by omega) (by decide), w4, va_up_self, if_neg (by decide), if_pos rfl]
      have hRb : zD166 (nI t) (nI m) ν = zD166_115 (nI t) (-1) (nI Lc) νn := by
        rw [hRa]
        unfold zD166_87
        simp only [zq_vI, zq_m]
        have d1 : xe_I (zrmv ν p) 223 t = nI Lc := (xu_In (by omega)).trans h6
        rw [show zD143 1 ν = _ from z143t r1 hbad, zcI_ok, if_neg (by decide), if_neg (by decide), if_neg (by decide), zx_nI (show t < 24 by omega) (by decide), d1, zx_nI (show Lc < 6 by omega) (by decide), zx_nI (show t < 24 by omega) (by decide), zx_nI (show t < 24 by omega) (by decide), show xe_I (xe_setL (zrmv ν p) 241 Lc (xe_L μ 6 p)) 223 t = nI Lc from d1, nI_1]
      have F1 : zfJ (zXct t L) 183 μ (zmv μn p) := by
        refine zfJ_t (μ1 := xe_setL μ 183 (P + S + Lc) (xe_L μ 6 p)) zfJ_L (zfJ_I (zfI_t (zfI_t (zfI_t (zfI_t (zfI_t (zfI_s ?_) (zfI_s ?_)) (zfI_s ?_)) (zfI_s ?_)) (zfI_s ?_)) zfI_rfl))
        · unfold zXct; simp
        · unfold zXct; simp
        · unfold zXct; simp
        · unfold zXct; simp
        · unfold zXct zXc; simp
      have F2 : zfJ (zXra t (L + off) o) 241 ν νn := by
        refine zfJ_t G2 (zfJ_t (μ1 := xe_setL (zrmv ν p) 241 Lc (xe_L μ 6 p)) zfJ_L (zfJ_I (zfI_s ?_)))
        unfold zXra
        simp
      have hz : zQ N P S (Lc + 1) t true off a0 (Nat.testBit abn) (zmv μn p) νn (p + 1) L ub := by
        refine ⟨⟨?_, ?_, hx.2.2.1, ⟨hx.2.2.2.1.1, ?_⟩, hx.2.2.2.2.1, hx.2.2.2.2.2⟩, xu_I, ?_, ?_, ?_, ?_, fun i d1 d2 => ?_, fun htk q hq => ?_, hN, by omega, b3, b4, b5, b6⟩
        · refine zTE_k hx.1 (fun a ha => ⟨funext fun j => by rw [kM a j (by omega), kC a j (by omega) (by omega) (by omega) (by omega)], ?_, rfl⟩) (fun a ha => ⟨funext fun j => kR a j (by omega) (by omega), ?_⟩)
          · show xe_L (xe_setL μ 183 (P + S + Lc) (xe_L μ 6 p)) a = _
            rw [zr_LL, if_neg (by omega)]
          · show xe_L (xe_setL (zrmv ν p) 241 Lc (xe_L μ 6 p)) a = _
            rw [zr_LL, if_neg (by omega)]
            rfl
        · refine zNm_new hm (by omega) u5 wL (by rw [← w4]; exact funext fun j => kM 184 j (by omega)) (by rw [← w5]; exact funext fun j => kM 185 j (by omega)) ((kM 182 3 (by omega)).trans w2) (kR 203 12 (by omega) (by omega)) (kR 203 15 (by omega) (by omega)) ?_ ?_ ?_ (funext fun j => kR 242 j (by omega) (by omega))
          · show xe_L (xe_setL (zrmv ν p) 241 Lc (xe_L μ 6 p)) 210 = _
            rw [zr_LL, if_neg (by omega)]
            rfl
          · show xe_L (xe_setL (zrmv ν p) 241 Lc (xe_L μ 6 p)) 212 = _
            rw [zr_LL, if_neg (by omega)]
            rfl
          · show xe_L (xe_setL (zrmv ν p) 241 Lc (xe_L μ 6 p)) 241 = _
            rw [zr_LL, if_pos rfl]
            rfl
        · rw [kR 203 11 (by omega) (by omega)]; exact hbad
        · rw [kM 8 2 (by omega), kC 8 2 (by omega) (by omega) (by omega) (by omega)]; exact e2
        · rw [kM 181 9 (by omega), kC 181 9 (by omega) (by omega) (by omega) (by omega)]; exact e3
        · show xe_I (xe_setI (xe_setL (zrmv ν p) 241 Lc (xe_L μ 6 p)) 223 t (nI (Lc + 1))) 203 10 = _
          rw [xu_In (by omega)]
          show xe_I (zrmv ν p) 203 10 = _
          exact xu_I
        · rw [kR 203 47 (by omega) (by omega)]; exact r2
        · rw [kM 9 i (by omega), kM 10 i (by omega), kC 9 i (by omega) (by omega) (by omega) (by omega), kC 10 i (by omega) (by omega) (by omega) (by omega), kR 239 (i + off) (by omega) (by omega), kR 240 (i + off) (by omega) (by omega)]
          exact hcd i d1 d2
        · rw [kR 226 (12 * t + q) (by omega) (by omega)]
          exact hub htk q hq
      have ht : zTa (zmv μn p) νn t m (Lc + 1) abn mb := by
        refine ⟨h1, h2, h3, h4, ?_, xu_I, ?_, h8', fun q hq => ?_, ?_, h11, ?_, fun q hq => ?_⟩
        · rw [kM (61 + 5 * t) 5 (by omega)]; exact xu_I
        · rw [kM (61 + 5 * t) 6 (by omega), kC (61 + 5 * t) 6 (by omega) (by omega) (by omega) (by omega)]; exact h7
        · rw [kR 227 (12 * t + q) (by omega) (by omega)]; exact h9 q hq
        · rw [kM (17 + 11 * m) 4 (by omega), kC (17 + 11 * m) 4 (by omega) (by omega) (by omega) (by omega)]; exact h10
        · rw [kR 203 22 (by omega) (by omega)]; exact h12
        · rw [show xe_I νn 218 = xe_I ν 218 from funext fun j => kR 218 j (by omega) (by omega), show xe_I νn 227 = xe_I ν 227 from funext fun j => kR 227 j (by omega) (by omega)]
          exact h13 q hq
      rw [hCb, hRb, z62l (μ := μn) ((kC 181 6 (by omega) (by omega) (by omega) (by omega)).trans e1), z115l]
      rcases z_endL (l := Lc) hz ht ((kM 181 8 (by omega)).trans ((kC 181 8 (by omega) (by omega) (by omega) (by omega)).trans h8)) (by omega) ((kR 203 53 (by omega) (by omega)).trans ho) ho8 ((kR 245 o (by omega) (by omega)).trans hw) with ⟨μ', ν', y1, y2, y3⟩ | hfx
      · exact Or.inl ⟨μ', ν', y1, y2, zAs_f y3 F1 F2 rfl rfl⟩
      · exact Or.inr (zFx_f hfx (zG_J F1) (zGr_J F2) rfl rfl)
end
