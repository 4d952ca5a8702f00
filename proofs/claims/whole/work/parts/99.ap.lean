/-! reading a mode: its head -/
def zc44b (m5 : xe_Mem) : zO := zq_cI (zD42 1 120 m5) fun x9 m7 => zq_cR (zD45 x9 m7) fun x12 m10 => zq_m (xe_setR m10 181 10 (some x12)) fun m13 => zq_cV (zD41 1000012 m13) fun m15 => zD44_32 zfu 0 m15
def zr51b (x22 : Int32) (m29 : xe_Mem) : zO := zq_cI (zD148 1 120 m29) fun x33 m31 => if x33 = 0 then some (.inl (some (.int 0)), m31) else zq_cI (zD149 m31) fun x36 m34 => zq_x x22 4 fun j37 => zq_m (xe_setI m34 214 j37 x36) fun m41 => zq_cI (zD146 123 m41) fun x45 m43 => if x45 = 0 then some (.inl (some (.int 0)), m43) else zq_vI (xe_I m43 203 22) fun x46 => zD151_77 zfu x22 x46 m43
section
variable {N P S T p p2 M Sw Sl L st : Nat} {μ ν μ2 ν2 : xe_Mem} {x : Int64}
/-- a mode's head is read -/
def zHO (N P S M : Nat) (μ ν : xe_Mem) (p T Sw Sl L st : Nat) (A B : zO) : Prop := (∃ μ' ν' p' per, A = zD44_32 zfu 0 μ' ∧ B = zD151_77 zfu (nI M) (nI T) ν' ∧ zIM N P S M T Sw Sl μ' ν' p' T Sw Sl L st 0 per ∧ p < p' ∧ zW μ ν μ' ν') ∨ zFx N μ ν A B
theorem z_mh2 (h : zBM N P S M μ ν p T Sw Sl L st) (hM : M < 4) (hP2 : zPo N μ2 ν2 p2) (hp : p < p2) (hR2 : zRt μ2) (hW2 : zW μ ν μ2 ν2) (G1 : zfG (zXh M) (zYh M) zZh μ μ2) (G2 : zfG (zXg M) (zYg M) zZu ν ν2) (c186 : xe_I μ2 186 3 = nI (M + 1)) (c76 : xe_I μ2 7 6 = nI M) (c17 : xe_I ν2 203 17 = nI (M + 1)) (cn : xe_L μ2 187 M = xe_L ν2 213 M) : zHO N P S M μ ν p T Sw Sl L st (zc44b μ2) (zr51b (nI M) ν2) := by
  unfold zc44b zr51b
  rcases zt_num hP2 (lo := 1) (hi := 120) (by decide) (by decide) with ⟨per, hN, x1, x2, a1, a2, a3, a4⟩ | hf
  · have hP3 := zPo_mv hP2 hN
    have k149 : zD149 (zrmv ν2 p2) = zint (nI per) (zrmv ν2 p2) := z149 (p := p2) xu_I a4 a3 (by omega)
    have hP4 : zPo N (zc45 (zmv μ2 p2) M per) (xe_setI (zrmv ν2 p2) 214 M (nI per)) (p2 + 1) := zPo_k (zPo_c45 (per := per) hM hP3) (fun _ _ => ⟨rfl, rfl, rfl⟩) (fun a ha => ⟨funext fun j => xu_In (by omega), rfl⟩) rfl ⟨xu_In (by omega), xu_In (by omega)⟩ rfl rfl rfl
    have hW4 : zW μ ν (zc45 (zmv μ2 p2) M per) (xe_setI (zrmv ν2 p2) 214 M (nI per)) := zW_t hW2 (zW_t zW_mv (zW_t (zW_c45 hM) (zW_rI ⟨by omega, by omega⟩)))
    have h22 : xe_I (zrmv (xe_setI (zrmv ν2 p2) 214 M (nI per)) (p2 + 1)) 203 22 = nI T := by
      unfold zrmv
      rw [xu_In (by omega), xu_In (by omega), xu_In (by omega), (G2 203 (by decide) 22).1 (by unfold zXg; omega)]
      exact h.2.2.1.1.2.2.1
    rw [show zD42 1 120 μ2 = _ from a1, zcI_ok, z45 (μ := zmv μ2 p2) hR2 hM ((xu_In (by omega)).trans c76), zcR_ok, show zD148 1 120 ν2 = _ from a2, zcI_ok, if_neg (show ¬ (1 : Int32) = 0 by decide), k149, zcI_ok, zx_nI hM (by decide)]
    simp only [zq_m, zq_vI]
    rcases zt_sign hP4 (K := 11) (by decide) (by decide) with ⟨hN2, w1, w2⟩ | hf
    · have w1' : zD41 1000012 (xe_setR (xe_setI (zc20 (zc46 (zmv μ2 p2) M per) M 120) 7 6 (nI (M + 1))) 181 10 (some (17 + 11 * M))) = some (.inl none, zmv (zc45 (zmv μ2 p2) M per) (p2 + 1)) := w1
      have w2' : zD146 123 (xe_setI (zrmv ν2 p2) 214 M (nI per)) = zint 1 (zrmv (xe_setI (zrmv ν2 p2) 214 M (nI per)) (p2 + 1)) := w2
      rw [w1', zcV_ok, w2', zcI_ok, if_neg (show ¬ (1 : Int32) = 0 by decide), h22]
      obtain ⟨v1, v2, v3, v4, v5, v6, v7, v8⟩ := zc45_v (μ := zmv μ2 p2) (m := M) (per := per)
      have kz : ∀ c j, (c ≠ 181 ∨ j ≠ 6) → xe_I (zmv (zc45 (zmv μ2 p2) M per) (p2 + 1)) c j = xe_I (zc45 (zmv μ2 p2) M per) c j := fun c j q => xu_In (by omega)
      refine Or.inl ⟨_, _, p2 + 1 + 1, per, rfl, rfl, zIM_0 (per := per) h hM (zPo_mv hP4 hN2) (by omega) (zRt_sI (zRt_c45 hR2)) ?_ ?_ x1 x2 ?_ ((kz 7 6 (by omega)).trans v1) ?_ ?_ v8 ((kz _ 1 (by omega)).trans v2) ((kz _ 3 (by omega)).trans v3) ((kz _ 4 (by omega)).trans v4) ((kz _ 6 (by omega)).trans v5) ((kz _ 10 (by omega)).trans v6) (fun k hk => (kz _ k (by omega)).trans (v7 k hk)) ?_, by omega, zW_t hW4 zW_mv⟩
      · refine zfG_t (zfG_t (zfG_t G1 (zfG_I (by unfold zXh; omega))) (fun a ha j => ⟨fun q => zc45_o (by unfold zXh at q; omega) (by unfold zXh at q; omega) (by unfold zXh at q; omega), fun _ => by rw [zc45_L], fun q => zc45_R (by unfold zZh at q; omega)⟩)) (zfG_I (by unfold zXh; omega))
      · refine zfG_t (zfG_t (zfG_t G2 (zfG_I (by unfold zXg; omega))) (zfG_I (by unfold zXg; omega))) (zfG_I (by unfold zXg; omega))
      · rw [kz 186 3 (by omega), zc45_o (by omega) (by omega) (by omega)]
        exact (xu_In (by omega)).trans c186
      · unfold zrmv
        rw [xu_In (by omega), xu_In (by omega), xu_In (by omega)]
        exact c17
      · show xe_L (zc45 (zmv μ2 p2) M per) 187 M = _
        rw [zc45_L]
        exact cn
      · exact (xu_In (by omega)).trans xu_I
    · exact Or.inr (zFx_w hW4 (zFx_cV (zFx_b hf)))
  · exact Or.inr (zFx_w hW2 (zFx_cI (zFx_b hf)))
theorem z_mhead (h : zBM N P S M μ ν p T Sw Sl L st) : zHO N P S M μ ν p T Sw Sl L st (zD44 μ) (zD151 ν) := by
  obtain ⟨hP, hK, hNn, hC, ⟨m4, f6, k4, s120⟩, hlow, hO⟩ := id h
  have hR := hK.1
  obtain ⟨⟨n1, n2, n3, n4⟩, ⟨n5, n6, n7, n8⟩⟩ := id hNn
  obtain ⟨q, pl, t1, t2, t3, t4⟩ := zPo_tok hP
  obtain ⟨hx, e1, f1, b1, b2, b3, b4, b5, b6⟩ := id hP
  have h11 : zD151_11 ν = zint 0 (xe_setI ν 203 11 1) := by
    unfold zD151_11 zD151_12
    rw [z143f, zcI_ok, if_pos rfl]
  have hr2 : zD151 ν = if q = 2 ∧ M < 4 then zD151_12 1 ν else zint 0 (xe_setI ν 203 11 1) := by
    unfold zD151
    rw [show zD141 2 ν = _ from z141 f1 t4 t3 (K := 2) (by decide), zcI_ok, n7]
    by_cases e : q = 2
    · rw [decide_eq_true e, if_neg (show ¬ zb01 true = 0 by decide)]
      by_cases hM : M < 4
      · rw [if_neg (show ¬ (4 : Int32) ≤ nI M from nI_ge (b := 4) hM (by decide)), if_pos ⟨e, hM⟩]
      · rw [if_pos (show (4 : Int32) ≤ nI M from nI_le (a := 4) (by omega) (by omega)), if_neg (fun w => hM w.2)]
        exact h11
    · rw [decide_eq_false e, if_pos (show zb01 false = 0 by decide), if_neg (fun w => e w.1)]
      exact h11
  rw [hr2]
  by_cases hM : M < 4
  · have hc2 : zD44 μ = zq_cV (if q = 2 then some (.inl none, zmv μ p) else zq_thr 12 μ) fun m3 => zq_cV (zD38 186 0 0 m3) fun m5 => zc44b m5 := by
      unfold zD44
      rw [n6, if_neg (show ¬ nI M = 4 from fun w => by rw [show (4 : Int32) = nI 4 from rfl, zi_eq (by omega) (by omega)] at w; omega)]
      unfold zD44_8
      rw [z37_0, zcV_ok, show zD41 1000003 μ = _ from z41 e1 t4 t3.1 t1 (K := 2) (by decide)]
      rfl
    rw [hc2]
    by_cases e : q = 2
    · have hN : p + 1 < N := t2.mp (by omega)
      rw [if_pos e, if_pos ⟨e, hM⟩, zcV_ok]
      unfold zD151_12
      rw [z143t f1 b2, zcI_ok, if_neg (show ¬ (1 : Int32) = 0 by decide)]
      have hP1 := zPo_mv hP hN
      obtain ⟨q1, pl1, u1, u2, u3, u4⟩ := zPo_tok hP1
      obtain ⟨hx1, e11, f11, b11, b12, b13, b14, b15, b16⟩ := id hP1
      have hna : zNa 186 4 := Or.inr (Or.inl ⟨rfl, rfl⟩)
      have k17 : xe_I (zrmv ν p) 203 17 = nI M := (xu_In (by omega)).trans n7
      have k186 : xe_I (zmv μ p) 186 3 = nI M := (xu_In (by omega)).trans n5
      have h36 : ∀ x, zD151_36 x (zrmv ν p) = zint 0 (xe_setI (zrmv ν p) 203 11 1) := fun x => by
        unfold zD151_36 zD151_37
        rw [z143f, zcI_ok, if_pos rfl]
      rw [f11, zx_nI (show p + 1 < 3002 by omega) (by decide)]
      simp only [zq_vL]
      rw [zx_nI (show p + 1 < 3002 by omega) (by decide), show xe_I (zrmv ν p) 207 (p + 1) = nI (zkr q1) from zRk_k u3.2.2.2.2]
      have hno : (¬ q1 = 25 ∨ ∃ i, i < M ∧ xe_L ν 213 i = xe_L ν 209 (p + 1)) → zHO N P S M μ ν p T Sw Sl L st (zq_cV (zD38 186 0 0 (zmv μ p)) fun m5 => zc44b m5) (zint 0 (xe_setI (zrmv ν p) 203 11 1)) := fun w => by
        refine Or.inr (zFx_w zW_mv (zFx_cV (zPo_no hP1 ?_ rfl)))
        refine z38n hna hR e11 u4 u3.1 u1 k186 (by omega) (zthr b14 b15) ?_
        rcases w with w | ⟨i, w1, w2⟩
        · exact Or.inl w
        · by_cases e25 : q1 = 25
          · refine Or.inr ⟨i, w1, ?_⟩
            show xe_L μ 187 i = xe_L μ 6 (p + 1)
            rw [n8 i w1, w2]
            exact zRk_n u3.2.2.2.2 e25
          · exact Or.inl e25
      by_cases e25 : q1 = 25
      · rw [if_pos (zkr_1.mpr e25), show zD152 (xe_L (zrmv ν p) 209 (p + 1)) (zrmv ν p) = _ from z152l k17 (by omega) M zfu 0 (by omega) (zfu_lt (by omega)), zcI_ok]
        by_cases hex : ∃ i, i < M ∧ xe_L ν 213 i = xe_L ν 209 (p + 1)
        · obtain ⟨i, i1, i2⟩ := id hex
          obtain ⟨z, z1, z2, z3⟩ := zff_ge (E := fun e => decide (xe_L (zrmv ν p) 213 e = xe_L (zrmv ν p) 209 (p + 1))) i1 (decide_eq_true i2)
          rw [z3, if_pos (nI_pos' (by omega)), h36]
          exact hno (Or.inr hex)
        · have hval := zRk_n u3.2.2.2.2 e25
          have hval' : xe_L ν 209 (p + 1) = xe_L μ 6 (p + 1) := hval
          rw [zff_no (E := fun e => decide (xe_L (zrmv ν p) 213 e = xe_L (zrmv ν p) 209 (p + 1))) M 0 (fun y _ hy => decide_eq_false (fun w => hex ⟨y, by omega, w⟩)), if_neg (show ¬ (0 : Int32) ≤ -1 by decide)]
          have hN1 : p + 1 + 1 < N := u2.mp (by omega)
          rw [z38y (μ := zmv μ p) hna hR e11 u4 (by rw [u3.1, e25]) k186 hM (fun i hi w => hex ⟨i, hi, by
            rw [← n8 i hi, hval']
            exact w⟩), zcV_ok]
          unfold zD151_37
          rw [z143t f11 b12, zcI_ok, if_neg (show ¬ (1 : Int32) = 0 by decide)]
          simp only [zq_vI, zq_m]
          rw [show xe_I (zrmv (zrmv ν p) (p + 1)) 203 17 = nI M from (xu_In (by omega)).trans k17, zx_nI hM (by decide), show xe_I (xe_setL (zrmv (zrmv ν p) (p + 1)) 213 M (xe_L (zrmv ν p) 209 (p + 1))) 203 17 = nI M from (show xe_I (zrmv (zrmv ν p) (p + 1)) 203 17 = nI M from (xu_In (by omega)).trans k17), nI_1]
          refine z_mh2 (p2 := p + 1 + 1) h hM ?_ (by omega) hR ?_ ?_ ?_ ((xu_In (by omega)).trans xu_I) ?_ xu_I ?_
          · refine zPo_k (zPo_mv (zPo_nn (s := M) (x := xe_L (zmv μ p) 6 (p + 1)) (a := 0) (b := 0) hna hP1) hN1) (fun _ _ => ⟨rfl, rfl, rfl⟩) (fun a ha => ⟨funext fun j => (xu_In (by omega)).trans rfl, ?_⟩) rfl ⟨(xu_In (by omega)).trans rfl, (xu_In (by omega)).trans rfl⟩ rfl rfl rfl
            rw [zqL_I, zr_LL, if_neg (by omega)]
          · exact zW_t zW_mv (zW_t (zW_nn hna) (zW_t zW_mv (zW_t (zW_rL (by omega)) (zW_rI ⟨by omega, by omega⟩))))
          · unfold zmv znn
            refine zfG_t ?_ (zfG_I (by unfold zXh; omega))
            refine zfG_t ?_ (zfG_I (by unfold zXh; omega))
            refine zfG_t ?_ (zfG_I (by unfold zXh; omega))
            refine zfG_t ?_ (zfG_I (by unfold zXh; omega))
            refine zfG_t ?_ (zfG_L (by unfold zYh; omega))
            exact zfG_I (by unfold zXh; omega)
          · unfold zrmv
            refine zfG_t ?_ (zfG_I (by unfold zXg; omega))
            refine zfG_t ?_ (zfG_L (by unfold zYg; omega))
            refine zfG_t ?_ (zfG_I (by unfold zXg; omega))
            exact zfG_I (by unfold zXg; omega)
          · exact (xu_In (by omega)).trans ((znn_o (by omega) (by omega) (by omega)).trans ((xu_In (by omega)).trans n6))
          · show xe_L (xe_setL (zmv μ p) 187 M (xe_L (zmv μ p) 6 (p + 1))) 187 M = xe_L (xe_setL (zrmv (zrmv ν p) (p + 1)) 213 M (xe_L (zrmv ν p) 209 (p + 1))) 213 M
            rw [zu_L, if_pos ⟨rfl, rfl⟩, zu_L, if_pos ⟨rfl, rfl⟩]
            exact hval.symm
      · rw [if_neg (fun w => e25 (zkr_1.mp w)), h36]
        exact hno (Or.inl e25)
    · rw [if_neg e, if_neg (fun w => e w.1)]
      exact Or.inr (zFx_cV (zPo_no hP rfl rfl))
  · rw [if_neg (fun w => hM w.2)]
    refine Or.inr (zPo_no hP ?_ rfl)
    unfold zD44
    rw [n6, if_pos (show nI M = 4 by rw [show M = 4 by omega]; rfl)]
    unfold zD44_8
    rw [z37_1, zthr b4 b5, zcV_no]
end
