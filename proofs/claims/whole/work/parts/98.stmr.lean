/-! statements: if -/
section
variable {N P S Lc t m mb off a0 : Nat} {μ ν μ' ν' : xe_Mem} {p L ub p' L' ub' abn st d w w' pl F kd e y : Nat} {f53 g53 : Int32 → xe_Mem → zO}
theorem zBb_e {U : Nat} (h : zBb N P S t m mb off a0 μ ν p L ub Lc abn st d w) (hq : zQ N P S Lc t true off a0 (Nat.testBit abn) μ' ν' p' L' ub') (h1 : zfI (zXc L) μ μ') (h2 : zfI (zXr U t) ν ν') : zBb N P S t m mb off a0 μ' ν' p' L' ub' Lc abn st d w := by
  obtain ⟨-, hR, ha, s1, s2, s3, s4, s5, s6⟩ := h
  exact ⟨hq, zRt_J (y := 183) hR (zfJ_I h1), zTa_f ha h1 h2, ((h1 181 (by decide)).1 7 rfl).trans s1, ((h2 203 (by decide)).1 52 rfl).trans s2, s3, ((h2 203 (by decide)).1 53 rfl).trans s4, s5, ((h2 245 (by decide)).1 d rfl).trans s6⟩
theorem z60 (hL : xe_I μ 8 2 = nI y) (he : e < 3000) : zD60 (nI e) μ = some (.inl none, xe_setI μ 10 e (nI y)) := by
  unfold zD60 zD60_11
  simp only [zq_m]
  rw [if_neg (show ¬ Int32.ofNat 3000 ≤ nI e from nI_ge (b := 3000) he (by decide)), zx_nI he (by decide), hL]
/-- an if's begin, up to its block -/
theorem z_sif0 (h : zBb N P S t m mb off a0 μ ν p L ub Lc abn st d w) (hk : zTk μ ν p 5 pl) (hN : p + 1 < N) (hF : 4000 ≤ F + 1 + p) :
    (∃ μ4 ν4 p2 L2 ub2, zD54 f53 (nI d) μ = (zq_cI (zq_cI (f53 (nI (d + 1)) μ4) fun x10 m8 => zq_cI (zD35 1000007 m8) fun x13 m11 => if x13 = 0 then zD55_52 f53 (nI L2) x10 m11 else zq_m (xe_setI m11 181 6 ((xe_I m11 181 6) + 1)) fun m16 => zq_cI (zD58 16 0 m16) fun x20 m18 => zq_cV (zD60 (nI L2) m18) fun m21 => zq_cI (f53 (nI (d + 1)) m21) fun x25 m23 => zq_vI (if x10 < x25 then x25 else x10) fun x26 => zD55_52 f53 x20 x26 m23) fun x m => zint x m) ∧ zRf m t (F + 1) ν = (zq_cI (zq_cI (zD158 1 ν4) fun x m => zq_z x (zint x m)) fun x m' => if x = 0 then zint 0 m' else zRf m t F m') ∧ zBb N P S t m mb off a0 μ4 ν4 p2 (L2 + 1) ub2 Lc abn (st + 1) d w ∧ p < p2 ∧ L < L2 ∧ L2 + 1 + p ≤ L + p2 ∧ zEq P S μ4 L L2 ∧ xe_I μ4 9 L2 = 15 ∧ xe_I ν4 239 (L2 + off) = 9 ∧ xe_I ν4 244 (d + 1) = nI (L2 + off) ∧ zfJ (zXcb t L) 183 μ μ4 ∧ zfJ (zXrb t (L + off) d) 241 ν ν4 ∧ xe_sh μ4 = xe_sh μ ∧ xe_sl μ4 = xe_sl μ) ∨ zFx N μ ν (zD54 f53 (nI d) μ) (zRf m t (F + 1) ν) := by
  obtain ⟨hq, hR, ha, s1, s2, s3, s4, s5, s6⟩ := id h
  obtain ⟨hx, e1, e2, e3, r1, r2, hcd, hub, b1, b2, b3, b4, b5, b6⟩ := id hq
  have hN2 := hx.1.2.1
  rw [z54 s1 s3.1 e1 (by omega) hk.1 (by decide) hx.2.2.2.2.1 hx.2.2.2.2.2, z196 s4 (by omega) r1 (by omega) hk (by decide), z159 s2 s3.1 r1 (by omega) hk]
  by_cases h150 : st = 150
  · rw [if_pos h150, if_pos h150, zcI_ok, if_pos rfl]
    exact Or.inr (zFx_l (zQ_no hq rfl rfl))
  · rw [if_neg h150, if_neg h150, if_pos (show (5 : Nat) = 5 from rfl), if_pos (show (5 : Nat) = 5 from rfl)]
    have h0 := zBb_st h h150
    have h1 := zBb_mv h0 hN
    let μ1 : xe_Mem := zmv (zst1 μ st) p
    let ν1 : xe_Mem := zrmv (zrst ν st) p
    have g1 : zfJ (zXcb t L) 183 μ μ1 := zfJ_t zst_f zmv_b
    have g2 : zfJ (zXrb t (L + off) d) 241 ν ν1 := zfJ_t zrst_f zrmv_b
    have k8 : xe_I μ1 181 8 = 0 := (xu_In (by omega)).trans xu_I
    have hA : zD55 f53 (nI d) (zst1 μ st) = zq_cV (zE56 0 0 μ1) fun m3 => zq_cI (zD58 15 0 m3) fun x7 m5 => zq_cI (f53 (nI (d + 1)) m5) fun x10 m8 => zq_cI (zD35 1000007 m8) fun x13 m11 => if x13 = 0 then zD55_52 f53 x7 x10 m11 else zq_m (xe_setI m11 181 6 ((xe_I m11 181 6) + 1)) fun m16 => zq_cI (zD58 16 0 m16) fun x20 m18 => zq_cV (zD60 x7 m18) fun m21 => zq_cI (f53 (nI (d + 1)) m21) fun x25 m23 => zq_vI (if x10 < x25 then x25 else x10) fun x26 => zD55_52 f53 x20 x26 m23 := by
      unfold zD55
      conv => lhs; rw [zq_m]
      rw [h0.1.2.1, nI_1, nI_1]
      rfl
    have hB : zR5 t (zrst ν st) = zq_cI (zD160 (nI t) ν1) fun x57 m55 => if x57 = 0 then zint 0 m55 else zq_cV (zD157 9 0 m55) fun m58 => zq_x (xe_I m58 203 53) 8 fun j60 => zq_cI (zD158 1 (xe_setI m58 244 j60 ((xe_I m58 203 47) - 1))) fun x68 m66 => zq_z x68 (zint x68 m66) := by
      unfold zR5
      simp only [zq_m]
      rw [h0.1.2.2.2.2.1, nI_1]
      rfl
    rw [hA, hB]
    rcases z_E (T := nI t) (Or.inl ⟨rfl, rfl⟩) h1.1 k8 with ⟨μ2, ν2, p2, L2, ub2, o1, o2, o3, o4, o5, o6, o7, o8, o9, o10, o11, o12⟩ | hfl
    · have h2 := zBb_e h1 o3 o9 o10
      have hL2 := o3.2.2.2.2.2.2.2.2.2.1
      have hp2 := o3.2.2.2.2.2.2.2.2.1
      let ν3 : xe_Mem := zrad ν2 (L2 + off) 9 0
      have h3 : zBb N P S t m mb off a0 (zadd μ2 L2 15 0) ν3 p2 (L2 + 1) ub2 Lc abn (st + 1) d w := zBb_op h2 (Or.inr (Or.inr (Or.inr (Or.inr (Or.inr (Or.inl ⟨rfl, rfl, Or.inl ⟨rfl, rfl⟩⟩)))))) (by omega)
      have h53 : xe_I ν3 203 53 = nI (d + 1) := h3.2.2.2.2.2.2.1
      have h47 : xe_I ν3 203 47 = nI (L2 + off + 1) := zrad_s
      have h4 := zBb_y (st' := 0) (d' := d) (w' := w) (ν' := xe_setI ν3 244 (d + 1) (nI (L2 + off))) h3 (zfI_s rfl) ((xu_In (by omega)).trans h3.2.2.2.2.1) ((xu_In (by omega)).trans h53) s5 ((xu_In (by omega)).trans h3.2.2.2.2.2.2.2.2)
      rw [o1, o2, zcV_ok, z58 h2.1.2.2.1 (by omega), zcI_ok, zcI_ok, if_neg (show ¬ (1 : Int32) = 0 by decide), z157 h2.1.2.2.2.2.2.1 (by omega), zcV_ok, show xe_I (zrad ν2 (L2 + off) 9 0) 203 53 = nI (d + 1) from h53, zx_nI (show d + 1 < 8 by omega) (by decide), show xe_I (zrad ν2 (L2 + off) 9 0) 203 47 = nI (L2 + off + 1) from h47, show (nI (L2 + off + 1) - 1 : Int32) = nI (L2 + off) from by rw [show (1 : Int32) = nI 1 from rfl, zn_sub (by omega)]; rfl]
      refine Or.inl ⟨zadd μ2 L2 15 0, xe_setI ν3 244 (d + 1) (nI (L2 + off)), p2, L2, ub2, rfl, rfl, h4, by omega, o5, by omega, ?_, zadd_e.1, (xu_In (by omega)).trans zrad_e.1, xu_I, zfJ_t g1 (zfJ_t (zfJ_w (zfJ_w (zfJ_I o9) zXct_c) zXcb_c) (zfJ_w zadd_b (zXcb_w (by omega)))), zfJ_t g2 (zfJ_t (zfJ_t (zfJ_w (zfJ_I o10) zXrb_r) (zfJ_w zrad_b (zXrb_w (by omega)))) (z24_b (Nat.le_refl _) (Or.inr (Or.inl rfl)))), o11, o12⟩
      exact zEq_f o8 (Nat.le_refl _) zadd_f
    · refine Or.inr (zFx_f (zFx_cI ?_) (zG_b g1) (zGr_b g2) rfl rfl)
      refine zFx_r (zFx_cV (zFx_l hfl)) (fun ν' e => ?_)
      rw [e, zcI_ok, if_pos rfl, zcI_ok, if_pos rfl]
end
