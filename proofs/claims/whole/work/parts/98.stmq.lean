/-! statements: repeat -/
section
variable {N P S Lc t m mb off a0 : Nat} {μ ν : xe_Mem} {p L ub abn st d w w' pl F kd : Nat} {f53 g53 : Int32 → xe_Mem → zO}
theorem zBb_cl (h : zBb N P S t m mb off a0 μ ν p L ub Lc abn st (d + 1) w') (hN : p + 1 < N) (h0 : xe_I ν 245 d = nI w) : zBb N P S t m mb off a0 (zmv μ p) (zcl ν p (d + 1)) (p + 1) L ub Lc abn st d w := by
  have h1 := zBb_mv h hN
  have := h.2.2.2.2.2.2.2.1
  refine zBb_y (st' := 0) h1 (zfI_s rfl) ?_ xu_I (by omega) ?_
  · exact (zcl_o (by omega)).trans h.2.2.2.2.1
  · exact (zcl_o (by omega)).trans h0
theorem z_num1 {q pl : Nat} (h : zTk μ ν p q pl) : ∃ x, q = 26 → (x ≤ 999999 ∧ xe_L μ 6 p = nL x) ∧ (x ≤ 999999 ∧ xe_L ν 209 p = nL x) := by
  by_cases h26 : q = 26
  · obtain ⟨e, x, h1, h2⟩ := zRk_v h.2.2.2.2 h26
    exact ⟨x, fun _ => ⟨⟨h1, h2⟩, h1, e.trans h2⟩⟩
  · exact ⟨0, fun e => absurd e h26⟩
theorem z_srep (hf : f53 = zD53 g53) (hS : zHS N P S t m mb off a0 (d + 1) g53) (h : zBb N P S t m mb off a0 μ ν p L ub Lc abn st d w) (hk : zTk μ ν p 7 pl) (hN : p + 1 < N) (hF : 4000 ≤ F + 1 + p) : zSO N P S t m mb off a0 μ ν p L st d w (zD54 f53 (nI d) μ) (zRf m t (F + 1) ν) := by
  obtain ⟨hq, hR, ha, s1, s2, s3, s4, s5, s6⟩ := id h
  obtain ⟨hx, e1, e2, e3, r1, r2, hcd, hub, b1, b2, b3, b4, b5, b6⟩ := id hq
  have hN2 := hx.1.2.1
  rw [z54 s1 s3.1 e1 (by omega) hk.1 (by decide) hx.2.2.2.2.1 hx.2.2.2.2.2, z196 s4 (by omega) r1 (by omega) hk (by decide), z159 s2 s3.1 r1 (by omega) hk]
  by_cases h150 : st = 150
  · rw [if_pos h150, if_pos h150, zcI_ok, if_pos rfl]
    exact Or.inr (zFx_l (zQ_no hq rfl rfl))
  · rw [if_neg h150, if_neg h150, if_neg (show ¬ (7 : Nat) = 5 by decide), if_neg (show ¬ (7 : Nat) = 5 by decide), if_pos (show (7 : Nat) = 7 from rfl), if_pos (show (7 : Nat) = 7 from rfl)]
    have h0 := zBb_st h h150
    have h1 := zBb_mv h0 hN
    let μ1 : xe_Mem := zmv (zst1 μ st) p
    let ν1 : xe_Mem := zrmv (zrst ν st) p
    have g1 : zfJ (zXcb t L) 183 μ μ1 := zfJ_t zst_f zmv_b
    have g2 : zfJ (zXrb t (L + off) d) 241 ν ν1 := zfJ_t zrst_f zrmv_b
    have hA : zD61 f53 (nI d) (zst1 μ st) = zq_cI (zD42 1 9 μ1) fun x5 m3 => zq_cI (zD58 17 x5 m3) fun x8 m6 => zq_cI (f53 (nI d + 1) m6) fun x12 m10 => zq_cI (zD58 18 (xe_I m6 8 2) m10) fun x15 m13 => zint (x5 * (1 + x12)) m13 := by
      unfold zD61
      simp only [zq_m, zq_vI]
      rw [h0.1.2.1, nI_1]
      rfl
    have hB : zR7 (zrst ν st) = zq_cI (zD148 1 9 ν1) fun x29 m27 => if x29 = 0 then zint 0 m27 else zq_cI (zD149 m27) fun x32 m30 => zq_cV (zD157 11 x32 m30) fun m33 => zq_cI (zD149 m33) fun x37 m35 => zq_x (xe_I m33 203 53) 8 fun j38 => zq_x (xe_I (xe_setI m35 247 j38 x37) 203 53) 8 fun j44 => zq_cI (zD158 3 (xe_setI (xe_setI m35 247 j38 x37) 244 j44 (xe_I (xe_setI m35 247 j38 x37) 203 47))) fun x52 m50 => zq_z x52 (zint x52 m50) := by
      unfold zR7
      simp only [zq_m]
      rw [h0.1.2.2.2.2.1, nI_1]
      rfl
    obtain ⟨q1, pl1, t1, t2, t3, t4⟩ := zQ_tok h1.1
    obtain ⟨hx1, f1, f2, f3, u1, u2, -, -, c1, c2, -⟩ := id h1.1
    obtain ⟨x, hx26⟩ := z_num1 t3
    rw [hA, hB, show zD42 1 9 μ1 = _ from z42 (lo := 1) (hi := 9) (x := x) f1 t4 t3.1 t1 hx1.2.2.2.2.1 hx1.2.2.2.2.2 (fun e => (hx26 e).1) (by decide) (by decide), show zD148 1 9 ν1 = _ from z148 (lo := 1) (hi := 9) (x := x) u1 t4 t3 hx1.2.2.2.1.2 (fun e => (hx26 e).2) (by decide) (by decide)]
    by_cases hc : q1 = 26 ∧ 1 ≤ x ∧ x ≤ 9
    · rw [if_pos hc, if_pos hc, zcI_ok, zcI_ok, if_neg (show ¬ (1 : Int32) = 0 by decide)]
      have hN1 : p + 1 + 1 < N := t2.mp (by omega)
      obtain ⟨x1, x2⟩ := (hx26 hc.1).2
      have h2 := zBb_mv h1 hN1
      have e149 : zD149 (zrmv ν1 (p + 1)) = zint (nI x) (zrmv ν1 (p + 1)) := z149 (p := p + 1) xu_I t4 x2 x1
      have hU : xe_I (zrmv ν1 (p + 1)) 203 47 = nI (L + off) := h2.1.2.2.2.2.2.1
      have hL : xe_I (zmv μ1 (p + 1)) 8 2 = nI L := h2.1.2.2.1
      let μ3 : xe_Mem := zadd (zmv μ1 (p + 1)) L 17 (nI x)
      let ν3 : xe_Mem := zrad (zrmv ν1 (p + 1)) (L + off) 11 (nI x)
      have h3 : zBb N P S t m mb off a0 μ3 ν3 (p + 1 + 1) (L + 1) ub Lc abn (st + 1) d w := zBb_op h2 (Or.inr (Or.inr (Or.inr (Or.inr (Or.inr (Or.inr (Or.inr (Or.inl ⟨rfl, rfl, rfl⟩)))))))) (by omega)
      have e149b : zD149 ν3 = zint (nI x) ν3 := z149 (p := p + 1) (ν := ν3) ((zrad_o (by omega) (by omega) (by omega)).trans xu_I) t4 x2 x1
      have h53 : xe_I ν3 203 53 = nI (d + 1) := h3.2.2.2.2.2.2.1
      have h47 : xe_I ν3 203 47 = nI (L + off + 1) := zrad_s
      let ν4 : xe_Mem := xe_setI (xe_setI ν3 247 (d + 1) (nI x)) 244 (d + 1) (nI (L + off + 1))
      have h4 : zBb N P S t m mb off a0 μ3 ν4 (p + 1 + 1) (L + 1) ub Lc abn (st + 1) d w := zBb_y (st' := 0) h3 (zfI_t (zfI_s rfl) (zfI_s rfl)) ((xu_In (by omega)).trans ((xu_In (by omega)).trans h3.2.2.2.2.1)) ((xu_In (by omega)).trans ((xu_In (by omega)).trans h53)) h3.2.2.2.2.2.2.2.1 ((xu_In (by omega)).trans ((xu_In (by omega)).trans h3.2.2.2.2.2.2.2.2))
      have g3 : zfJ (zXcb t L) 183 μ μ3 := zfJ_t g1 (zfJ_t zmv_b zadd_b)
      have g4 : zfJ (zXrb t (L + off) d) 241 ν ν4 := zfJ_t g2 (zfJ_t (zfJ_t (zfJ_t zrmv_b zrad_b) (z24_b (Nat.le_refl _) (Or.inr (Or.inr (Or.inr rfl))))) (z24_b (Nat.le_refl _) (Or.inr (Or.inl rfl))))
      rw [z58 hL (by omega), zcI_ok, e149, zcI_ok, z157 hU (by omega), zcV_ok, e149b, zcI_ok, show xe_I (zrad (zrmv ν1 (p + 1)) (L + off) 11 (nI x)) 203 53 = nI (d + 1) from h53, zx_nI (show d + 1 < 8 by omega) (by decide), show xe_I (xe_setI ν3 247 (d + 1) (nI x)) 203 53 = nI (d + 1) from (xu_In (by omega)).trans h53, zx_nI (show d + 1 < 8 by omega) (by decide), show xe_I (xe_setI ν3 247 (d + 1) (nI x)) 203 47 = nI (L + off + 1) from (xu_In (by omega)).trans h47, nI_1, hf, show xe_I (zadd (zmv μ1 (p + 1)) L 17 (nI x)) 8 2 = nI (L + 1) from zadd_s]
      rcases z_in (kd := 3) (F := F) hS h4 (by omega) with ⟨μ', ν', p', L', ub', Lc', abn', st', w', F', pl', d1, d2, d3, d4, d5, d6, d7, d8, d9, d10, d11, d12, d13, d14, d15, d16, d17, d18, d19⟩ | hfx
      · rw [show zD53 g53 (nI (d + 1)) (zadd (zmv μ1 (p + 1)) L 17 (nI x)) = _ from d1, zcI_ok, show (zq_cI (zq_cI (zD158 3 (xe_setI (xe_setI ν3 247 (d + 1) (nI x)) 244 (d + 1) (nI (L + off + 1)))) fun x52 m50 => zq_z x52 (zint x52 m50)) fun x m' => if x = 0 then zint 0 m' else zRf m t F m') = _ from d2]
        obtain ⟨y1, y2, y3, y4, y5, y6, y7, y8, y9⟩ := id d3
        have hN3 := y1.1.1.2.1
        have hp3 := y1.2.2.2.2.2.2.2.2.1
        have hL3 := y1.2.2.2.2.2.2.2.2.2.1
        obtain ⟨F2, rfl⟩ : ∃ g, F' = g + 1 := ⟨F' - 1, by omega⟩
        have w0 : xe_I ν' 245 d = nI w := by
          rw [d16]
          exact h4.2.2.2.2.2.2.2.2
        have j0 : xe_I ν' 244 (d + 1) = nI (L + off + 1) := by
          rw [d15 244 (by omega)]
          exact xu_I
        have j1 : xe_I ν' 247 (d + 1) = nI x := by
          rw [d15 247 (by omega), xu_In (by omega)]
          exact xu_I
        have h5 := zBb_cl d3 d5 w0
        have hL5 : xe_I (zmv μ' p') 8 2 = nI L' := h5.1.2.2.1
        have h6 := zBb_op h5 (x := 18) (y := nI (L + 1)) (u := 12) (v := nI (L + off + 1)) (Or.inr (Or.inr (Or.inr (Or.inr (Or.inr (Or.inr (Or.inr (Or.inr ⟨rfl, rfl, Or.inr ⟨L + 1, by omega, rfl, by congr 1; omega⟩⟩)))))))) (by omega)
        rw [z58 hL5 (by omega), zcI_ok, z196c y7 (by omega) y1.2.2.2.2.1 (by omega) d4, z156r (w := w') (w0 := w) (rd := x) (jp := L + off + 1) (U := L' + off) y1.2.2.2.2.1 y7 (by omega) y9 d14 j0 j1 w0 y1.2.2.2.2.2.1 (by omega), zcI_ok, zcI_ok, if_neg (show ¬ (1 : Int32) = 0 by decide), show (1 + nI w' : Int32) = nI (1 + w') from nI_add 1 w', zn_mul]
        have h7 := zBb_y (st' := 0) (d' := d) (w' := w + x * (1 + w')) h6 (ν' := xe_setI (zrad (zcl ν' p' (d + 1)) (L' + off) 12 (nI (L + off + 1))) 245 d (nI (w + x * (1 + w')))) (zfI_s rfl) ((xu_In (by omega)).trans h6.2.2.2.2.1) ((xu_In (by omega)).trans h6.2.2.2.2.2.2.1) s5 xu_I
        have ht := ha.1
        have hcode : ∀ i, i < L' → xe_I (zadd (zmv μ' p') L' 18 (nI (L + 1))) 9 i = xe_I μ' 9 i ∧ xe_I (zadd (zmv μ' p') L' 18 (nI (L + 1))) 10 i = xe_I μ' 10 i := fun i hi => by
          unfold zmv zadd
          constructor
          · rw [xu_In (by omega), xu_In (by omega), xu_In (by omega), xu_In (by omega)]
          · rw [xu_In (by omega), xu_In (by omega), xu_In (by omega), xu_In (by omega)]
        have q9 : xe_I μ' 9 L = 17 ∧ xe_I μ' 10 L = nI x := by
          rw [(d12 9 (by decide)).1 L (zXcb_9 ht (by omega)).1, (d12 10 (by decide)).1 L (zXcb_9 ht (by omega)).2]
          exact zadd_e
        refine Or.inl ⟨_, _, p' + 1, L' + 1, ub', Lc', abn', st', x * (1 + w'), F2, rfl, rfl, h7, by omega, by omega, by omega, by omega, ?_, ?_, zfJ_t g3 (zfJ_t (zfJ_w d12 (zXcb_w (by omega))) (zfJ_t zmv_b (zfJ_w zadd_b (zXcb_w (by omega))))), zfJ_t g4 (zfJ_t (zfJ_w d13 (zXrb_w (by omega))) (zfJ_t (zfJ_t (zfJ_t zrmv_b z53_b) (zfJ_w zrad_b (zXrb_w (by omega)))) (z245_b (Nat.le_refl _)))), d17, d18, by omega⟩
        · have hK : 0 < 10 ^ (5 - d) := Nat.pow_pos (show 0 < 10 by decide)
          have e6 : 10 ^ (6 - d) = 10 ^ (5 - d) * 10 := by rw [show 6 - d = (5 - d) + 1 by omega, Nat.pow_succ]
          have e7 : (st' - st) * 10 ^ (6 - d) = (st' - (st + 1)) * 10 ^ (5 - d) * 10 + 10 ^ (5 - d) * 10 := by
            rw [e6, show st' - st = (st' - (st + 1)) + 1 by omega, Nat.add_mul, Nat.one_mul, Nat.mul_assoc]
          have e8 : x * (1 + w') ≤ 9 * (1 + w') := Nat.mul_le_mul_right _ hc.2.2
          omega
        · refine zSm_rep (n := x) (e := L') ((hcode L (by omega)).1.trans q9.1) ((hcode L (by omega)).2.trans q9.2) hc.2.1 hc.2.2 (by omega) (zRw_f d11 (fun i q1 q2 => hcode i q2)) (by omega) zadd_e.1 zadd_e.2
      · refine Or.inr (zFx_f (zFx_cI (zFx_cI hfx)) (zG_b g3) (zGr_b g4) rfl rfl)
    · rw [if_neg hc, if_neg hc, zcI_ok, if_pos rfl, zcI_ok, if_pos rfl]
      refine Or.inr (zFx_f (zFx_cI (zFx_cI (zFx_l (zQ_no h1.1 rfl rfl)))) (zG_b g1) (zGr_b g2) rfl rfl)
end
