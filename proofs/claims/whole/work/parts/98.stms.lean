/-! statements: if, whole -/
section
variable {N P S Lc t m mb off a0 : Nat} {μ ν μ' ν' : xe_Mem} {p L ub p' L' ub' abn st d w w' pl F kd e y : Nat} {f53 g53 : Int32 → xe_Mem → zO}
theorem z_cost {a b : Nat} (hd : d < 6) (h : b ≤ 150) (hw : w ≤ (b - a) * 10 ^ (5 - d)) : w < 2147483648 := by
  have h1 : 10 ^ (5 - d) ≤ 10 ^ 5 := Nat.pow_le_pow_right (by decide) (by omega)
  have h2 : (b - a) * 10 ^ (5 - d) ≤ 150 * 10 ^ 5 := Nat.mul_le_mul (by omega) h1
  omega
theorem z_dw {a b : Nat} (hd : d < 6) (hab : a + 1 ≤ b) (hw : w ≤ (b - (a + 1)) * 10 ^ (5 - d)) : 1 + w ≤ (b - a) * 10 ^ (6 - d) := by
  have hK : 0 < 10 ^ (5 - d) := Nat.pow_pos (show 0 < 10 by decide)
  have e6 : 10 ^ (6 - d) = 10 ^ (5 - d) * 10 := by rw [show 6 - d = (5 - d) + 1 by omega, Nat.pow_succ]
  have e7 : (b - a) * 10 ^ (6 - d) = (b - (a + 1)) * 10 ^ (5 - d) * 10 + 10 ^ (5 - d) * 10 := by
    rw [e6, show b - a = (b - (a + 1)) + 1 by omega, Nat.add_mul, Nat.one_mul, Nat.mul_assoc]
  omega
theorem z_sif (hf : f53 = zD53 g53) (hS : zHS N P S t m mb off a0 (d + 1) g53) (h : zBb N P S t m mb off a0 μ ν p L ub Lc abn st d w) (hk : zTk μ ν p 5 pl) (hN : p + 1 < N) (hF : 4000 ≤ F + 1 + p) : zSO N P S t m mb off a0 μ ν p L st d w (zD54 f53 (nI d) μ) (zRf m t (F + 1) ν) := by
  have hd := h.2.2.2.2.2.2.2.1
  have ht := h.2.2.1.1
  have hNN := h.1.1.1.2.1
  have hoff : off ≤ 40 := h.1.2.2.2.2.2.2.2.2.2.2.2.1
  rcases z_sif0 (f53 := f53) h hk hN hF with ⟨μ4, ν4, p2, L2, ub2, a1, a2, h4, a4, a5, a6, a7, a8, a9, a10, a11, a12, a13, a14⟩ | hfx
  · rw [a1, a2, hf]
    rcases z_in (kd := 1) (F := F) hS h4 (by omega) with ⟨μ', ν', p', L', ub', Lc', abn', st', w', F', pl', d1, d2, d3, d4, d5, d6, d7, d8, d9, d10, d11, d12, d13, d14, d15, d16, d17, d18, d19⟩ | hfx
    · rw [show zD53 g53 (nI (d + 1)) μ4 = _ from d1, zcI_ok, show (zq_cI (zq_cI (zD158 1 ν4) fun x52 m50 => zq_z x52 (zint x52 m50)) fun x m' => if x = 0 then zint 0 m' else zRf m t F m') = _ from d2]
      obtain ⟨y1, y2, y3, y4, y5, y6, y7, y8, y9⟩ := id d3
      have hp3 := y1.2.2.2.2.2.2.2.2.1
      have hL3 := y1.2.2.2.2.2.2.2.2.2.1
      obtain ⟨F2, rfl⟩ : ∃ g, F' = g + 1 := ⟨F' - 1, by omega⟩
      have w0 : xe_I ν' 245 d = nI w := by
        rw [d16]
        exact h4.2.2.2.2.2.2.2.2
      have j0 : xe_I ν' 244 (d + 1) = nI (L2 + off) := (d15 244 (by omega)).trans a10
      have h5 := zBb_cl d3 d5 w0
      obtain ⟨q3, pl3, t1, t2, t3, t4⟩ := zQ_tok h5.1
      have hq3 : zTk (zmv μ' p') ν' (p' + 1) q3 pl3 := zTk_r t3 (zcl_o (by omega)).symm (zcl_o (by omega)).symm rfl
      have hw31 : w' < 2147483648 := z_cost hd y6.1 d10
      -- what stays of the if's own instruction
      have q9 : xe_I μ' 9 L2 = 15 ∧ xe_I ν' 239 (L2 + off) = 9 := by
        constructor
        · rw [(d12 9 (by decide)).1 L2 (zXcb_9 ht (by omega)).1]
          exact a8
        · rw [(d13 239 (by decide)).1 (L2 + off) (by
            unfold zXrb zXr
            simp only [zbleF (show L2 + off < L2 + 1 + off by omega), Bool.or_eq_false_iff, Bool.and_eq_false_iff, beq_eq_false_iff_ne, ne_eq]
            simp)]
          exact a9
      have hep : ∀ {μx : xe_Mem}, (∀ i, i < L2 → xe_I μx 9 i = xe_I μ' 9 i ∧ xe_I μx 10 i = xe_I μ' 10 i) → zEq P S μx L L2 := fun {μx} hx => by
        obtain ⟨k, hk⟩ := a7
        exact ⟨k, zEy_c k L L2 hk (fun i q1 q2 => ⟨(hx i q2).1.trans ((d12 9 (by decide)).1 i (zXcb_9 ht (by omega)).1), (hx i q2).2.trans ((d12 10 (by decide)).1 i (zXcb_9 ht (by omega)).2)⟩)⟩
      have g3 : zfJ (zXcb t L) 183 μ μ' := zfJ_t a11 (zfJ_w d12 (zXcb_w (by omega)))
      have g4 : zfJ (zXrb t (L + off) d) 241 ν ν' := zfJ_t a12 (zfJ_w d13 (zXrb_w (by omega)))
      have g5 : zfJ (zXrb t (L + off) d) 241 ν (zcl ν' p' (d + 1)) := zfJ_t g4 (zfJ_t zrmv_b z53_b)
      rw [show zD35 1000007 (zmv μ' p') = _ from z35 h5.1.2.1 t4 t3.1 t1 (K := 6) (by decide), zcI_ok, z196c y7 (by omega) y1.2.2.2.2.1 (by omega) d4, z156i (d := d) (w := w') (jp := L2 + off) (U := L' + off) y1.2.2.2.2.1 (by omega) y7 (by omega) y9 d14 j0 (by omega) y1.2.2.2.2.2.1 (by omega) hq3]
      by_cases h6 : q3 = 6
      · rw [decide_eq_true h6, if_neg (show ¬ zb01 true = 0 by decide), if_pos h6]
        have hN6 : p' + 1 + 1 < N := t2.mp (by omega)
        have h7 := zBb_op (zBb_mv h5 hN6) (x := 16) (y := 0) (u := 10) (v := 0) (Or.inr (Or.inr (Or.inr (Or.inr (Or.inr (Or.inr (Or.inl ⟨rfl, rfl, Or.inl ⟨rfl, rfl⟩⟩))))))) (by omega)
        let μ7 : xe_Mem := zadd (zmv (zmv μ' p') (p' + 1)) L' 16 0
        let ν7 : xe_Mem := zrad (zrmv (zcl ν' p' (d + 1)) (p' + 1)) (L' + off) 10 0
        have k7 : ∀ i, i < L' → xe_I μ7 9 i = xe_I μ' 9 i ∧ xe_I μ7 10 i = xe_I μ' 10 i := fun i hi => by
          show xe_I (zadd (zmv (zmv μ' p') (p' + 1)) L' 16 0) 9 i = _ ∧ xe_I (zadd (zmv (zmv μ' p') (p' + 1)) L' 16 0) 10 i = _
          unfold zmv zadd
          constructor
          · rw [xu_In (by omega), xu_In (by omega), xu_In (by omega), xu_In (by omega), xu_In (by omega)]
          · rw [xu_In (by omega), xu_In (by omega), xu_In (by omega), xu_In (by omega), xu_In (by omega)]
        have r7 : xe_I ν7 239 (L2 + off) = 9 := by
          show xe_I (zrad (zrmv (zcl ν' p' (d + 1)) (p' + 1)) (L' + off) 10 0) 239 (L2 + off) = _
          unfold zrad zrmv
          rw [xu_In (by omega), xu_In (by omega), xu_In (by omega), xu_In (by omega), zcl_o (by omega)]
          exact q9.2
        have h8 := zBb_pat (e := L2) (y := L' + 1) h7 (by omega) (Or.inl ⟨(k7 L2 (by omega)).1.trans q9.1, r7⟩)
        let μ8 : xe_Mem := xe_setI μ7 10 L2 (nI (L' + 1))
        let ν8 : xe_Mem := xe_setI (xe_setI (xe_setI ν7 240 (L2 + off) (nI (L' + 1 + off))) 244 (d + 1) (nI (L' + off))) 246 (d + 1) (nI w')
        have hels : zels ν' p' d w' (L2 + off) (L' + off) = ν8 := by
          show _ = xe_setI (xe_setI (xe_setI ν7 240 (L2 + off) (nI (L' + 1 + off))) 244 (d + 1) (nI (L' + off))) 246 (d + 1) (nI w')
          unfold zels
          rw [show L' + off + 1 = L' + 1 + off by omega]
          rfl
        have h9 : zBb N P S t m mb off a0 μ8 ν8 (p' + 1 + 1) (L' + 1) ub' Lc' abn' st' d w := zBb_y (st' := 0) h8 (zfI_t (zfI_s rfl) (zfI_s rfl)) ((xu_In (by omega)).trans ((xu_In (by omega)).trans h8.2.2.2.2.1)) ((xu_In (by omega)).trans ((xu_In (by omega)).trans h8.2.2.2.2.2.2.1)) hd ((xu_In (by omega)).trans ((xu_In (by omega)).trans h8.2.2.2.2.2.2.2.2))
        have g6 : zfJ (zXcb t L) 183 μ μ8 := zfJ_t g3 (zfJ_t (zfJ_t (zfJ_t zmv_b zmv_b) (zfJ_w zadd_b (zXcb_w (by omega)))) (zpat_b (by omega)))
        have g7 : zfJ (zXrb t (L + off) d) 241 ν ν8 := zfJ_t g5 (zfJ_t (zfJ_t (zfJ_t (zfJ_t zrmv_b (zfJ_w zrad_b (zXrb_w (by omega)))) (zpat_rb (by omega))) (z24_b (Nat.le_refl _) (Or.inr (Or.inl rfl)))) (z24_b (Nat.le_refl _) (Or.inr (Or.inr (Or.inl rfl)))))
        have q8 : xe_I μ8 9 L' = 16 ∧ xe_I ν8 239 (L' + off) = 10 := by
          constructor
          · show xe_I (xe_setI μ7 10 L2 (nI (L' + 1))) 9 L' = _
            rw [xu_In (by omega)]
            exact zadd_e.1
          · show xe_I (xe_setI (xe_setI (xe_setI ν7 240 (L2 + off) (nI (L' + 1 + off))) 244 (d + 1) (nI (L' + off))) 246 (d + 1) (nI w')) 239 (L' + off) = _
            rw [xu_In (by omega), xu_In (by omega), xu_In (by omega)]
            exact zrad_e.1
        simp only [zq_m, zq_vI]
        rw [h5.1.2.1, nI_1, show xe_setI (zmv μ' p') 181 6 (nI (p' + 1 + 1)) = zmv (zmv μ' p') (p' + 1) from rfl, z58 (zBb_mv h5 hN6).1.2.2.1 (by omega), zcI_ok, z60 h7.1.2.2.1 (by omega), zcV_ok, hels]
        rcases z_in (kd := 2) (F := F2) hS h9 (by omega) with ⟨μe, νe, pe, Le, ube, Lce, abne, ste, we, Fe, ple, c1, c2, c3, c4, c5, c6, c7, c8, c9, c10, c11, c12, c13, c14, c15, c16, c17, c18, c19⟩ | hfx
        · rw [show zD53 g53 (nI (d + 1)) (xe_setI (zadd (zmv (zmv μ' p') (p' + 1)) L' 16 0) 10 L2 (nI (L' + 1))) = _ from c1, zcI_ok, show (zq_cI (zq_cI (zD158 2 ν8) fun x52 m50 => zq_z x52 (zint x52 m50)) fun x m' => if x = 0 then zint 0 m' else zRf m t F2 m') = _ from c2]
          obtain ⟨z1, z2, z3, z4, z5, z6, z7, z8, z9⟩ := id c3
          have hp4 := z1.2.2.2.2.2.2.2.2.1
          have hL4 := z1.2.2.2.2.2.2.2.2.2.1
          obtain ⟨F3, rfl⟩ : ∃ g, Fe = g + 1 := ⟨Fe - 1, by omega⟩
          have w1 : xe_I νe 245 d = nI w := c16.trans h9.2.2.2.2.2.2.2.2
          have i0 : xe_I νe 244 (d + 1) = nI (L' + off) := by
            rw [c15 244 (by omega), xu_In (by omega)]
            exact xu_I
          have i1 : xe_I νe 246 (d + 1) = nI w' := by
            rw [c15 246 (by omega)]
            exact xu_I
          have hwe31 : we < 2147483648 := z_cost hd z6.1 c10
          have h10 := zBb_cl c3 c5 w1
          have qe : xe_I μe 9 L' = 16 ∧ xe_I νe 239 (L' + off) = 10 := by
            constructor
            · rw [(c12 9 (by decide)).1 L' (zXcb_9 ht (by omega)).1]
              exact q8.1
            · rw [(c13 239 (by decide)).1 (L' + off) (by
                unfold zXrb zXr
                simp only [zbleF (show L' + off < L' + 1 + off by omega), Bool.or_eq_false_iff, Bool.and_eq_false_iff, beq_eq_false_iff_ne, ne_eq]
                simp)]
              exact q8.2
          have h11 := zBb_pat (e := L') (y := Le) h10 (by omega) (Or.inr ⟨(xu_In (by omega)).trans qe.1, (zcl_o (by omega)).trans qe.2⟩)
          have hmx : (if nI w' < nI we then nI we else nI w') = nI (max we w') := by
            by_cases hlt : w' < we
            · rw [if_pos (nI_lt hlt hwe31), Nat.max_eq_left (by omega)]
            · rw [if_neg (nI_nlt (by omega) hw31), Nat.max_eq_right (by omega)]
          rw [hmx]
          unfold zD55_52
          rw [z60 h10.1.2.2.1 (by omega), zcV_ok, zcI_ok, z196c z7 (by omega) z1.2.2.2.2.1 (by omega) c4, z156j z1.2.2.2.2.1 z7 (by omega) z9 c14, z156_130 (ot := w') (jp := L' + off) (U := Le + off) (w0 := w) (by omega) ((zcl_o (by omega)).trans i0) (by omega) ((zcl_o (by omega)).trans z1.2.2.2.2.2.1) ((zcl_o (by omega)).trans w1) hwe31 hw31 (Or.inl ⟨(zcl_o (by omega)).trans c14, (zcl_o (by omega)).trans i1⟩), zcI_ok, if_neg (show ¬ (1 : Int32) = 0 by decide), show (1 + nI (max we w') : Int32) = nI (1 + max we w') from nI_add 1 _]
          have h12 := zBb_y (st' := 0) (d' := d) (w' := w + (1 + max we w')) h11 (ν' := xe_setI (xe_setI (zcl νe pe (d + 1)) 240 (L' + off) (nI (Le + off))) 245 d (nI (w + (1 + max we w')))) (zfI_s rfl) ((xu_In (by omega)).trans h11.2.2.2.2.1) ((xu_In (by omega)).trans h11.2.2.2.2.2.2.1) hd xu_I
          have hcd : ∀ i, i ≠ L' → xe_I (xe_setI (zmv μe pe) 10 L' (nI Le)) 9 i = xe_I μe 9 i ∧ xe_I (xe_setI (zmv μe pe) 10 L' (nI Le)) 10 i = xe_I μe 10 i := fun i hi => by
            unfold zmv
            exact ⟨by rw [xu_In (by omega), xu_In (by omega)], by rw [xu_In (by omega), xu_In (by omega)]⟩
          have hce : ∀ i, i < L' → xe_I μe 9 i = xe_I μ8 9 i ∧ xe_I μe 10 i = xe_I μ8 10 i := fun i hi => ⟨(c12 9 (by decide)).1 i (zXcb_9 ht (by omega)).1, (c12 10 (by decide)).1 i (zXcb_9 ht (by omega)).2⟩
          have hc8 : ∀ i, i < L' → i ≠ L2 → xe_I μ8 9 i = xe_I μ' 9 i ∧ xe_I μ8 10 i = xe_I μ' 10 i := fun i hi hi2 => ⟨(xu_In (by omega)).trans (k7 i hi).1, (xu_In (by omega)).trans (k7 i hi).2⟩
          have hcx : ∀ i, i < L' → i ≠ L2 → xe_I (xe_setI (zmv μe pe) 10 L' (nI Le)) 9 i = xe_I μ' 9 i ∧ xe_I (xe_setI (zmv μe pe) 10 L' (nI Le)) 10 i = xe_I μ' 10 i := fun i hi hi2 => ⟨(hcd i (by omega)).1.trans ((hce i hi).1.trans (hc8 i hi hi2).1), (hcd i (by omega)).2.trans ((hce i hi).2.trans (hc8 i hi hi2).2)⟩
          refine Or.inl ⟨_, _, pe + 1, Le, ube, Lce, abne, ste, 1 + max we w', F3, rfl, rfl, h12, by omega, by omega, by omega, by omega, ?_, ?_, zfJ_t g6 (zfJ_t (zfJ_w c12 (zXcb_w (by omega))) (zfJ_t zmv_b (zpat_b (by omega)))), zfJ_t g7 (zfJ_t (zfJ_w c13 (zXrb_w (by omega))) (zfJ_t (zfJ_t (zfJ_t zrmv_b z53_b) (zpat_rb (by omega))) (z245_b (Nat.le_refl _)))), c17.trans (d17.trans a13), c18.trans (d18.trans a14), by omega⟩
          · refine z_dw hd (by omega) ?_
            have m1 : (st' - (st + 1)) * 10 ^ (5 - d) ≤ (ste - (st + 1)) * 10 ^ (5 - d) := Nat.mul_le_mul_right _ (by omega)
            have m2 : (ste - st') * 10 ^ (5 - d) ≤ (ste - (st + 1)) * 10 ^ (5 - d) := Nat.mul_le_mul_right _ (by omega)
            exact Nat.max_le.mpr ⟨Nat.le_trans c10 m2, Nat.le_trans d10 m1⟩
          · rw [Nat.max_comm]
            refine zSm_else (e := L2) (g := L') (hep (fun i hi => hcx i (by omega) (by omega))) a5 ?_ ?_ (zRw_f d11 (fun i q1 q2 => hcx i q2 (by omega))) (by omega) ?_ xu_I (zRw_f c11 (fun i q1 q2 => hcd i (by omega))) (by omega)
            · rw [(hcd L2 (by omega)).1, (hce L2 (by omega)).1]
              show xe_I (xe_setI μ7 10 L2 (nI (L' + 1))) 9 L2 = _
              rw [xu_In (by omega), (k7 L2 (by omega)).1]
              exact q9.1
            · rw [(hcd L2 (by omega)).2, (hce L2 (by omega)).2]
              exact xu_I
            · rw [xu_In (by omega)]
              exact (xu_In (by omega)).trans qe.1
        · exact Or.inr (zFx_f (zFx_cI (zFx_cI hfx)) (zG_b g6) (zGr_b g7) (d17.trans a13) (d18.trans a14))
      · rw [decide_eq_false h6, if_pos (show zb01 false = 0 by decide), if_neg h6]
        have h11 := zBb_pat (e := L2) (y := L') h5 (by omega) (Or.inl ⟨(xu_In (by omega)).trans q9.1, (zcl_o (by omega)).trans q9.2⟩)
        unfold zD55_52
        rw [z60 h5.1.2.2.1 (by omega), zcV_ok, zcI_ok, z156_130 (ot := 0) (jp := L2 + off) (U := L' + off) (w0 := w) (by omega) ((zcl_o (by omega)).trans j0) (by omega) ((zcl_o (by omega)).trans y1.2.2.2.2.2.1) ((zcl_o (by omega)).trans w0) hw31 (by decide) (Or.inr ⟨(zcl_o (by omega)).trans d14, rfl⟩), zcI_ok, if_neg (show ¬ (1 : Int32) = 0 by decide), show (1 + nI w' : Int32) = nI (1 + w') from nI_add 1 _, Nat.max_eq_left (Nat.zero_le w')]
        have h12 := zBb_y (st' := 0) (d' := d) (w' := w + (1 + w')) h11 (ν' := xe_setI (xe_setI (zcl ν' p' (d + 1)) 240 (L2 + off) (nI (L' + off))) 245 d (nI (w + (1 + w')))) (zfI_s rfl) ((xu_In (by omega)).trans h11.2.2.2.2.1) ((xu_In (by omega)).trans h11.2.2.2.2.2.2.1) hd xu_I
        have hcd : ∀ i, i ≠ L2 → xe_I (xe_setI (zmv μ' p') 10 L2 (nI L')) 9 i = xe_I μ' 9 i ∧ xe_I (xe_setI (zmv μ' p') 10 L2 (nI L')) 10 i = xe_I μ' 10 i := fun i hi => by
          unfold zmv
          exact ⟨by rw [xu_In (by omega), xu_In (by omega)], by rw [xu_In (by omega), xu_In (by omega)]⟩
        refine Or.inl ⟨_, _, p' + 1, L', ub', Lc', abn', st', 1 + w', F2, rfl, rfl, h12, by omega, by omega, by omega, by omega, z_dw hd (by omega) d10, ?_, zfJ_t g3 (zfJ_t zmv_b (zpat_b (by omega))), zfJ_t g5 (zfJ_t (zpat_rb (by omega)) (z245_b (Nat.le_refl _))), d17.trans a13, d18.trans a14, by omega⟩
        refine zSm_if (e := L2) (hep (fun i hi => hcd i (by omega))) a5 ?_ xu_I (zRw_f d11 (fun i q1 q2 => hcd i (by omega))) (by omega)
        rw [xu_In (by omega)]
        exact (xu_In (by omega)).trans q9.1
    · exact Or.inr (zFx_f (zFx_cI (zFx_cI hfx)) (zG_b a11) (zGr_b a12) a13 a14)
  · exact Or.inr hfx
end
