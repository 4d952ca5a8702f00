/-! statements: an inner block -/
def zHS (N P S t m mb off a0 d : Nat) (f53 : Int32 → xe_Mem → zO) : Prop := ∀ (μ ν : xe_Mem) (p L ub Lc abn st w F q pl : Nat), zBb N P S t m mb off a0 μ ν p L ub Lc abn st d w → q < 29 → (q ≤ 26 ↔ p + 1 < N) → zTk μ ν p q pl → ¬ q = 12 → 4000 ≤ F + 1 + p → zSO N P S t m mb off a0 μ ν p L st d w (zD54 f53 (nI d) μ) (zRf m t (F + 1) ν)
/-- an inner block: both have read it up to its '}', or both refuse -/
def zIO (N P S t m mb off a0 kd : Nat) (μ ν : xe_Mem) (p L st d : Nat) (A B : zO) : Prop := (∃ μ' ν' p' L' ub' Lc' abn' st' w' F' pl', A = zint (nI w') (zmv μ' p') ∧ B = zRf m t F' ν' ∧ zBb N P S t m mb off a0 μ' ν' p' L' ub' Lc' abn' st' (d + 1) w' ∧ zTk μ' ν' p' 12 pl' ∧ p' + 1 < N ∧ p < p' ∧ L ≤ L' ∧ L' + p + 1 ≤ L + p' ∧ st ≤ st' ∧ w' ≤ (st' - st) * 10 ^ (5 - d) ∧ zRw P S (d + 1) μ' L L' w' ∧ zfJ (zXcb t L) 183 μ μ' ∧ zfJ (zXrb t (L + off) d) 241 ν ν' ∧ xe_I ν' 243 (d + 1) = nI kd ∧ (∀ a, a = 244 ∨ a = 246 ∨ a = 247 → xe_I ν' a (d + 1) = xe_I ν a (d + 1)) ∧ xe_I ν' 245 d = xe_I ν 245 d ∧ xe_sh μ' = xe_sh μ ∧ xe_sl μ' = xe_sl μ ∧ 4000 ≤ F' + p') ∨ zFx N μ ν A B
section
variable {N P S Lc t m mb off a0 : Nat} {μ ν : xe_Mem} {p L ub abn st d w pl F kd : Nat} {f53 g53 : Int32 → xe_Mem → zO}
theorem z_in (hS : zHS N P S t m mb off a0 (d + 1) f53) (h : zBb N P S t m mb off a0 μ ν p L ub Lc abn st d w) (hF : 4000 ≤ F + p + 1) : zIO N P S t m mb off a0 kd μ ν p L st d (zD53 f53 (nI (d + 1)) μ) (zq_cI (zq_cI (zD158 (nI kd) ν) fun x m => zq_z x (zint x m)) fun x m' => if x = 0 then zint 0 m' else zRf m t F m') := by
  obtain ⟨hq, hR, ha, s1, s2, s3, s4, s5, s6⟩ := id h
  obtain ⟨q, pl, t1, t2, t3, t4⟩ := zQ_tok hq
  obtain ⟨hx, e1, e2, e3, r1, r2, hcd, hub, b1, b2, b3, b4, b5, b6⟩ := id hq
  have hN2 := hx.1.2.1
  rw [z53h e1 t4 t3.1 t1 hx.2.2.2.2.1 hx.2.2.2.2.2 (by omega), z158 r1 t4 t3 hx.2.2.2.1.2 s4 (by omega)]
  by_cases hc : q = 11 ∧ d + 1 < 6
  · rw [if_pos hc, if_pos hc, zcI_ok, zz_1, zcI_ok, if_neg (show ¬ (1 : Int32) = 0 by decide)]
    have hN : p + 1 < N := t2.mp (by omega)
    have h1 := zBb_mv h hN
    let ν1 : xe_Mem := zopb (zrmv ν p) (d + 1) kd
    have Y : zfI zYr (zrmv ν p) ν1 := zfI_t (zfI_t (zfI_s rfl) (zfI_s rfl)) (zfI_s rfl)
    have k1 : ∀ a j, (a ≠ 243 ∨ j ≠ d + 1) → (a ≠ 245 ∨ j ≠ d + 1) → (a ≠ 203 ∨ (j ≠ 53 ∧ j ≠ 10)) → xe_I ν1 a j = xe_I ν a j := fun a j q1 q2 q3 => by
      show xe_I (xe_setI (xe_setI (xe_setI (xe_setI ν 203 10 (nI (p + 1))) 243 (d + 1) (nI kd)) 245 (d + 1) 0) 203 53 (nI (d + 1 + 1))) a j = _
      rw [xu_In (by omega), xu_In (by omega), xu_In (by omega), xu_In (by omega)]
    have k2 : xe_I ν1 243 (d + 1) = nI kd := by
      show xe_I (xe_setI (xe_setI (xe_setI (xe_setI ν 203 10 (nI (p + 1))) 243 (d + 1) (nI kd)) 245 (d + 1) 0) 203 53 (nI (d + 1 + 1))) 243 (d + 1) = _
      rw [xu_In (by omega), xu_In (by omega), xu_I]
    have k3 : xe_I ν1 245 (d + 1) = nI 0 := by
      show xe_I (xe_setI (xe_setI (xe_setI (xe_setI ν 203 10 (nI (p + 1))) 243 (d + 1) (nI kd)) 245 (d + 1) 0) 203 53 (nI (d + 1 + 1))) 245 (d + 1) = _
      rw [xu_In (by omega), xu_I]
      rfl
    have h2 : zBb N P S t m mb off a0 (zmv μ p) ν1 (p + 1) L ub Lc abn st (d + 1) 0 := zBb_y (st' := 0) h1 Y ((k1 203 52 (by omega) (by omega) (by omega)).trans s2) xu_I hc.2 k3
    have G2 : zfJ (zXrb t (L + off) d) 241 ν ν1 := zfJ_t (zfJ_t (zfJ_t zrmv_b (z24_b (Nat.le_refl _) (Or.inl rfl))) (z245_b (Nat.le_succ d))) z53_b
    have hz : zfu = 1000000000 := rfl
    rcases z_blk hS (N - (p + 1)) (zmv μ p) ν1 (p + 1) L ub Lc abn st 0 0 zfu F (Nat.le_refl _) h2 (by omega) (by omega) (by omega) with ⟨μ', ν', p', L', ub', Lc', abn', st', w', F', pl', c1, c2, c3, c4, c5, c6, c7, c8, c9, c10, c11, c12, c13, c14, c15, c16⟩ | hfx
    · obtain ⟨c3q, c3r⟩ := id c3
      obtain ⟨q', pl'', u1, u2, u3, u4⟩ := zQ_tok c3q
      have f1 := c3q.2.1
      have hq12 : q' = 12 := by
        have := u3.1.symm.trans c4.1
        rw [Option.some.injEq] at this
        omega
      have hA : zD53_29 f53 (nI (d + 1)) (nI w') μ' = zint (nI w') (zmv μ' p') := by
        unfold zD53_29 zD53_36 zD53_37 zD37
        rw [if_neg (show ¬ nI (d + 1) = (0 : Int32) from fun e => by
          have := (zi_eq (a := d + 1) (b := 0) (by omega) (by decide)).mp e
          omega), if_pos rfl, zcV_ok, show zD41 1000013 μ' = _ from z41 f1 u4 c4.1 (by decide) (K := 12) (by decide), if_pos rfl, zcV_ok]
      refine Or.inl ⟨μ', ν', p', L', ub', Lc', abn', st', w', F', pl', c1.trans hA, c2, c3, c4, u2.mp (by omega), by omega, c6, by omega, c8, ?_, c11 L (Nat.le_refl _) zRw_0, zfJ_t zmv_b c12, zfJ_t G2 (zfJ_w c13 zXrb_d), ?_, fun a ha => ?_, ?_, c14, c15, c16⟩
      · rw [show 5 - d = 6 - (d + 1) by omega]
        omega
      · rw [(c13 243 (by decide)).1 (d + 1) (by
          unfold zXrb zXr
          simp only [zbleF (show d + 1 < d + 1 + 1 by omega), Bool.or_eq_false_iff, Bool.and_eq_false_iff, beq_eq_false_iff_ne, ne_eq]
          simp)]
        exact k2
      · rw [(c13 a (by omega)).1 (d + 1) (by
          unfold zXrb zXr
          simp only [zbleF (show d + 1 < d + 1 + 1 by omega), Bool.or_eq_false_iff, Bool.and_eq_false_iff, beq_eq_false_iff_ne, ne_eq]
          rcases ha with e | e | e <;> subst e <;> simp)]
        exact k1 a (d + 1) (by omega) (by omega) (by omega)
      · rw [(c13 245 (by decide)).1 d (by
          unfold zXrb zXr
          simp only [zbleF (show d < d + 1 by omega), Bool.or_eq_false_iff, Bool.and_eq_false_iff, beq_eq_false_iff_ne, ne_eq]
          simp)]
        exact k1 245 d (by omega) (by omega) (by omega)
    · exact Or.inr (zFx_f hfx (zG_b (t := t) (L := L) zmv_b) (zGr_b G2) rfl rfl)
  · rw [if_neg hc, if_neg hc, zcI_ok, zz_0, zcI_ok, if_pos rfl]
    exact Or.inr (zFx_l (zQ_no hq rfl rfl))
end
