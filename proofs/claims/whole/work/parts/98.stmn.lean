/-! statements: a block's loop, from what its statements do -/
def zBO (N P S t m mb off a0 : Nat) (f53 : Int32 → xe_Mem → zO) (μ ν : xe_Mem) (p L st d w : Nat) (A B : zO) : Prop := (∃ μ' ν' p' L' ub' Lc' abn' st' w' F' pl', A = zD53_29 f53 (nI d) (nI w') μ' ∧ B = zRf m t F' ν' ∧ zBb N P S t m mb off a0 μ' ν' p' L' ub' Lc' abn' st' d w' ∧ zTk μ' ν' p' 12 pl' ∧ p ≤ p' ∧ L ≤ L' ∧ L' + p ≤ L + p' ∧ st ≤ st' ∧ w ≤ w' ∧ w' ≤ w + (st' - st) * 10 ^ (6 - d) ∧ (∀ x, x ≤ L → zRw P S d μ x L w → zRw P S d μ' x L' w') ∧ zfJ (zXcb t L) 183 μ μ' ∧ zfJ (zXrb t (L + off) d) 241 ν ν' ∧ xe_sh μ' = xe_sh μ ∧ xe_sl μ' = xe_sl μ ∧ 4000 ≤ F' + p') ∨ zFx N μ ν A B
theorem zXcb_w {t U V : Nat} (h : U ≤ V) : ∀ a j, zXcb t U a j = false → zXcb t V a j = false := by
  intro a j q
  unfold zXcb at q ⊢
  rw [Bool.or_eq_false_iff] at q ⊢
  exact ⟨zXct_w h a j q.1, q.2⟩
theorem zXrb_w {t d U V : Nat} (h : U ≤ V) : ∀ a j, zXrb t U d a j = false → zXrb t V d a j = false := by
  intro a j q
  unfold zXrb at q ⊢
  rw [Bool.or_eq_false_iff] at q ⊢
  exact ⟨zXr_w h a j q.1, q.2⟩
theorem zXcb_9 {t L i : Nat} (ht : t < 24) (h : i < L) : zXcb t L 9 i = false ∧ zXcb t L 10 i = false := by
  have e := zXc_9 (L := L) h
  unfold zXcb zXct
  rw [e.1, e.2]
  simp only [Bool.or_eq_false_iff, Bool.and_eq_false_iff, beq_eq_false_iff_ne, ne_eq, Bool.false_or]
  omega
section
variable {N P S t m mb off a0 : Nat} {d : Nat} {f53 : Int32 → xe_Mem → zO}
theorem z_blk (hS : ∀ (μ ν : xe_Mem) (p L ub Lc abn st w F q pl : Nat), zBb N P S t m mb off a0 μ ν p L ub Lc abn st d w → q < 29 → (q ≤ 26 ↔ p + 1 < N) → zTk μ ν p q pl → ¬ q = 12 → 4000 ≤ F + 1 + p → zSO N P S t m mb off a0 μ ν p L st d w (zD54 f53 (nI d) μ) (zRf m t (F + 1) ν)) : ∀ (r : Nat) (μ ν : xe_Mem) (p L ub Lc abn st w i f F : Nat), N - p ≤ r → zBb N P S t m mb off a0 μ ν p L ub Lc abn st d w → i ≤ st → 1000 ≤ f + i → 4000 ≤ F + p → zBO N P S t m mb off a0 f53 μ ν p L st d w (zD53_14 f53 f (nI d) (nI w) (nI i) μ) (zRf m t F ν) := by
  intro r
  induction r with
  | zero =>
    intro μ ν p L ub Lc abn st w i f F hr h
    have := h.1.2.2.2.2.2.2.2.2.1
    omega
  | succ r ih =>
    intro μ ν p L ub Lc abn st w i f F hr h hi hf hF
    obtain ⟨hq, hR, ha, s1, s2, s3, s4, s5, s6⟩ := id h
    obtain ⟨q, pl, t1, t2, t3, t4⟩ := zQ_tok hq
    obtain ⟨hx, e1, e2, e3, r1, r2, hcd, hub, b1, b2, b3, b4, b5, b6⟩ := id hq
    have hN2 := hx.1.2.1
    have ht := ha.1
    obtain ⟨f, rfl⟩ : ∃ g, f = g + 1 := ⟨f - 1, by omega⟩
    obtain ⟨F, rfl⟩ : ∃ g, F = g + 1 := ⟨F - 1, by omega⟩
    have hA : zD53_14 f53 (f + 1) (nI d) (nI w) (nI i) μ = if q = 12 then zD53_29 f53 (nI d) (nI w) μ else zq_cI (zD54 f53 (nI d) μ) fun x14 m12 => zD53_14 f53 f (nI d) (nI w + x14) (nI (i + 1)) m12 := by
      show zD53_14_b f53 (zD53_14 f53 f) (nI d) (nI w) (nI i) μ = _
      unfold zD53_14_b
      simp only [zq_vI]
      rw [if_neg (show ¬ (150 : Int32) < nI i from nI_nlt (a := 150) (by omega) (by decide)), show zD35 1000013 μ = _ from z35 e1 t4 t3.1 t1 (K := 12) (by decide), zcI_ok, nI_1]
      by_cases h12 : q = 12
      · rw [decide_eq_true h12, if_neg (show ¬ zb01 true = 0 by decide), if_pos h12]
      · rw [decide_eq_false h12, if_pos (show zb01 false = 0 by decide), if_neg h12]
    rw [hA]
    by_cases h12 : q = 12
    · subst h12
      rw [if_pos rfl]
      exact Or.inl ⟨μ, ν, p, L, ub, Lc, abn, st, w, F + 1, pl, rfl, rfl, h, t3, Nat.le_refl _, Nat.le_refl _, Nat.le_refl _, Nat.le_refl _, Nat.le_refl _, by omega, fun x _ hx => hx, fun a _ => ⟨fun _ _ => rfl, fun _ => rfl, rfl⟩, fun a _ => ⟨fun _ _ => rfl, fun _ => rfl, rfl⟩, rfl, rfl, hF⟩
    · rw [if_neg h12]
      rcases hS μ ν p L ub Lc abn st w F q pl h t1 t2 t3 h12 hF with ⟨μ1, ν1, p1, L1, ub1, Lc1, abn1, st1, dw, F1, a1, a2, a3, a4, a5, a6, a7, a8, a9, a10, a11, a12, a13, a14⟩ | hfx
      · rw [a1, zcI_ok, a2, nI_add]
        rcases ih μ1 ν1 p1 L1 ub1 Lc1 abn1 st1 (w + dw) (i + 1) f F1 (by omega) a3 (by omega) (by omega) a14 with ⟨μ', ν', p', L', ub', Lc', abn', st', w', F', pl', c1, c2, c3, c4, c5, c6, c7, c8, c9, c10, c11, c12, c13, c14, c15, c16⟩ | hfx
        · refine Or.inl ⟨μ', ν', p', L', ub', Lc', abn', st', w', F', pl', c1, c2, c3, c4, by omega, by omega, by omega, by omega, by omega, ?_, fun x hx hw => c11 x (by omega) ?_, zfJ_t a10 (zfJ_w c12 (zXcb_w (by omega))), zfJ_t a11 (zfJ_w c13 (zXrb_w (by omega))), c14.trans a12, c15.trans a13, c16⟩
          · have e : (st' - st) * 10 ^ (6 - d) = (st1 - st) * 10 ^ (6 - d) + (st' - st1) * 10 ^ (6 - d) := by rw [← Nat.add_mul]; congr 1; omega
            omega
          · refine zRw_1 (zRw_f hw (fun j q1 q2 => ⟨(a10 9 (by decide)).1 j (zXcb_9 ht q2).1, (a10 10 (by decide)).1 j (zXcb_9 ht q2).2⟩)) a9 hx a5
        · exact Or.inr (zFx_f hfx (zG_b a10) (zGr_b a11) a12 a13)
      · exact Or.inr (zFx_cI hfx)
end
