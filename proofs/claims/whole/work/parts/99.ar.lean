/-! reading declarations -/
def zBD (N P S : Nat) (μ ν : xe_Mem) (p : Nat) : Prop := zPo N μ ν p ∧ zKn P S μ ν ∧ zNn μ ν 0 0 ∧ zCc μ ν p 0 0 0 0 0 ∧ xe_I μ 182 3 = nI (P + S)
def zr42 (v1 : Int32) (m4 : xe_Mem) : zO := zq_x (xe_I m4 203 10) 3002 fun j7 => zq_vL (xe_L m4 209 j7) fun x11 => zq_x (xe_I m4 203 10) 3002 fun j12 => if (xe_I m4 207 j12) = 1 then zq_cI (zD144 x11 m4) fun x18 m16 => if 0 ≤ x18 then zD142_50 v1 x11 m16 else zq_cI (zD145 x11 m16) fun x61 m59 => if 0 ≤ x61 then zD142_50 v1 x11 m59 else zD142_51 v1 x11 1 m59 else zD142_50 v1 x11 m4
section
variable {N P S p : Nat} {μ ν μ' ν' : xe_Mem} {x : Int64} {v1 s2 s3 : Int32}
theorem zBD_M (h : zBD N P S μ ν p) : zBM N P S 0 μ ν p 0 0 0 0 0 := ⟨h.1, h.2.1, h.2.2.1, h.2.2.2.1, ⟨by omega, by omega, by omega, by omega⟩, fun t ht => absurd ht (by omega), zOm_0⟩
theorem zNp_P (h : zNp μ ν P S) (hP : P < 12) (hx : ∀ e, e < P + S → ¬ xe_L μ 183 e = x) (c1 : ∀ e, e < P + S → xe_I μ' 184 e = xe_I μ 184 e ∧ xe_I μ' 185 e = xe_I μ 185 e ∧ xe_L μ' 183 e = xe_L μ 183 e) (c2 : xe_I μ' 184 (P + S) = 2 ∧ xe_I μ' 185 (P + S) = nI P ∧ xe_L μ' 183 (P + S) = x) (r1 : ∀ i, i < P → xe_L ν' 210 i = xe_L ν 210 i) (r2 : xe_L ν' 210 P = x) (r3 : ∀ i, i < S → xe_L ν' 212 i = xe_L ν 212 i) (r4 : xe_I ν' 203 12 = nI (P + 1)) (r5 : xe_I ν' 203 15 = xe_I ν 203 15) : zNp μ' ν' (P + 1) S := by
  obtain ⟨h1, h2, h3, h4, h5, h6, h7, h8⟩ := h
  have hl : ∀ e, e < P + 1 + S → e < P + S ∨ e = P + S := fun e he => by omega
  refine ⟨by omega, h2, r4, r5.trans h4, fun e he => ?_, fun i hi => ?_, fun s hs => ?_, fun e e' he he' hq => ?_⟩
  · rcases hl e he with w | w
    · rw [(c1 e w).1, (c1 e w).2.1, (c1 e w).2.2]
      rcases h5 e w with ⟨i, i1, i2, i3, i4⟩ | ⟨i, i1, i2, i3, i4⟩
      · exact Or.inl ⟨i, by omega, i2, i3, by rw [r1 i i1]; exact i4⟩
      · exact Or.inr ⟨i, i1, i2, i3, by rw [r3 i i1]; exact i4⟩
    · rw [w]
      exact Or.inl ⟨P, by omega, c2.1, c2.2.1, by rw [c2.2.2, r2]⟩
  · by_cases w : i = P
    · exact ⟨P + S, by omega, c2.1, by rw [c2.2.1, w], by rw [c2.2.2, w, r2]⟩
    · obtain ⟨e, e1, e2, e3, e4⟩ := h6 i (by omega)
      refine ⟨e, by omega, ?_⟩
      rw [(c1 e e1).1, (c1 e e1).2.1, (c1 e e1).2.2, r1 i (by omega)]
      exact ⟨e2, e3, e4⟩
  · obtain ⟨e, e1, e2, e3, e4⟩ := h7 s hs
    refine ⟨e, by omega, ?_⟩
    rw [(c1 e e1).1, (c1 e e1).2.1, (c1 e e1).2.2, r3 s hs]
    exact ⟨e2, e3, e4⟩
  · rcases hl e he with w | w
    · rcases hl e' he' with w' | w'
      · rw [(c1 e w).2.2, (c1 e' w').2.2] at hq
        exact h8 e e' w w' hq
      · rw [(c1 e w).2.2, w', c2.2.2] at hq
        exact absurd hq (hx e w)
    · rcases hl e' he' with w' | w'
      · rw [w, c2.2.2, (c1 e' w').2.2] at hq
        exact absurd hq.symm (hx e' w')
      · omega
theorem zNp_S (h : zNp μ ν P S) (hS : S < 4) (hx : ∀ e, e < P + S → ¬ xe_L μ 183 e = x) (c1 : ∀ e, e < P + S → xe_I μ' 184 e = xe_I μ 184 e ∧ xe_I μ' 185 e = xe_I μ 185 e ∧ xe_L μ' 183 e = xe_L μ 183 e) (c2 : xe_I μ' 184 (P + S) = 3 ∧ xe_I μ' 185 (P + S) = nI S ∧ xe_L μ' 183 (P + S) = x) (r1 : ∀ i, i < P → xe_L ν' 210 i = xe_L ν 210 i) (r2 : xe_L ν' 212 S = x) (r3 : ∀ i, i < S → xe_L ν' 212 i = xe_L ν 212 i) (r4 : xe_I ν' 203 15 = nI (S + 1)) (r5 : xe_I ν' 203 12 = xe_I ν 203 12) : zNp μ' ν' P (S + 1) := by
  obtain ⟨h1, h2, h3, h4, h5, h6, h7, h8⟩ := h
  have hl : ∀ e, e < P + (S + 1) → e < P + S ∨ e = P + S := fun e he => by omega
  refine ⟨h1, by omega, r5.trans h3, r4, fun e he => ?_, fun i hi => ?_, fun s hs => ?_, fun e e' he he' hq => ?_⟩
  · rcases hl e he with w | w
    · rw [(c1 e w).1, (c1 e w).2.1, (c1 e w).2.2]
      rcases h5 e w with ⟨i, i1, i2, i3, i4⟩ | ⟨i, i1, i2, i3, i4⟩
      · exact Or.inl ⟨i, i1, i2, i3, by rw [r1 i i1]; exact i4⟩
      · exact Or.inr ⟨i, by omega, i2, i3, by rw [r3 i i1]; exact i4⟩
    · rw [w]
      exact Or.inr ⟨S, by omega, c2.1, c2.2.1, by rw [c2.2.2, r2]⟩
  · obtain ⟨e, e1, e2, e3, e4⟩ := h6 i hi
    refine ⟨e, by omega, ?_⟩
    rw [(c1 e e1).1, (c1 e e1).2.1, (c1 e e1).2.2, r1 i hi]
    exact ⟨e2, e3, e4⟩
  · by_cases w : s = S
    · exact ⟨P + S, by omega, c2.1, by rw [c2.2.1, w], by rw [c2.2.2, w, r2]⟩
    · obtain ⟨e, e1, e2, e3, e4⟩ := h7 s (by omega)
      refine ⟨e, by omega, ?_⟩
      rw [(c1 e e1).1, (c1 e e1).2.1, (c1 e e1).2.2, r3 s (by omega)]
      exact ⟨e2, e3, e4⟩
  · rcases hl e he with w | w
    · rcases hl e' he' with w' | w'
      · rw [(c1 e w).2.2, (c1 e' w').2.2] at hq
        exact h8 e e' w w' hq
      · rw [(c1 e w).2.2, w', c2.2.2] at hq
        exact absurd hq (hx e w)
    · rcases hl e' he' with w' | w'
      · rw [w, c2.2.2, (c1 e' w').2.2] at hq
        exact absurd hq.symm (hx e' w')
      · omega
/-- a name that both know, or don't -/
theorem zNp_in (h : zNp μ ν P S) : (∃ e, e < P + S ∧ xe_L μ 183 e = x) ↔ (∃ i, i < P ∧ xe_L ν 210 i = x) ∨ (∃ i, i < S ∧ xe_L ν 212 i = x) := by
  obtain ⟨h1, h2, h3, h4, h5, h6, h7, h8⟩ := h
  constructor
  · rintro ⟨e, e1, e2⟩
    rcases h5 e e1 with ⟨i, i1, i2, i3, i4⟩ | ⟨i, i1, i2, i3, i4⟩
    · exact Or.inl ⟨i, i1, by rw [← i4]; exact e2⟩
    · exact Or.inr ⟨i, i1, by rw [← i4]; exact e2⟩
  · rintro (⟨i, i1, i2⟩ | ⟨i, i1, i2⟩)
    · obtain ⟨e, e1, e2, e3, e4⟩ := h6 i i1
      exact ⟨e, e1, by rw [e4]; exact i2⟩
    · obtain ⟨e, e1, e2, e3, e4⟩ := h7 i i1
      exact ⟨e, e1, by rw [e4]; exact i2⟩
/-- the name of a declaration -/
theorem z_dname (hP : zPo N μ ν p) (hR : zRt μ) (hNp : zNp μ ν P S) (h3 : xe_I μ 182 3 = nI (P + S)) :
    (p + 1 < N ∧ p < 3001 ∧ xe_L ν 209 p = xe_L μ 6 p ∧ (∀ e, e < P + S → ¬ xe_L μ 183 e = xe_L μ 6 p) ∧ zD38 182 s2 s3 μ = some (.inl none, zmv (znn μ 182 (P + S) (xe_L μ 6 p) s2 s3) p) ∧ zr42 v1 ν = zD142_51 v1 (xe_L μ 6 p) 1 ν) ∨ zFx N μ ν (zD38 182 s2 s3 μ) (zr42 v1 ν) := by
  obtain ⟨q, pl, t1, t2, t3, t4⟩ := zPo_tok hP
  obtain ⟨hx, e1, f1, b1, b2, b3, b4, b5, b6⟩ := id hP
  have hna : zNa 182 22 := Or.inl ⟨rfl, rfl⟩
  obtain ⟨g1, g2, g3, g4, -⟩ := id hNp
  have h50 : ∀ y, zD142_50 v1 y ν = zint 0 (xe_setI ν 203 11 1) := fun y => by
    unfold zD142_50 zD142_51
    rw [z143f, zcI_ok, if_pos rfl]
  by_cases hc : q = 25 ∧ ¬ ∃ e, e < P + S ∧ xe_L μ 183 e = xe_L μ 6 p
  · have hval := zRk_n t3.2.2.2.2 hc.1
    have hin := hc.2
    rw [zNp_in hNp] at hin
    refine Or.inl ⟨t2.mp (by omega), t4, hval, fun e he w => hc.2 ⟨e, he, w⟩, z38y hna hR e1 t4 (by rw [t3.1, hc.1]) h3 (by omega) (fun e he w => hc.2 ⟨e, he, w⟩), ?_⟩
    unfold zr42
    simp only [zq_vL]
    rw [f1, zx_nI (show p < 3002 by omega) (by decide), zx_nI (show p < 3002 by omega) (by decide), zRk_k t3.2.2.2.2, if_pos (zkr_1.mpr hc.1), show zD144 (xe_L ν 209 p) ν = _ from z144l g3 g1 P zfu 0 (by omega) (zfu_lt (by omega)), zcI_ok, zff_no (E := fun e => decide (xe_L ν 210 e = xe_L ν 209 p)) P 0 (fun y _ hy => decide_eq_false (fun w => hin (Or.inl ⟨y, by omega, by rw [w, hval]⟩))), if_neg (show ¬ (0 : Int32) ≤ -1 by decide), show zD145 (xe_L ν 209 p) ν = _ from z145l g4 g2 S zfu 0 (by omega) (zfu_lt (by omega)), zcI_ok, zff_no (E := fun e => decide (xe_L ν 212 e = xe_L ν 209 p)) S 0 (fun y _ hy => decide_eq_false (fun w => hin (Or.inr ⟨y, by omega, by rw [w, hval]⟩))), if_neg (show ¬ (0 : Int32) ≤ -1 by decide), hval]
  · refine Or.inr (zPo_no hP (z38n hna hR e1 t4 t3.1 t1 h3 (by omega) (zthr b4 b5) ?_) ?_)
    · by_cases e : q = 25
      · by_cases hex : ∃ e, e < P + S ∧ xe_L μ 183 e = xe_L μ 6 p
        · exact Or.inr hex
        · exact absurd ⟨e, hex⟩ hc
      · exact Or.inl e
    · unfold zr42
      simp only [zq_vL]
      rw [f1, zx_nI (show p < 3002 by omega) (by decide), zx_nI (show p < 3002 by omega) (by decide), zRk_k t3.2.2.2.2]
      by_cases e : q = 25
      · have hval := zRk_n t3.2.2.2.2 e
        have hex : ∃ e, e < P + S ∧ xe_L μ 183 e = xe_L μ 6 p := by
          by_cases hex : ∃ e, e < P + S ∧ xe_L μ 183 e = xe_L μ 6 p
          · exact hex
          · exact absurd ⟨e, hex⟩ hc
        rw [zNp_in hNp] at hex
        rw [if_pos (zkr_1.mpr e), show zD144 (xe_L ν 209 p) ν = _ from z144l g3 g1 P zfu 0 (by omega) (zfu_lt (by omega)), zcI_ok]
        by_cases hp : ∃ i, i < P ∧ xe_L ν 210 i = xe_L ν 209 p
        · obtain ⟨i, i1, i2⟩ := hp
          obtain ⟨z, z1, z2, z3⟩ := zff_ge (E := fun e => decide (xe_L ν 210 e = xe_L ν 209 p)) i1 (decide_eq_true i2)
          rw [z3, if_pos (nI_pos' (by omega)), h50]
        · rw [zff_no (E := fun e => decide (xe_L ν 210 e = xe_L ν 209 p)) P 0 (fun y _ hy => decide_eq_false (fun w => hp ⟨y, by omega, w⟩)), if_neg (show ¬ (0 : Int32) ≤ -1 by decide), show zD145 (xe_L ν 209 p) ν = _ from z145l g4 g2 S zfu 0 (by omega) (zfu_lt (by omega)), zcI_ok]
          obtain ⟨i, i1, i2⟩ := hex.resolve_left (fun ⟨i, i1, i2⟩ => hp ⟨i, i1, by rw [i2, hval]⟩)
          obtain ⟨z, z1, z2, z3⟩ := zff_ge (E := fun e => decide (xe_L ν 212 e = xe_L ν 209 p)) i1 (decide_eq_true (by rw [i2, hval]))
          rw [z3, if_pos (nI_pos' (by omega)), h50]
      · rw [if_neg (fun w => e (zkr_1.mp w)), h50]
/-- what a declaration may change -/
def zXd (a j : Nat) : Prop := (a = 181 ∧ j = 6) ∨ (a = 182 ∧ j = 3) ∨ a = 184 ∨ a = 185 ∨ (a = 7 ∧ (j = 4 ∨ j = 5)) ∨ a = 14
def zYd (a j : Nat) : Prop := a = 183 ∧ j = j
def zXf2 (a j : Nat) : Prop := (a = 203 ∧ (j = 10 ∨ j = 12 ∨ j = 15)) ∨ a = 211
def zYf2 (a j : Nat) : Prop := (a = 210 ∨ a = 212) ∧ j = j
theorem zBD_k {P' S' p' : Nat} (h : zBD N P S μ ν p) (hP' : zPo N μ' ν' p') (hp : p ≤ p') (G1 : zfG zXd zYd zZu μ μ') (G2 : zfG zXf2 zYf2 zZu ν ν') (hNp' : zNp μ' ν' P' S') (c4 : xe_I μ' 7 4 = nI P') (c5 : xe_I μ' 7 5 = nI S') (cv : ∀ j, j < P' → xe_I μ' 14 j = xe_I ν' 211 j) (c182 : xe_I μ' 182 3 = nI (P' + S')) : zBD N P' S' μ' ν' p' := by
  obtain ⟨hP, ⟨hR, hNp, ⟨p1, p2, p3⟩, ct, cm, -⟩, ⟨⟨n1, n2, n3, n4⟩, ⟨n5, n6, n7, n8⟩⟩, ⟨c1, c2, c3, c4', c5', c6, c7, c8⟩, -⟩ := id h
  have g : ∀ a j, a < 265 → ¬ zXd a j → xe_I μ' a j = xe_I μ a j := fun a j q1 q2 => (G1 a q1 j).1 q2
  have gr : ∀ a j, a < 265 → ¬ zXf2 a j → xe_I ν' a j = xe_I ν a j := fun a j q1 q2 => (G2 a q1 j).1 q2
  exact ⟨hP', ⟨zRt_G hR G1, hNp', ⟨c4, c5, (gr 203 70 (by decide) (by unfold zXf2; omega)).trans p3⟩, fun t ht => (g _ 0 (by omega) (by unfold zXd; omega)).trans (ct t ht), fun i hi => (g _ 0 (by omega) (by unfold zXd; omega)).trans (cm i hi), cv⟩, ⟨⟨(g 190 3 (by decide) (by unfold zXd; omega)).trans n1, (g 7 7 (by decide) (by unfold zXd; omega)).trans n2, (gr 203 22 (by decide) (by unfold zXf2; omega)).trans n3, fun t ht => absurd ht (by omega)⟩, ⟨(g 186 3 (by decide) (by unfold zXd; omega)).trans n5, (g 7 6 (by decide) (by unfold zXd; omega)).trans n6, (gr 203 17 (by decide) (by unfold zXf2; omega)).trans n7, fun t ht => absurd ht (by omega)⟩⟩, ⟨(g 8 2 (by decide) (by unfold zXd; omega)).trans c1, (g 181 7 (by decide) (by unfold zXd; omega)).trans c2, (gr 203 47 (by decide) (by unfold zXf2; omega)).trans c3, (gr 203 52 (by decide) (by unfold zXf2; omega)).trans c4', by omega, c6, (gr 203 37 (by decide) (by unfold zXf2; omega)).trans c7, (gr 203 43 (by decide) (by unfold zXf2; omega)).trans c8⟩, c182⟩
end
