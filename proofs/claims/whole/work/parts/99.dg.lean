/-! compile -/
def zD15c (r : zO) : zO := match r with
  | some (.inl none, m4) => zq_cV (zD68 m4) fun m5 => zint 0 m5
  | some (.inr _, m4) => zq_cV (zD34 m4) fun m5 => zq_cI (zD67 m5) fun x m6 => zint (1 + x) m6
  | _ => none
theorem zD15c_r {a : Nat} {m : xe_Mem} : zD15c (some (.inr a, m)) = zq_cV (zD34 m) fun m5 => zq_cI (zD67 m5) fun x m6 => zint (1 + x) m6 := rfl
def zD15 (μ : xe_Mem) : zO := zq_cV (zD16 (xe_I (xe_setI μ 194 1 0) 0 3) (xe_setI μ 194 1 0)) fun m2 => zD15c (zD33 (xe_setI m2 0 3 0))
theorem zaddx {σ : xe_Mem} {ci a j : Nat} (hlen : 265 ≤ (xe_sh σ).length) (ha : a < 265) : xe_I (xe_add σ (.inl ci) 6) a j = xe_I σ a j ∧ xe_L (xe_add σ (.inl ci) 6) a j = xe_L σ a j ∧ xe_R (xe_add σ (.inl ci) 6) a j = xe_R σ a j := by
  have hl : 265 ≤ σ.1.length := hlen
  refine ⟨?_, ?_, ?_⟩
  · show xe_w σ.2.1 σ.1.length (fun _ => 0) a j = _
    rw [xe_w_ne _ _ (by omega)]
  · show xe_w σ.2.2.1 σ.1.length (fun _ => 0) a j = _
    rw [xe_w_ne _ _ (by omega)]
  · show xe_w σ.2.2.2.1 σ.1.length (fun _ => none) a j = _
    rw [xe_w_ne _ _ (by omega)]
theorem xlen {μ : xe_Mem} (h : ∃ g, xe_sh μ = xv_S ++ g) : 265 ≤ (xe_sh μ).length := by
  obtain ⟨g, hg⟩ := h
  rw [hg, List.length_append, xv_Sl]
  omega
section
variable {μ ν : xe_Mem}
theorem z_ccompile (hJ : zJJ μ ν) (h1 : (xe_sh μ).length < xg_CT) (h2 : xe_sl μ + 6 ≤ xg_ST) (h16 : ∀ m2, zD16 (xe_I (xe_setI μ 194 1 0) 0 3) (xe_setI μ 194 1 0) = some (.inl none, m2) → zRt m2 ∧ xe_sh m2 = xe_sh μ ∧ xe_sl m2 = xe_sl μ) :
    (∃ m2, zD16 (xe_I (xe_setI μ 194 1 0) 0 3) (xe_setI μ 194 1 0) = some (.inl none, m2) ∧ ∀ a m4, zD33 (xe_setI m2 0 3 0) = some (.inr a, m4) → xe_ci m4 a = some 12) ∧ ∃ v μ' ν', zD15 μ = zint v μ' ∧ zD133 ν = zint v ν' ∧ (zRt μ' → (∃ g, xe_sh μ' = xv_S ++ g) → zJJ μ' ν') := by
  obtain ⟨⟨tb, tx, s, n, ⟨b1, b1', b1''⟩, ⟨b2, b3, b4, b5⟩, b6, b7, b8, b9, b10⟩, ⟨⟨hR, hsh⟩, ct, cm, u, hu1, hu2⟩, -⟩ := id hJ
  have hlen := xlen hsh
  have e03 : xe_I (xe_setI μ 194 1 0) 0 3 = nI n := by rw [xu_In (by omega)]; exact b4
  -- the tokens
  obtain ⟨m2, ν2, N, t1, t2, hTE, hfc, hfr⟩ := z_tokens (tb := tx) (n := n) (μ := xe_setI μ 194 1 0) (ν := xe_setI ν 203 0 0) b1'' (fun i hi => ⟨(b8 i hi).1, (xu_In (by omega)).trans (b8 i hi).2⟩) ((xu_In (by omega)).trans b5) (fun i hi => ⟨(b9 i hi).1, (xu_In (by omega)).trans (b9 i hi).2⟩) b10
  rw [← e03] at t1
  obtain ⟨hR2, hs2, hl2⟩ := h16 m2 t1
  have c2 : ∀ a j, a ≠ 3 → a ≠ 4 → a ≠ 5 → a ≠ 6 → ¬ (a = 194 ∧ j = 1) → xe_I m2 a j = xe_I μ a j := fun a j w1 w2 w3 w4 w5 => by
    rw [(hfc a w1 w2 w3 w4).1, xu_In w5]
  have c194 : xe_I m2 194 1 = 0 := by rw [(hfc 194 (by decide) (by decide) (by decide) (by decide)).1, xu_I]
  have r2 : ∀ a j, a ≠ 207 → a ≠ 208 → a ≠ 209 → ¬ (a = 203 ∧ (j = 0 ∨ j = 6)) → xe_I ν2 a j = xe_I ν a j := fun a j w1 w2 w3 w4 => by
    by_cases e : a = 203
    · subst e
      rw [hfr.2.1 j (by omega), xu_In (by omega)]
    · rw [(hfr.1 a e w1 w2 w3).1, xu_In (by omega)]
  have hrd : zRd N (xe_setI m2 0 3 0) (xe_setI ν2 203 3 0) := by
    refine ⟨zTE_k hTE (fun a ha => ⟨funext fun j => xu_In (by omega), rfl, rfl⟩) (fun a ha => ⟨funext fun j => xu_In (by omega), rfl⟩), hR2, fun t ht => ?_, fun i hi => ?_, by show 265 ≤ (xe_sh m2).length; rw [hs2]; exact hlen, by show (xe_sh m2).length < _; rw [hs2]; exact h1, by show xe_sl m2 + 6 ≤ _; rw [hl2]; exact h2, u, hu1, ?_⟩
    · rw [xu_In (by omega), c2 _ _ (by omega) (by omega) (by omega) (by omega) (by omega)]; exact ct t ht
    · rw [xu_In (by omega), c2 _ _ (by omega) (by omega) (by omega) (by omega) (by omega)]; exact cm i hi
    · rw [xu_In (by omega), c2 _ _ (by omega) (by omega) (by omega) (by omega) (by omega)]; exact hu2
  have h133 : zD133 ν = zr133 (xe_setI ν2 203 3 0) := by
    unfold zD133
    show zq_cV (zD134 (xe_setI ν 203 0 0)) _ = _
    rw [t2, zcV_ok]
    rfl
  have h15 : zD15 μ = zD15c (zD33 (xe_setI m2 0 3 0)) := by
    unfold zD15
    rw [t1, zcV_ok]
  have r3 : ∀ j, j ≤ 9 → j ≠ 0 → j ≠ 6 → j ≠ 3 → xe_I (xe_setI ν2 203 3 0) 203 j = xe_I ν 203 j := fun j w1 w2 w3 w4 => by
    rw [xu_In (by omega), r2 203 j (by omega) (by omega) (by omega) (by omega)]
  have hL206 : ∀ w, w < 11 → xe_L ν2 206 w = nL (zlr (zwd w).reverse) := fun w hw => by
    rw [(hfr.1 206 (by decide) (by decide) (by decide) (by decide)).2.1]
    exact b10 w hw
  rcases z_read hrd with ⟨μ4, ν4, pl, P, S, M, T, Sw, Sl, L, d1, d2, d3, ⟨d4, d5, d6, d7⟩, u', hu1', hu2'⟩ | ⟨μ4, ν4, tk, pl, d1, d2, dt, d3, dp, dq, ⟨d4, d5, d6, d7⟩, u', hu1', hu2'⟩
  · refine ⟨⟨m2, t1, fun a m4 w => by rw [d1] at w; cases w⟩, ?_⟩
    obtain ⟨μ5, ν5, p1, p2, p3, p4, p5⟩ := z_prep (v2 := nI pl) d3
    refine ⟨0, μ5, ν5, ?_, ?_, fun hR5 hs5 => ?_⟩
    · rw [h15, d1]
      show zq_cV (zD68 μ4) _ = _
      rw [p1, zcV_ok]
    · rw [h133, d2]
      unfold zD133_98
      rw [if_neg (show ¬ (1 : Int32) = 0 by decide)]
      exact p2
    · have nA : ∀ a j, a < 17 ∨ 180 < a → ¬ zXpA a j := fun a j w q => by
        rcases q with ⟨m, q1, q2⟩ | ⟨t, q1, q2⟩ <;> omega
      have kA : ∀ a j, a < 265 → a < 17 ∨ 180 < a → xe_I μ5 a j = xe_I μ4 a j := fun a j w1 w2 => (p4 a w1 j).1 (nA a j w2)
      have kB : ∀ a j, a < 265 → a < 215 ∨ (238 < a ∧ a < 259) → xe_I ν5 a j = xe_I ν4 a j := fun a j w1 w2 => (p5 a w1 j).1 (by unfold zXpB; omega)
      have k0 : ∀ a j, a ≤ 2 → ¬ (a = 0 ∧ j = 3) → xe_I μ5 a j = xe_I μ a j := fun a j w1 w2 => by
        rw [kA a j (by omega) (by omega), (d4.1 a (by omega)).1, xu_In w2, c2 a j (by omega) (by omega) (by omega) (by omega) (by omega)]
      have kr : ∀ a j, a = 204 ∨ a = 205 → xe_I ν5 a j = xe_I ν a j := fun a j w => by
        rw [kB a j (by omega) (by omega), (d5.1 a (by omega) (by omega)).1, xu_In (by omega), r2 a j (by omega) (by omega) (by omega) (by omega)]
      obtain ⟨F, K, Z, pr, hA, hg⟩ := z_gt p3
      refine ⟨⟨tb, tx, s, 0, ⟨b1, b1', by omega⟩, ⟨(k0 0 2 (by omega) (by omega)).trans b2, ?_, ?_, ?_⟩, fun i hi => ⟨(b6 i hi).1, (k0 1 i (by omega) (by omega)).trans (b6 i hi).2⟩, fun i hi => ⟨(b7 i hi).1, (kr 204 i (by omega)).trans (b7 i hi).2⟩, fun i hi => by omega, fun i hi => by omega, fun w hw => ?_⟩, ⟨⟨hR5, hs5⟩, p3.1.2.2.2.1, p3.1.2.2.2.2.1, u', hu1', (kA 181 9 (by omega) (by omega)).trans hu2'⟩, P, S, M, T, Sw, Sl, F, K, Z, pr, hg, Or.inr hA, Or.inl ⟨?_, p3.1.2.2.1.2.2⟩⟩
      · rw [kB 203 1 (by omega) (by omega), d5.2 1 (by omega), r3 1 (by omega) (by omega) (by omega) (by omega)]
        exact b3
      · rw [kA 0 3 (by omega) (by omega), (d4.1 0 (by omega)).1, xu_I]
        rfl
      · rw [kB 203 3 (by omega) (by omega), d5.2 3 (by omega), xu_I]
        rfl
      · rw [(p5 206 (by decide) w).2.1 (fun q => q.2 rfl), (d5.1 206 (by omega) (by omega)).2]
        exact hL206 w hw
      · rw [kA 194 1 (by omega) (by omega), d4.2.2.2 1, xu_In (by omega)]
        exact c194
  · refine ⟨⟨m2, t1, fun a m4 w => by
      rw [d1] at w
      cases w
      exact xe_ci_add⟩, ?_⟩
    have hlen4 : 265 ≤ (xe_sh μ4).length := by
      rw [d6]
      show 265 ≤ (xe_sh m2).length
      rw [hs2]
      exact hlen
    have ka : ∀ a j, a < 265 → xe_I (xe_add μ4 (.inl 12) 6) a j = xe_I μ4 a j := fun a j w => (zaddx hlen4 w).1
    obtain ⟨m5, hm5⟩ : ∃ m5, m5 = xe_setI (xe_setI (xe_setI (xe_setI (xe_setI (xe_add μ4 (.inl 12) 6) 8 2 0) 7 4 0) 7 5 0) 7 6 0) 7 7 0 := ⟨_, rfl⟩
    have k5 : ∀ a j, a < 265 → ¬ (a = 8 ∧ j = 2) → ¬ (a = 7 ∧ 4 ≤ j ∧ j ≤ 7) → xe_I m5 a j = xe_I μ4 a j := fun a j w1 w2 w3 => by
      rw [hm5, xu_In (by omega), xu_In (by omega), xu_In (by omega), xu_In (by omega), xu_In (by omega), ka a j w1]
    have k7 : xe_I m5 7 4 = 0 ∧ xe_I m5 7 5 = 0 ∧ xe_I m5 7 6 = 0 ∧ xe_I m5 7 7 = 0 := by
      rw [hm5]
      refine ⟨?_, ?_, ?_, xu_I⟩
      · rw [xu_In (by omega), xu_In (by omega), xu_In (by omega), xu_I]
      · rw [xu_In (by omega), xu_In (by omega), xu_I]
      · rw [xu_In (by omega), xu_I]
    refine ⟨1 + nI pl, m5, zclr ν4, ?_, h133.trans d2, fun hR5 hs5 => ?_⟩
    · rw [h15, d1, zD15c_r]
      have h34 : zD34 (xe_add μ4 (.inl 12) 6) = some (.inl none, m5) := by
        rw [hm5]
        rfl
      rw [h34, zcV_ok]
      unfold zD67
      rw [k5 181 6 (by omega) (by omega) (by omega), d3, zx_nI dt (by decide), zcI_ok, k5 5 tk (by omega) (by omega) (by omega), dp]
    · have k0 : ∀ a j, a ≤ 2 → ¬ (a = 0 ∧ j = 3) → xe_I m5 a j = xe_I μ a j := fun a j w1 w2 => by
        rw [k5 a j (by omega) (by omega) (by omega), (d4.1 a (by omega)).1, xu_In w2, c2 a j (by omega) (by omega) (by omega) (by omega) (by omega)]
      have kz : ∀ a j, ¬ (a = 203 ∧ 10 ≤ j) → xe_I (zclr ν4) a j = xe_I ν4 a j := fun a j w => by
        unfold zclr
        rw [xu_In (by omega), xu_In (by omega), xu_In (by omega), xu_In (by omega), xu_In (by omega), xu_In (by omega), xu_In (by omega), xu_In (by omega), xu_In (by omega)]
      have kr : ∀ a j, a = 204 ∨ a = 205 → xe_I (zclr ν4) a j = xe_I ν a j := fun a j w => by
        rw [kz a j (by omega), (d5.1 a (by omega) (by omega)).1, xu_In (by omega), r2 a j (by omega) (by omega) (by omega) (by omega)]
      have z12' : xe_I (zclr ν4) 203 12 = 0 ∧ xe_I (zclr ν4) 203 15 = 0 ∧ xe_I (zclr ν4) 203 17 = 0 ∧ xe_I (zclr ν4) 203 22 = 0 ∧ xe_I (zclr ν4) 203 70 = 0 := by
        unfold zclr
        refine ⟨?_, ?_, ?_, ?_, xu_I⟩
        · rw [xu_In (by omega), xu_In (by omega), xu_In (by omega), xu_In (by omega), xu_In (by omega), xu_In (by omega), xu_In (by omega), xu_In (by omega), xu_I]
        · rw [xu_In (by omega), xu_In (by omega), xu_In (by omega), xu_In (by omega), xu_In (by omega), xu_In (by omega), xu_In (by omega), xu_I]
        · rw [xu_In (by omega), xu_In (by omega), xu_In (by omega), xu_In (by omega), xu_In (by omega), xu_In (by omega), xu_I]
        · rw [xu_In (by omega), xu_In (by omega), xu_In (by omega), xu_In (by omega), xu_In (by omega), xu_I]
      refine ⟨⟨tb, tx, s, 0, ⟨b1, b1', by omega⟩, ⟨(k0 0 2 (by omega) (by omega)).trans b2, ?_, ?_, ?_⟩, fun i hi => ⟨(b6 i hi).1, (k0 1 i (by omega) (by omega)).trans (b6 i hi).2⟩, fun i hi => ⟨(b7 i hi).1, (kr 204 i (by omega)).trans (b7 i hi).2⟩, fun i hi => by omega, fun i hi => by omega, fun w hw => ?_⟩, ⟨⟨hR5, hs5⟩, fun t ht => ?_, fun i hi => ?_, u', hu1', (k5 181 9 (by omega) (by omega) (by omega)).trans hu2'⟩, 0, 0, 0, 0, 0, 0, fun _ => 0, fun _ => 0, fun _ => 0, fun _ => 0, ⟨⟨by omega, by omega, by omega, by omega⟩, ⟨⟨k7.1, k7.2.1, k7.2.2.1, k7.2.2.2⟩, ⟨z12'.1, z12'.2.1, z12'.2.2.1, z12'.2.2.2.1⟩⟩, fun j hj => by omega, fun t ht => by omega, fun m hm => by omega⟩, Or.inl rfl, Or.inl ⟨?_, z12'.2.2.2.2⟩⟩
      · rw [kz 203 1 (by omega), d5.2 1 (by omega), r3 1 (by omega) (by omega) (by omega) (by omega)]
        exact b3
      · rw [k5 0 3 (by omega) (by omega) (by omega), (d4.1 0 (by omega)).1, xu_I]
        rfl
      · rw [kz 203 3 (by omega), d5.2 3 (by omega), xu_I]
        rfl
      · show xe_L ν4 206 w = _
        rw [(d5.1 206 (by omega) (by omega)).2]
        exact hL206 w hw
      · rw [k5 _ 0 (by omega) (by omega) (by omega), d4.2.1 t ht, xu_In (by omega), c2 _ _ (by omega) (by omega) (by omega) (by omega) (by omega)]
        exact ct t ht
      · rw [k5 _ 0 (by omega) (by omega) (by omega), d4.2.2.1 i hi, xu_In (by omega), c2 _ _ (by omega) (by omega) (by omega) (by omega) (by omega)]
        exact cm i hi
      · rw [k5 194 1 (by omega) (by omega) (by omega), d4.2.2.2 1, xu_In (by omega)]
        exact c194
end
