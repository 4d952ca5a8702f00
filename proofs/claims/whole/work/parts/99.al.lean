/-! reading a switch: its head and its expression -/
def zXe (U a j : Nat) : Prop := (a = 203 ∧ (j = 10 ∨ j = 47 ∨ (59 ≤ j ∧ j ≤ 64))) ∨ a = 248 ∨ a = 249 ∨ ((a = 239 ∨ a = 240) ∧ U ≤ j)
def zXce (L a j : Nat) : Prop := (a = 181 ∧ (j = 6 ∨ j = 8 ∨ j = 9)) ∨ (a = 8 ∧ j = 2) ∨ ((a = 9 ∨ a = 10) ∧ L ≤ j)
section
variable {N P S m T per y p q pl n f e L U t off a0 ub Sw : Nat} {ab : Nat → Bool} {μ ν : xe_Mem} {v1 v3 a1 : Int32} {a j : Nat}
theorem zXr_e (h : ¬ zXe U a j) (h2 : a ≠ 226 ∨ j < 12 * t ∨ 12 * t + 12 ≤ j) : zXr U t a j = false := by
  unfold zXe at h
  unfold zXr
  by_cases e : a = 226
  · rw [zbl3 (show j < 12 * t ∨ 12 * t + 12 ≤ j by omega)]
    simp only [Bool.and_false, Bool.or_false, Bool.false_or, Bool.or_eq_false_iff, Bool.and_eq_false_iff, beq_eq_false_iff_ne, ne_eq]
    omega
  · by_cases e2 : a = 239 ∨ a = 240
    · rw [zbleF (show j < U by omega)]
      simp only [Bool.and_false, Bool.or_false, Bool.false_or, Bool.or_eq_false_iff, Bool.and_eq_false_iff, beq_eq_false_iff_ne, ne_eq]
      omega
    · simp only [Bool.or_eq_false_iff, Bool.and_eq_false_iff, beq_eq_false_iff_ne, ne_eq]
      omega
theorem zXc_e (h : ¬ zXce L a j) : zXc L a j = false := by
  unfold zXce at h
  unfold zXc
  by_cases e2 : a = 9 ∨ a = 10
  · rw [zbleF (show j < L by omega)]
    simp only [Bool.and_false, Bool.or_false, Bool.false_or, Bool.or_eq_false_iff, Bool.and_eq_false_iff, beq_eq_false_iff_ne, ne_eq]
    omega
  · simp only [Bool.or_eq_false_iff, Bool.and_eq_false_iff, beq_eq_false_iff_ne, ne_eq]
    omega
/-- an expression where no task is at hand -/
theorem z_E0 (h : ∀ t, t < 24 → zQ N P S 0 t false off a0 ab μ ν p L ub) (h8 : xe_I μ 181 8 = 0) :
    (∃ μ' ν' p' L' ub', zE56 0 0 μ = some (.inl none, μ') ∧ zD160 (-1) ν = zint 1 ν' ∧ zQ N P S 0 0 false off a0 ab μ' ν' p' L' ub' ∧ p < p' ∧ L < L' ∧ L' + p ≤ L + p' ∧ zEq P S μ' L L' ∧ zfG (zXce L) zZu zZu μ μ' ∧ zfG (zXe (L + off)) zZu zZu ν ν' ∧ xe_sh μ' = xe_sh μ ∧ xe_sl μ' = xe_sl μ) ∨ zFl N L (L + off) 0 μ ν (zE56 0 0 μ) (zD160 (-1) ν) := by
  have hT : ∀ t, zTT (-1) false t := fun t => Or.inr ⟨rfl, by decide⟩
  rcases z_E (hT 0) (h 0 (by decide)) h8 with ⟨μ', ν', p', L', ub', o1, o2, o3, o4, o5, o6, o7, o8, o9, o10, o11, o12⟩ | hfl
  · rcases z_E (hT 1) (h 1 (by decide)) h8 with ⟨μ2, ν2, p2, L2, ub2, w1, w2, w3, w4, w5, w6, w7, w8, w9, w10, w11, w12⟩ | ⟨μ2, ν2, p2, w1, w2, -⟩
    · have e2 : ν2 = ν' := by
        rw [o2] at w2
        injection w2 with w2
        injection w2 with _ w2
        exact w2.symm
      subst e2
      refine Or.inl ⟨μ', ν2, p', L', ub', o1, o2, o3, o4, o5, o6, o8, fun a ha j => ⟨fun q => (o9 a ha).1 j (zXc_e q), fun _ => by rw [(o9 a ha).2.1], fun _ => by rw [(o9 a ha).2.2]⟩, fun a ha j => ⟨fun q => ?_, fun _ => by rw [(o10 a ha).2.1], fun _ => by rw [(o10 a ha).2.2]⟩, o11, o12⟩
      by_cases hj : a = 226 ∧ j < 12
      · exact (w10 a ha).1 j (zXr_e q (by omega))
      · exact (o10 a ha).1 j (zXr_e q (by omega))
    · exfalso
      rw [o2] at w2
      injection w2 with w2
      injection w2 with w2 _
      injection w2 with w2
      injection w2 with w2
      injection w2 with w2
      exact absurd w2 (by decide)
  · exact Or.inr hfl
/-- the part, and whether the spans go into it -/
theorem z_sa (h : zPo N μ ν p) (hR : zRt μ) (hm : m < 4) (he : e < 4) (hr : xe_R μ 181 10 = some (17 + 11 * m)) (hp1 : xe_I μ (17 + 11 * m) 1 = nI per) (hp2 : xe_I ν 214 m = nI per) (hper : 1 ≤ per) (h120 : per ≤ 120) (hs : xe_I μ (17 + 11 * m) 3 = nI n) (hn : n ≤ 6) (hfn : f + n = T) (hT : T ≤ 24) (hr18 : ∀ i, i < n → xe_R μ (18 + 11 * m) i = some (61 + 5 * (f + i))) (hsp : ∀ t, f ≤ t → t < T → xe_I ν 218 t = nI m ∧ ∃ sp, 1 ≤ sp ∧ sp ≤ 120 ∧ xe_I μ (61 + 5 * t) 3 = nI sp ∧ xe_I ν 221 t = nI sp) (hlow : ∀ t, t < f → ∃ i, i < m ∧ xe_I ν 218 t = nI i) (ht : xe_I ν 203 22 = nI T) :
    (∃ ev, 1 ≤ ev ∧ ev ≤ per ∧ p + 1 < N ∧ zc63d (24 + 11 * m + e) μ = zc63e (24 + 11 * m + e) (xe_setI (zmv μ p) (24 + 11 * m + e) 0 (nI ev)) ∧ zr67 (nI m) ν = (zq_cI (zD154 5 (zrmv ν p)) fun x16 m14 => if x16 = 0 then some (.inl (some (.int 0)), m14) else zr67c (nI m) (nI ev) m14)) ∨ zFx N μ ν (zc63d (24 + 11 * m + e) μ) (zr67 (nI m) ν) := by
  obtain ⟨q, pl, t1, t2, t3, t4⟩ := zPo_tok h
  obtain ⟨hx, e1, f1, b1, b2, b3, b4, b5, b6⟩ := id h
  obtain ⟨y, hy⟩ := z_num1 t3
  have h0 : ∀ k, k < T → xe_I ν 218 k = nI m → ¬ xe_I ν 221 k = 0 := fun k hk hm2 => by
    by_cases hkf : k < f
    · obtain ⟨i, i1, i2⟩ := hlow k hkf
      rw [i2, zi_eq (by omega) (by omega)] at hm2
      omega
    · obtain ⟨-, sp, s1, s2, s3, s4⟩ := hsp k (by omega) hk
      rw [s4]
      exact nI_ne0 s1 (by omega)
  have hz := z167b (y := y) ht hT f1 hm hp2 h120 t4 t3 (fun e => (hy e).2) h0
  by_cases hpt : zPt q per y
  · have hN : p + 1 < N := t2.mp (by have := hpt.1; omega)
    have hdv : y ∣ per := Nat.dvd_of_mod_eq_zero hpt.2.2
    have hev : 1 ≤ per / y := Nat.div_pos (Nat.le_of_dvd hper hdv) hpt.2.1
    have hev2 : per / y ≤ per := Nat.div_le_self _ _
    have h48 := z48y (a1 := 1) (y := y) hm hr hp1 h120 e1 t4 t3.1 (hy hpt.1).1 hpt
    rw [if_neg (show ¬ (1 : Int32) = 0 by decide), show zD49 (17 + 11 * m) (nI (per / y)) μ = _ from z49l (v := nI (per / y)) (f := f) hR hm hs hn (by omega) hr18 (fun i hi => by
      obtain ⟨-, sp, s1, s2, s3, s4⟩ := hsp (f + i) (by omega) (by omega)
      rw [s3]
      exact nI_ne0 s1 (by omega)) n zfu 0 (by omega) (zfu_lt (by omega)), zcI_ok] at h48
    have hAB : zall (fun k => decide (¬ xe_I ν 218 k = nI m ∨ nI (per / y) - nI (per / y) / xe_I ν 221 k * xe_I ν 221 k = 0)) T 0 = zall (fun i => decide (nI (per / y) - nI (per / y) / xe_I μ (61 + 5 * (f + i)) 3 * xe_I μ (61 + 5 * (f + i)) 3 = 0)) n 0 := by
      rw [Bool.eq_iff_iff, zall_t, zall_t]
      constructor
      · intro w i _ hi
        have w1 := of_decide_eq_true (w (f + i) (by omega) (by omega))
        obtain ⟨s0, sp, s1, s2, s3, s4⟩ := hsp (f + i) (by omega) (by omega)
        rw [s4] at w1
        show decide _ = true
        rw [s3]
        exact decide_eq_true (w1.resolve_left (fun w2 => w2 s0))
      · intro w k _ hk
        show decide _ = true
        by_cases hkf : k < f
        · obtain ⟨i, i1, i2⟩ := hlow k hkf
          refine decide_eq_true (Or.inl (fun w2 => ?_))
          rw [i2, zi_eq (by omega) (by omega)] at w2
          omega
        · have w1 := of_decide_eq_true (w (k - f) (by omega) (by omega))
          rw [show f + (k - f) = k by omega] at w1
          obtain ⟨s0, sp, s1, s2, s3, s4⟩ := hsp k (by omega) (by omega)
          rw [s3] at w1
          rw [s4]
          exact decide_eq_true (Or.inr w1)
    rw [hz.1 hpt, hAB]
    generalize zall (fun i => decide (nI (per / y) - nI (per / y) / xe_I μ (61 + 5 * (f + i)) 3 * xe_I μ (61 + 5 * (f + i)) 3 = 0)) n 0 = A at h48 ⊢
    cases A
    · refine Or.inr ?_
      unfold zc63d zE58
      rw [h48, if_pos (show zb01 false = 0 by decide)]
      unfold zD48_53
      rw [z37_1, show zD143 (zb01 false) ν = zint 0 (xe_setI ν 203 11 1) from z143f, zcI_ok, if_pos rfl]
      exact zFx_cI (zFx_cV (zPo_no h rfl rfl))
    · refine Or.inl ⟨per / y, hev, hev2, hN, ?_, ?_⟩
      · unfold zc63d
        rw [h48, if_neg (show ¬ zb01 true = 0 by decide)]
        unfold zD48_52 zD48_53
        rw [z37_0, zcV_ok]
        simp only [zq_m]
        rw [e1, nI_1, zcI_ok, zo_in (zS_x m hm e he) (by omega)]
        rfl
      · unfold zE58
        rw [show zD143 (zb01 true) ν = zint 1 (zrmv ν p) from z143t f1 b2, zcI_ok, if_neg (show ¬ (1 : Int32) = 0 by decide)]
  · rw [hz.2 hpt]
    refine Or.inr (zFx_cI (zPo_no h ?_ rfl))
    exact z48n (y := y) hm hr hp1 h120 e1 t4 t3.1 t1 (fun e => (hy e).1) (zthr b4 b5) hpt
/-- 'if' and the expression -/
theorem z_sb {x11 ev : Nat} (h : zPo N μ ν p) (hR : zRt μ) (hNp : zNp μ ν P S) (hx : 27 < x11 + 4 ∧ x11 < 61) (p1 : xe_I μ 7 4 = nI P) (p2 : xe_I μ 7 5 = nI S) (c1 : xe_I μ 8 2 = nI L) (c3 : xe_I ν 203 47 = nI (L + off)) (c7 : xe_I ν 203 37 = nI Sw) (hSw : Sw < 16) (hL : L ≤ p) (hof : off ≤ 40) :
    (∃ μ' ν' p' L' ub', zc63e x11 μ = zc63f x11 (xe_setI μ' x11 2 (nI L')) ∧ (zq_cI (zD154 5 ν) fun x16 m14 => if x16 = 0 then some (.inl (some (.int 0)), m14) else zr67c (nI m) (nI ev) m14) = zr67d (nI Sw) ν' ∧ zQ N P S 0 0 false off L (fun _ => false) μ' ν' p' L' ub' ∧ p + 1 < p' ∧ L < L' ∧ zEq P S μ' L L' ∧ zfG (zXce L) zZu zZu (xe_setI (xe_setI (xe_setI (zmv μ p) 182 3 (nI (P + S))) 181 8 0) x11 1 (nI L)) μ' ∧ zfG (zXe (L + off)) zZu zZu (xe_setI (xe_setI (xe_setI (zrmv ν p) 231 Sw (nI m)) 232 Sw (nI ev)) 233 Sw (nI (L + off))) ν' ∧ xe_sh μ' = xe_sh μ ∧ xe_sl μ' = xe_sl μ) ∨ zFx N μ ν (zc63e x11 μ) (zq_cI (zD154 5 ν) fun x16 m14 => if x16 = 0 then some (.inl (some (.int 0)), m14) else zr67c (nI m) (nI ev) m14) := by
  unfold zc63e
  rcases zt_word h (K := 5) (by decide) with ⟨hN, a1, a2⟩ | hf
  · have hP := zPo_mv h hN
    have a1' : zD41 1000006 μ = some (.inl none, zmv μ p) := a1
    have a2' : zD154 5 ν = zint 1 (zrmv ν p) := a2
    have hA : (zq_cV (zD41 1000006 μ) fun m18 => zq_cV (zD52 m18) fun m20 => zq_m (xe_setI m20 181 8 0) fun m22 => zq_m (xe_setI m22 x11 1 (xe_I m22 8 2)) fun m24 => zq_cV (zE56 0 0 m24) fun m26 => zq_m (xe_setI m26 x11 2 (xe_I m26 8 2)) fun m28 => zc63f x11 m28) = (zq_cV (zE56 0 0 (xe_setI (xe_setI (xe_setI (zmv μ p) 182 3 (nI (P + S))) 181 8 0) x11 1 (nI L))) fun m26 => zq_m (xe_setI m26 x11 2 (xe_I m26 8 2)) fun m28 => zc63f x11 m28) := by
      rw [a1', zcV_ok]
      unfold zD52
      simp only [zq_m]
      rw [zcV_ok, show xe_I (zmv μ p) 7 4 = nI P from (xu_In (by omega)).trans p1, show xe_I (zmv μ p) 7 5 = nI S from (xu_In (by omega)).trans p2, nI_add, show xe_I (xe_setI (xe_setI (zmv μ p) 182 3 (nI (P + S))) 181 8 0) 8 2 = nI L from (xu_In (by omega)).trans ((xu_In (by omega)).trans ((xu_In (by omega)).trans c1))]
    have hB : (zq_cI (zD154 5 ν) fun x16 m14 => if x16 = 0 then some (.inl (some (.int 0)), m14) else zr67c (nI m) (nI ev) m14) = (zq_cI (zD160 (-1) (xe_setI (xe_setI (xe_setI (zrmv ν p) 231 Sw (nI m)) 232 Sw (nI ev)) 233 Sw (nI (L + off)))) fun x38 m36 => if x38 = 0 then some (.inl (some (.int 0)), m36) else zr67d (nI Sw) m36) := by
      rw [a2', zcI_ok, if_neg (show ¬ (1 : Int32) = 0 by decide)]
      unfold zr67c
      simp only [zq_vI, zq_m]
      rw [show xe_I (zrmv ν p) 203 37 = nI Sw from (xu_In (by omega)).trans c7, zx_nI hSw (by decide), zx_nI hSw (by decide), zx_nI hSw (by decide), show xe_I (xe_setI (xe_setI (zrmv ν p) 231 Sw (nI m)) 232 Sw (nI ev)) 203 47 = nI (L + off) from (xu_In (by omega)).trans ((xu_In (by omega)).trans ((xu_In (by omega)).trans c3))]
    rw [hA, hB]
    have hW : zW μ ν (xe_setI (xe_setI (xe_setI (zmv μ p) 182 3 (nI (P + S))) 181 8 0) x11 1 (nI L)) (xe_setI (xe_setI (xe_setI (zrmv ν p) 231 Sw (nI m)) 232 Sw (nI ev)) 233 Sw (nI (L + off))) := zW_t zW_mv (zW_t (zW_t (zW_t (zW_I (zgI_a (by decide) (by decide))) (zW_I (zgI_a (by decide) (by decide)))) (zW_I (zgI_j (by omega) (by omega) (by decide)))) (zW_t (zW_t (zW_rI ⟨by omega, by omega⟩) (zW_rI ⟨by omega, by omega⟩)) (zW_rI ⟨by omega, by omega⟩)))
    obtain ⟨u9, hu1, hu2⟩ := hP.2.2.2.2.2.2.2.2
    have hQ : ∀ t, t < 24 → zQ N P S 0 t false off L (fun _ => false) (xe_setI (xe_setI (xe_setI (zmv μ p) 182 3 (nI (P + S))) 181 8 0) x11 1 (nI L)) (xe_setI (xe_setI (xe_setI (zrmv ν p) 231 Sw (nI m)) 232 Sw (nI ev)) 233 Sw (nI (L + off))) (p + 1) L u9 := fun t ht => by
      obtain ⟨h1, h2, h3, h4, h5, h6, h7, h8, h9⟩ := id hP
      have kc : ∀ c j, c ≠ x11 → (c ≠ 182 ∨ j ≠ 3) → (c ≠ 181 ∨ j ≠ 8) → xe_I (xe_setI (xe_setI (xe_setI (zmv μ p) 182 3 (nI (P + S))) 181 8 0) x11 1 (nI L)) c j = xe_I (zmv μ p) c j := fun c j q1 q2 q3 => by
        rw [xu_In (by omega), xu_In (by omega), xu_In (by omega)]
      have kr : ∀ c j, (c < 231 ∨ 233 < c) → xe_I (xe_setI (xe_setI (xe_setI (zrmv ν p) 231 Sw (nI m)) 232 Sw (nI ev)) 233 Sw (nI (L + off))) c j = xe_I (zrmv ν p) c j := fun c j q1 => by
        rw [xu_In (by omega), xu_In (by omega), xu_In (by omega)]
      refine ⟨⟨zTE_k h1 (fun a ha => ⟨funext fun j => kc a j (by omega) (by omega) (by omega), rfl, rfl⟩) (fun a ha => ⟨funext fun j => kr a j (by omega), rfl⟩), zNp_m (zNp_k hNp (fun e _ => ⟨(kc 184 e (by omega) (by omega) (by omega)).trans (xu_In (by omega)), (kc 185 e (by omega) (by omega) (by omega)).trans (xu_In (by omega)), rfl⟩) ⟨rfl, rfl⟩ ⟨(kr 203 12 (by omega)).trans (xu_In (by omega)), (kr 203 15 (by omega)).trans (xu_In (by omega))⟩) ?_ (fun w => by cases w), hR 182 0 183 rfl, ⟨h6, (kr 203 11 (by omega)).trans h5⟩, h7, h8⟩, (kc 181 6 (by omega) (by omega) (by omega)).trans h2, (kc 8 2 (by omega) (by omega) (by omega)).trans ((xu_In (by omega)).trans c1), (kc 181 9 (by omega) (by omega) (by omega)).trans hu2, (kr 203 10 (by omega)).trans h3, (kr 203 47 (by omega)).trans ((xu_In (by omega)).trans c3), fun i w1 w2 => absurd w1 (by omega), fun w => (by cases w), hN, by omega, Nat.le_refl _, hof, ht, hu1⟩
      rw [xu_In (by omega), xu_In (by omega)]
      exact xu_I
    rcases z_E0 hQ ((xu_In (by omega)).trans xu_I) with ⟨μ', ν', p', L', ub', o1, o2, o3, o4, o5, o6, o7, o8, o9, o10, o11⟩ | hf
    · rw [o1, o2, zcV_ok, zcI_ok, if_neg (show ¬ (1 : Int32) = 0 by decide)]
      refine Or.inl ⟨μ', ν', p', L', ub', ?_, rfl, o3, o4, o5, o7, o8, o9, o10, o11⟩
      simp only [zq_m]
      rw [o3.2.2.1]
    · exact Or.inr (zFx_w hW (zFx_cV (zFx_b (zFx_l hf))))
  · exact Or.inr (zFx_cV (zFx_b hf))
end
