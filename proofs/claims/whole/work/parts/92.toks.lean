/-! all tokens -/
def zTS (tb : Nat → Nat) (n k s : Nat) (μ ν : xe_Mem) : Prop := n ≤ 3000 ∧ k ≤ n ∧ s ≤ k ∧ zBc (xe_I μ 2) tb n ∧ xe_I ν 203 3 = nI n ∧ zBr (xe_I ν 205) tb n ∧ (∀ w, w < 11 → xe_L ν 206 w = nL (zlr (zwd w).reverse)) ∧ xe_I μ 3 3 = nI s ∧ xe_I ν 203 6 = nI s ∧ (∀ i, i < s → ∃ q pl, q ≤ 26 ∧ zTk μ ν i q pl) ∧ zNe (xe_I μ 3 4) (xe_I ν 207) k s
theorem zLe_nd : ∀ b, b < 256 → zLe b = true → zDi b = false := by decide +kernel
theorem zLe_al {b : Nat} (h : zLe b = true) : zAl b = true := by unfold zAl; rw [h]; rfl
section
variable {μ ν : xe_Mem} {tb : Nat → Nat} {n s k : Nat}
/-- one byte that is neither a letter nor a digit, or a letter behind a number -/
theorem z18_25 (hn : n ≤ 3000) (hB : zBc (xe_I μ 2) tb n) (hs : xe_I μ 3 3 = nI s) (h3001 : s < 3001) {k1 : Nat} (hk : k1 < n) (hd : zDi (tb k1) = false) : zD18_25 (nI k1) (nI n) μ = zint (nI (k1 + 1)) (zput μ s (zsg (tb k1)) k1 0) := by
  have hb := hB k1 hk
  have hq : zsg (tb k1) < 29 := by
    rcases zsg_c _ hb.1 with h | h <;> omega
  unfold zD18_25
  rw [zx_nI (show k1 < 3000 by omega) (by decide), hb.2, z22 hb.1, zcI_ok, hd, if_pos (by decide), nI_1]
  have e := z23 (tb := tb) (a := k1) (m := 1) (oth := 1000029) hB hn (by omega) 29 zfu 0 rfl (zfu_lt (by decide))
  have e2 : zfk (zis tb k1 1) 1000029 29 0 = 1000001 + zsg (tb k1) := zsg_k _ hb.1
  rw [e2] at e
  rw [show zD23 (nI k1) (nI (k1 + 1)) 1000029 μ = some (.inl (some (.ref (1000001 + zsg (tb k1)))), μ) from e, zcR_ok, z19 hs h3001 hq, zcV_ok]
theorem z_next (h : zTS tb n k s μ ν) {c7 : Int32 → Int32 → xe_Mem → zO} {k1 : Nat} (hk1 : k1 = zskip (fun i => zBl (tb i)) (n - k) k) : ∃ (q : Nat) (v : Int64) (kr : Int32) (w : Int64) (k2 k3 : Nat) (m8 : xe_Mem), q < 29 ∧ zRk q kr w v ∧ zD18 (nI k1) (nI n) μ = zint (nI k2) m8 ∧ (m8 = zput μ s q k1 v ∨ m8 = xe_setI (zput μ s q k1 v) 3 4 (nI k2)) ∧ (q ≤ 26 → m8 = if q = 26 then xe_setI (zput μ s q k1 v) 3 4 (nI k2) else zput μ s q k1 v) ∧ zD134_41 c7 (nI k1) 1 (nI k) ν = c7 (nI k3) (if q = 27 ∨ q = 28 then 0 else 1) (zrpt ν s kr k1 w) ∧ (q ≤ 26 → k3 = k2 ∧ k1 < k2 ∧ k2 ≤ n) := by
  obtain ⟨hn, hkn, hsk, hB, hN, hR, hW, hs, ht, hT, hE⟩ := h
  have hg := zskip_ge (fun i => zBl (tb i)) (n - k) k
  rw [← hk1] at hg
  have h1n : k1 ≤ n := by omega
  by_cases hend : k1 = n
  · refine ⟨27, 0, 0, 0, k1, k1, zput μ s 27 k1 0, by decide, rfl, ?_, Or.inl rfl, fun q => by omega, ?_, fun q => by omega⟩
    · unfold zD18
      rw [if_pos (by rw [hend]), show zD19 1000028 (nI k1) 0 μ = some (.inl none, zput μ s 27 k1 0) from z19 (q := 27) hs (by omega) (by decide), zcV_ok]
    · unfold zD134_41
      rw [hN, if_pos (nI_le (by omega) (by omega)), z134_51 ht (by omega) (by omega) (by omega)]
      unfold zD134_70
      rw [if_neg (by decide), show zD135 0 (nI k1) 0 ν = some (.inl none, zrpt ν s 0 k1 0) from z135 ht (by omega), zcV_ok]
      rfl
  · have hlt : k1 < n := by omega
    have hb := hB k1 hlt
    have hr := hR k1 hlt
    have hC : zD18 (nI k1) (nI n) μ = (if zb01 (zLe (tb k1)) = 0 then zD18_25 (nI k1) (nI n) μ else if nI k1 = xe_I μ 3 4 then zD18_25 (nI k1) (nI n) μ else zq_cI (zD21 (nI k1) (nI n) μ) fun x27 m25 => some (.inl (some (.int x27)), m25)) := by
      unfold zD18
      rw [if_neg (fun q => hend (by rw [zi_eq (by omega) (by omega)] at q; exact q)), zx_nI (show k1 < 3000 by omega) (by decide), hb.2, z20 hb.1, zcI_ok]
    have hD : zD134_41 c7 (nI k1) 1 (nI k) ν = zD134_70 c7 (nI k1) 1 (nI (tb k1)) (zb01 (decide (k1 = k ∧ 0 < s ∧ xe_I ν 207 (s - 1) = 2))) ν := by
      unfold zD134_41
      rw [hN, if_neg (nI_ge hlt (by omega)), zx_nI (show k1 < 3000 by omega) (by decide), hr.2, z134_51 ht (by omega) (by omega) (by omega)]
    have hD2 : zD134_70 c7 (nI k1) 1 (nI (tb k1)) (zb01 (decide (k1 = k ∧ 0 < s ∧ xe_I ν 207 (s - 1) = 2))) ν = (if zb01 (zLe (tb k1)) = 0 then (if zb01 (zDi (tb k1)) = 0 then (if zb01 (decide (zsg (tb k1) ≠ 28)) = 0 then zD134_166 c7 (nI (k1 + 1)) 1 (nI (tb k1)) (nI k1) 5 ν else zD134_166 c7 (nI (k1 + 1)) 1 (nI (tb k1)) (nI k1) 3 ν) else zD134_115 c7 zfu (nI k1) 1 (nI k1) 0 ν) else zD134_86 c7 zfu (nI k1) 1 (zb01 (decide (k1 = k ∧ 0 < s ∧ xe_I ν 207 (s - 1) = 2))) (nI k1) ν) := by
      unfold zD134_70
      rw [if_pos (nI_pos' (by omega)), z136 hr.1, zcI_ok, z137 hr.1, zcI_ok, z139 hr.1, zcI_ok, nI_1]
    rw [hD, hD2, hC]
    cases hL : zLe (tb k1) with
    | true =>
      rw [if_neg (show ¬ zb01 true = 0 by decide), if_neg (show ¬ zb01 true = 0 by decide)]
      have hAl : ∀ i, k1 ≤ i → i < zskip (fun i => zAl (tb i)) (n - k1) k1 → zAl (tb i) = true := zskip_all (fun i => zAl (tb i)) (n - k1) k1
      have hg2 := zskip_ge (fun i => zAl (tb i)) (n - k1) k1
      have hgt : k1 < zskip (fun i => zAl (tb i)) (n - k1) k1 := by
        obtain ⟨r, hr2⟩ : ∃ r, n - k1 = r + 1 := ⟨n - k1 - 1, by omega⟩
        rw [hr2]
        unfold zskip
        rw [if_pos (zLe_al hL)]
        have := zskip_ge (fun i => zAl (tb i)) r (k1 + 1)
        omega
      generalize hk2 : zskip (fun i => zAl (tb i)) (n - k1) k1 = k2 at hAl hg2 hgt
      have hkk : k2 = k1 + (k2 - k1) := by omega
      have hRef : ∀ v5 : Int32, zD134_86 c7 zfu (nI k1) 1 v5 (nI k1) ν = zD134_170 c7 (nI k2) 1 (if v5 = 0 ∧ k2 - k1 ≤ 8 then (if zwi (ztx tb k1 (k2 - k1)) 11 0 < 11 then zrpt ν s 4 k1 (nL (zwi (ztx tb k1 (k2 - k1)) 11 0)) else zrpt ν s 1 k1 (zacc tb (k2 - k1) k1 0)) else zrpt ν s 5 k1 0) := by
        intro v5
        rw [z134_86 hN hR hn (n - k1) zfu k1 (by omega) (zfu_lt (by omega)), hk2]
        unfold zD134_104
        have hz := z138 (v3 := v5) hR hn hW (a := k1) (m := k2 - k1) (s := s) (fun i q1 q2 => hAl i q1 (by omega)) (by omega) (by omega) ht (by omega)
        rw [← hkk] at hz
        rw [hz, zcV_ok]
      by_cases hcl : nI k1 = xe_I μ 3 4
      · have hc2 := (zNe_at hE hg.1 (by omega)).mp hcl
        rw [if_pos hcl, decide_eq_true hc2, hRef, if_neg (show ¬ (zb01 true = 0 ∧ k2 - k1 ≤ 8) from fun q => absurd q.1 (by decide)), z134e (by omega)]
        refine ⟨28, 0, 5, 0, k1 + 1, k2, zput μ s 28 k1 0, by decide, ⟨rfl, rfl⟩, ?_, Or.inl rfl, fun q => by omega, rfl, fun q => by omega⟩
        have := z18_25 hn hB hs (by omega) hlt (zLe_nd _ hb.1 hL)
        rw [zsg_l _ hb.1 hL] at this
        exact this
      · have hc2 : ¬ (k1 = k ∧ 0 < s ∧ xe_I ν 207 (s - 1) = 2) := fun q => hcl ((zNe_at hE hg.1 (by omega)).mpr q)
        rw [if_neg hcl, decide_eq_false hc2, hRef, z21 hB hn h1n, hk2]
        unfold zD21_28 zD21_41
        rw [show (nI k2 - nI k1 : Int32) = nI (k2 - k1) from zn_sub (by omega)]
        by_cases h8 : k2 - k1 ≤ 8
        · rw [if_pos (show nI (k2 - k1) ≤ (8 : Int32) from nI_le (b := 8) h8 (by decide)), if_pos (show zb01 false = 0 ∧ k2 - k1 ≤ 8 from ⟨by decide, h8⟩)]
          have e := z23 (tb := tb) (a := k1) (m := k2 - k1) (oth := 1000026) hB hn (by omega) 29 zfu 0 rfl (zfu_lt (by decide))
          have e2 : zfk (zis tb k1 (k2 - k1)) 1000026 29 0 = 1000001 + zwi (ztx tb k1 (k2 - k1)) 11 0 := zfk_w (fun i q1 q2 => ⟨(hB i (by omega)).1, hAl i q1 (by omega)⟩) (by omega) 11 0 rfl
          rw [e2, ← hkk] at e
          have hq : zwi (ztx tb k1 (k2 - k1)) 11 0 < 29 := by
            rcases zwi_lt (ztx tb k1 (k2 - k1)) 11 0 rfl with ⟨a1, a2⟩ | ⟨a1, a2⟩ <;> omega
          rw [show zD23 (nI k1) (nI k2) 1000026 μ = some (.inl (some (.ref (1000001 + zwi (ztx tb k1 (k2 - k1)) 11 0))), μ) from e, zcR_ok, z19 hs (by omega) hq, zcV_ok, zcI_ok]
          rcases zwi_lt (ztx tb k1 (k2 - k1)) 11 0 rfl with ⟨a1, a2⟩ | ⟨a1, a2⟩
          · rw [if_pos a1, z134e (by omega)]
            refine ⟨zwi (ztx tb k1 (k2 - k1)) 11 0, _, 4, nL (zwi (ztx tb k1 (k2 - k1)) 11 0), k2, k2, _, hq, ?_, rfl, Or.inl rfl, fun _ => by rw [if_neg (by omega)], ?_, fun _ => ⟨rfl, hgt, by omega⟩⟩
            · unfold zRk
              rw [if_pos (by omega)]
              exact ⟨rfl, rfl⟩
            · rw [if_neg (show ¬ (4 : Int32) = 5 by decide), if_neg (show ¬ (zwi (ztx tb k1 (k2 - k1)) 11 0 = 27 ∨ zwi (ztx tb k1 (k2 - k1)) 11 0 = 28) by omega)]
          · rw [a1, if_neg (by omega), z134e (by omega)]
            exact ⟨25, _, 1, _, k2, k2, _, by decide, ⟨rfl, rfl⟩, rfl, Or.inl rfl, fun _ => rfl, rfl, fun _ => ⟨rfl, hgt, by omega⟩⟩
        · rw [if_neg (show ¬ nI (k2 - k1) ≤ (8 : Int32) from nI_ge (a := 8) (by omega) (by omega)), if_neg (show ¬ (zb01 false = 0 ∧ k2 - k1 ≤ 8) from fun q => h8 q.2), z134e (by omega), show zD19 1000029 (nI k1) (zacc tb (k2 - k1) k1 0) μ = some (.inl none, zput μ s 28 k1 (zacc tb (k2 - k1) k1 0)) from z19 (q := 28) hs (by omega) (by decide), zcV_ok, zcI_ok]
          exact ⟨28, _, 5, 0, k2, k2, _, by decide, ⟨rfl, rfl⟩, rfl, Or.inl rfl, fun q => by omega, rfl, fun q => by omega⟩
    | false =>
      rw [if_pos (show zb01 false = 0 by decide), if_pos (show zb01 false = 0 by decide)]
      cases hdg : zDi (tb k1) with
      | true =>
        rw [if_neg (show ¬ zb01 true = 0 by decide)]
        have hDi : ∀ i, k1 ≤ i → i < zskip (fun i => zDi (tb i)) (n - k1) k1 → zDi (tb i) = true := zskip_all (fun i => zDi (tb i)) (n - k1) k1
        have hg2 := zskip_ge (fun i => zDi (tb i)) (n - k1) k1
        have hgt : k1 < zskip (fun i => zDi (tb i)) (n - k1) k1 := by
          obtain ⟨r, hr2⟩ : ∃ r, n - k1 = r + 1 := ⟨n - k1 - 1, by omega⟩
          rw [hr2]
          unfold zskip
          rw [if_pos hdg]
          have := zskip_ge (fun i => zDi (tb i)) r (k1 + 1)
          omega
        have hz := z134_115 (v2 := 1) (v6 := nI k1) (c7 := c7) hN hR hn (n - k1) zfu k1 0 (by omega) (zfu_lt (by omega))
        have hc := z32 (a := k1) hB hn h1n
        generalize hk2 : zskip (fun i => zDi (tb i)) (n - k1) k1 = k2 at hDi hg2 hgt hz hc
        rw [hz]
        unfold zD18_25
        rw [zx_nI (show k1 < 3000 by omega) (by decide), hb.2, z22 hb.1, zcI_ok, hdg, if_neg (show ¬ zb01 true = 0 by decide), hc]
        unfold zD32_25 zD32_34 zD134_145 zD134_154
        rw [show (nI k2 - nI k1 : Int32) = nI (k2 - k1) from zn_sub (by omega)]
        by_cases h6 : k2 - k1 ≤ 6
        · have H6 : nI (k2 - k1) ≤ (6 : Int32) := nI_le (b := 6) h6 (by decide)
          rw [if_pos H6, if_pos H6, z135 ht (by omega), zcV_ok, z134e (by omega), show zD19 1000027 (nI k1) (znum tb (k2 - k1) k1 0) μ = some (.inl none, zput μ s 26 k1 (znum tb (k2 - k1) k1 0)) from z19 (q := 26) hs (by omega) (by decide), zcV_ok]
          obtain ⟨g1, g2, g3⟩ := znum_ok tb (k2 - k1) k1 0 0 (by decide) (by omega) (fun i q1 q2 => ⟨(hB i (by omega)).1, hDi i q1 (by omega)⟩)
          have hp : (10 : Nat) ^ (0 + (k2 - k1)) ≤ 10 ^ 6 := Nat.pow_le_pow_right (by decide) (by omega)
          refine ⟨26, znum tb (k2 - k1) k1 0, 2, zcap tb (k2 - k1) k1 0, k2, k2, _, by decide, ?_, rfl, Or.inr rfl, fun _ => rfl, rfl, fun _ => ⟨rfl, hgt, by omega⟩⟩
          exact ⟨rfl, g2.trans g1.symm, zdv tb (k2 - k1) k1 0, by omega, g1⟩
        · have H6 : ¬ nI (k2 - k1) ≤ (6 : Int32) := nI_ge (a := 6) (by omega) (by omega)
          rw [if_neg H6, if_neg H6, z135 ht (by omega), zcV_ok, z134e (by omega), show zD19 1000029 (nI k1) (znum tb (k2 - k1) k1 0) μ = some (.inl none, zput μ s 28 k1 (znum tb (k2 - k1) k1 0)) from z19 (q := 28) hs (by omega) (by decide), zcV_ok]
          exact ⟨28, _, 5, _, k2, k2, _, by decide, ⟨rfl, rfl⟩, rfl, Or.inr rfl, fun q => by omega, rfl, fun q => by omega⟩
      | false =>
        rw [if_pos (show zb01 false = 0 by decide), z18_25 hn hB hs (by omega) hlt hdg]
        unfold zD134_166
        rw [z135 ht (by omega), zcV_ok, z135 ht (by omega), zcV_ok, z134e (by omega), z134e (by omega)]
        rcases zsg_c _ hb.1 with h28 | ⟨a1, a2, a3⟩
        · rw [decide_eq_false (fun q => q h28), if_pos (show zb01 false = 0 by decide), h28]
          exact ⟨28, 0, 5, _, k1 + 1, k1 + 1, _, by decide, ⟨rfl, rfl⟩, rfl, Or.inl rfl, fun q => by omega, rfl, fun q => by omega⟩
        · rw [decide_eq_true (show zsg (tb k1) ≠ 28 by omega), if_neg (show ¬ zb01 true = 0 by decide)]
          refine ⟨zsg (tb k1), 0, 3, (nI (tb k1)).toInt64, k1 + 1, k1 + 1, _, by omega, ?_, rfl, Or.inl rfl, fun q => by rw [if_neg (by omega)], ?_, fun _ => ⟨rfl, by omega, by omega⟩⟩
          · unfold zRk
            rw [if_neg (by omega), if_pos a2, a3, zn_64 (by omega)]
            exact ⟨rfl, rfl⟩
          · rw [if_neg (show ¬ (3 : Int32) = 5 by decide), if_neg (show ¬ (zsg (tb k1) = 27 ∨ zsg (tb k1) = 28) by omega)]
end
