/-! statements: from '=' to ';' -/
section
variable {N P S Lc t : Nat} {tk : Bool} {off a0 : Nat} {ab : Nat → Bool} {T : Int32} {μ ν : xe_Mem} {p L ub : Nat}
theorem zFl_cV {U : Nat} {A B : zO} {f : xe_Mem → zO} (h : zFl N L U t μ ν A B) : zFl N L U t μ ν (zq_cV A f) B := by
  obtain ⟨μ2, ν2, p2, w1, w2⟩ := h
  exact ⟨μ2, ν2, p2, by rw [w1, zcV_no], w2⟩
theorem zFl_cI {U : Nat} {A B : zO} {f : Int32 → xe_Mem → zO} (h : zFl N L U t μ ν A B) : zFl N L U t μ ν (zq_cI A f) B := by
  obtain ⟨μ2, ν2, p2, w1, w2⟩ := h
  exact ⟨μ2, ν2, p2, by rw [w1, zcI_no], w2⟩
theorem zFl_r {U : Nat} {A B B' : zO} (h : zFl N L U t μ ν A B) (e : ∀ ν', B = zint 0 ν' → B' = zint 0 ν') : zFl N L U t μ ν A B' := by
  obtain ⟨μ2, ν2, p2, w1, w2, w3⟩ := h
  exact ⟨μ2, ν2, p2, w1, e _ w2, w3⟩
theorem z_mid (h : zQ N P S Lc t tk off a0 ab μ ν p L ub) (h8 : xe_I μ 181 8 = 0) (hT : zTT T tk t) (s1 v2 : Int32) (K KR : xe_Mem → zO) :
    (∃ μ2 ν2 p2 L2 ub2, (zq_cV (zD41 1000016 μ) fun m30 => zq_cV (zE56 0 0 m30) fun m32 => zq_cI (zD58 s1 v2 m32) fun _ m34 => zq_cV (zD41 1000014 m34) K) = K (zmv (zadd μ2 L2 s1 v2) p2) ∧ (zq_cI (zD146 61 ν) fun x17 m15 => if x17 = 0 then zint 0 m15 else zq_cI (zD160 T m15) fun x20 m18 => if x20 = 0 then zint 0 m18 else zq_cI (zD146 59 m18) fun x23 m21 => if x23 = 0 then zint 0 m21 else KR m21) = KR (zrmv ν2 p2) ∧ zQ N P S Lc t tk off a0 ab μ2 ν2 p2 L2 ub2 ∧ p2 + 1 < N ∧ p < p2 ∧ L < L2 ∧ L2 + 1 + p ≤ L + p2 ∧ zEq P S μ2 L L2 ∧ zfI (zXc L) μ μ2 ∧ zfI (zXr (L + off) t) ν ν2 ∧ xe_sh μ2 = xe_sh μ ∧ xe_sl μ2 = xe_sl μ) ∨ zFl N L (L + off) t μ ν (zq_cV (zD41 1000016 μ) fun m30 => zq_cV (zE56 0 0 m30) fun m32 => zq_cI (zD58 s1 v2 m32) fun _ m34 => zq_cV (zD41 1000014 m34) K) (zq_cI (zD146 61 ν) fun x17 m15 => if x17 = 0 then zint 0 m15 else zq_cI (zD160 T m15) fun x20 m18 => if x20 = 0 then zint 0 m18 else zq_cI (zD146 59 m18) fun x23 m21 => if x23 = 0 then zint 0 m21 else KR m21) := by
  obtain ⟨q, pl, t1, t2, t3, t4⟩ := zQ_tok h
  obtain ⟨hx, e1, e2, e3, r1, r2, hcd, hub, b1, b2, b3, b4, b5, b6⟩ := id h
  have hN2 := hx.1.2.1
  rw [show zD41 1000016 μ = _ from z41 e1 t4 t3.1 t1 (K := 15) (by decide), show zD146 61 ν = _ from z146 r1 t4 t3 hx.2.2.2.1.2 (K := 15) (by decide) (by decide)]
  by_cases h15 : q = 15
  · rw [if_pos h15, if_pos h15, zcV_ok, zcI_ok, if_neg (show ¬ (1 : Int32) = 0 by decide)]
    have hN : p + 1 < N := t2.mp (by omega)
    have hq1 := zQ_mv h hN
    rcases z_E hT hq1 ((xu_In (by omega)).trans h8) with ⟨μ', ν', p', L', ub', o1, o2, o3, o4, o5, o6, o7, o8, o9, o10, o11, o12⟩ | hfl
    · rw [o1, o2, zcV_ok, zcI_ok, if_neg (show ¬ (1 : Int32) = 0 by decide)]
      obtain ⟨q', pl', u1, u2, u3, u4⟩ := zQ_tok o3
      obtain ⟨hx', f1, f2, f3, s1', s2', hcd', hub', c1, c2, c3, c4, c5, c6⟩ := id o3
      have G1 : zfI (zXc L) μ μ' := zfI_t zmv_f o9
      have G2 : zfI (zXr (L + off) t) ν ν' := zfI_t zrmv_f o10
      have k1 : xe_I (zadd μ' L' s1 v2) 181 6 = nI p' := (zadd_o (Or.inl (by decide)) (by decide) (by decide)).trans f1
      rw [z58 f2 (by omega), zcI_ok, show zD41 1000014 (zadd μ' L' s1 v2) = _ from z41 k1 u4 u3.1 u1 (K := 13) (by decide), show zD146 59 ν' = _ from z146 s1' u4 u3 hx'.2.2.2.1.2 (K := 13) (by decide) (by decide)]
      by_cases h13 : q' = 13
      · rw [if_pos h13, if_pos h13, zcV_ok, zcI_ok, if_neg (show ¬ (1 : Int32) = 0 by decide)]
        exact Or.inl ⟨μ', ν', p', L', ub', rfl, rfl, o3, u2.mp (by omega), by omega, o5, by omega, o8, G1, G2, o11, o12⟩
      · rw [if_neg h13, if_neg h13, zcI_ok, if_pos rfl]
        refine Or.inr ⟨zadd μ' L' s1 v2, xe_setI ν' 203 11 1, p', ?_, rfl, ⟨c1, ub', c6, (zadd_o (Or.inl (by decide)) (by decide) (by decide)).trans f3⟩, k1, (xu_In (by omega)).trans s1', zfI_t G1 (zfI_w zadd_f (zXc_w (by omega))), zfI_t (zXf_of G2) (zfI_s rfl), o11, o12⟩
        rw [zthr (μ := zadd μ' L' s1 v2) hx'.2.2.2.2.1 hx'.2.2.2.2.2, zcV_no]
    · refine Or.inr (zFl_cV ?_)
      have hfl2 := zFl_f hfl (Nat.le_refl L) (Nat.le_refl _) (zmv_f (L := L)) (zrmv_f (U := L + off) (t := t)) rfl rfl
      refine zFl_r hfl2 (fun ν' e => ?_)
      rw [e, zcI_ok, if_pos rfl]
  · rw [if_neg h15, if_neg h15, zcI_ok, if_pos rfl]
    exact Or.inr (zFl_cV (zQ_no h rfl rfl))
end
theorem zS_task : ∀ t, t < 24 → xv_S[61 + 5 * t]? = some (.inl 8) := by decide +kernel
theorem zS_mode : ∀ m, m < 4 → xv_S[17 + 11 * m]? = some (.inl 2) := by decide +kernel
theorem zn_and1 (a : Nat) : nI a &&& 1 = nI (a &&& 1) := by
  apply Int32.toBitVec_inj.mp
  apply BitVec.eq_of_toNat_eq
  show (BitVec.ofNat 32 a &&& BitVec.ofNat 32 1).toNat = (BitVec.ofNat 32 (a &&& 1)).toNat
  rw [BitVec.toNat_and, BitVec.toNat_ofNat, BitVec.toNat_ofNat, BitVec.toNat_ofNat, Nat.and_mod_two_pow]
theorem zn_shr {a : Nat} (ha : a < 4096) {p : Nat} (hp : p < 12) : nI a >>> (nI p &&& 31) = nI (a >>> p) := by
  apply Int32.toBitVec_inj.mp
  apply BitVec.eq_of_toNat_eq
  have e : ∀ p, p < 12 → ((nI p &&& 31).toBitVec.smod 32).toNat = p := by decide +kernel
  show ((BitVec.ofNat 32 a).sshiftRight ((nI p &&& 31).toBitVec.smod 32).toNat).toNat = (BitVec.ofNat 32 (a >>> p)).toNat
  have hm : (BitVec.ofNat 32 a).msb = false := by
    rw [BitVec.msb_eq_false_iff_two_mul_lt, BitVec.toNat_ofNat, Nat.mod_eq_of_lt (by omega)]
    omega
  have hs : a >>> p ≤ a := Nat.shiftRight_le a p
  rw [e p hp, BitVec.toNat_sshiftRight_of_msb_false hm, BitVec.toNat_ofNat, BitVec.toNat_ofNat, Nat.mod_eq_of_lt (by omega), Nat.mod_eq_of_lt (by omega)]
theorem zbit {a : Nat} (ha : a < 4096) {p : Nat} (hp : p < 12) : ((nI a >>> (nI p &&& 31)) &&& 1 = 0) ↔ Nat.testBit a p = false := by
  rw [zn_shr ha hp, zn_and1]
  have h1 : (a >>> p) &&& 1 ≤ 1 := Nat.and_le_right
  have e : (nI ((a >>> p) &&& 1) = (0 : Int32)) = ((a >>> p) &&& 1 = 0) := zi_eq (b := 0) (by omega) (by decide)
  rw [e]
  unfold Nat.testBit
  rw [Nat.and_comm]
  constructor
  · intro h
    rw [h]
    rfl
  · intro h
    cases hh : (1 &&& a >>> p) with
    | zero => rfl
    | succ k =>
      rw [hh] at h
      cases h
