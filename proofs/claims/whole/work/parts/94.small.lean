/-! the small methods of both readers, where what they find is known -/
def zfI (X : Nat → Nat → Bool) (μ μ' : xe_Mem) : Prop := ∀ a, a < 265 → (∀ j, X a j = false → xe_I μ' a j = xe_I μ a j) ∧ xe_L μ' a = xe_L μ a ∧ xe_R μ' a = xe_R μ a
theorem zfI_rfl {X : Nat → Nat → Bool} {μ : xe_Mem} : zfI X μ μ := fun _ _ => ⟨fun _ _ => rfl, rfl, rfl⟩
theorem zfI_t {X : Nat → Nat → Bool} {μ μ1 μ2 : xe_Mem} (h1 : zfI X μ μ1) (h2 : zfI X μ1 μ2) : zfI X μ μ2 := fun a ha => by
  obtain ⟨p1, p2, p3⟩ := h1 a ha
  obtain ⟨q1, q2, q3⟩ := h2 a ha
  exact ⟨fun j hj => (q1 j hj).trans (p1 j hj), q2.trans p2, q3.trans p3⟩
theorem zfI_w {X Y : Nat → Nat → Bool} {μ μ1 : xe_Mem} (h1 : zfI X μ μ1) (h : ∀ a j, Y a j = false → X a j = false) : zfI Y μ μ1 := fun a ha => by
  obtain ⟨p1, p2, p3⟩ := h1 a ha
  exact ⟨fun j hj => p1 j (h a j hj), p2, p3⟩
theorem zfI_s {X : Nat → Nat → Bool} {μ : xe_Mem} {a j : Nat} {v : Int32} (h : X a j = true) : zfI X μ (xe_setI μ a j v) := fun b hb => by
  refine ⟨fun i hi => ?_, rfl, rfl⟩
  exact xu_In (fun q => by rw [q.1, q.2, h] at hi; cases hi)
theorem zfI_x {X : Nat → Nat → Bool} {μ : xe_Mem} {ci : Nat} (h : 265 ≤ (xe_sh μ).length) : zfI X μ (xe_add μ (.inl ci) 6) := fun b hb => by
  have e : b ≠ μ.1.length := fun q => by
    have : 265 ≤ μ.1.length := h
    omega
  refine ⟨fun i hi => ?_, ?_, ?_⟩
  · show xe_w μ.2.1 μ.1.length (fun _ => 0) b i = _
    rw [xe_w_ne _ _ e]
  · show xe_w μ.2.2.1 μ.1.length (fun _ => 0) b = _
    rw [xe_w_ne _ _ e]
  · show xe_w μ.2.2.2.1 μ.1.length (fun _ => none) b = _
    rw [xe_w_ne _ _ e]
/-! tokens -/
def zkr (q : Nat) : Nat := if q ≤ 10 then 4 else if q ≤ 24 then 3 else if q = 25 then 1 else if q = 26 then 2 else if q = 27 then 0 else 5
section
variable {q : Nat} {kr : Int32} {w v : Int64}
theorem zRk_k (h : zRk q kr w v) : kr = nI (zkr q) := by
  unfold zRk at h
  unfold zkr
  split at h
  · rename_i h1
    rw [if_pos h1]; exact h.1
  · rename_i h1
    rw [if_neg h1]
    split at h
    · rename_i h2
      rw [if_pos h2]; exact h.1
    · rename_i h2
      rw [if_neg h2]
      split at h
      · rename_i h3
        rw [if_pos h3]; exact h.1
      · rename_i h3
        rw [if_neg h3]
        split at h
        · rename_i h4
          rw [if_pos h4]; exact h.1
        · rename_i h4
          rw [if_neg h4]
          split at h
          · rename_i h5
            rw [if_pos h5]; exact h
          · rename_i h5
            rw [if_neg h5]; exact h.2
theorem zRk_w (h : zRk q kr w v) (hq : q ≤ 10) : w = nL q := by
  unfold zRk at h
  rw [if_pos hq] at h
  exact h.2
theorem zRk_s (h : zRk q kr w v) (h1 : 11 ≤ q) (h2 : q ≤ 24) : w = nL (zsc q) := by
  unfold zRk at h
  rw [if_neg (by omega), if_pos h2] at h
  exact h.2
theorem zRk_n (h : zRk q kr w v) (hq : q = 25) : w = v := by
  subst hq
  exact h.2
theorem zRk_v (h : zRk q kr w v) (hq : q = 26) : w = v ∧ ∃ x, x ≤ 999999 ∧ v = nL x := by
  subst hq
  exact h.2
end
theorem zkr_lt (q : Nat) : zkr q < 6 := by
  unfold zkr
  split
  · decide
  · split
    · decide
    · split
      · decide
      · split
        · decide
        · split <;> decide
theorem zkr_4 {q : Nat} : zkr q = 4 ↔ q ≤ 10 := by
  unfold zkr
  constructor
  · intro h
    split at h
    · assumption
    · split at h
      · omega
      · split at h
        · omega
        · split at h
          · omega
          · split at h <;> omega
  · intro h
    rw [if_pos h]
theorem zkr_3 {q : Nat} : zkr q = 3 ↔ (11 ≤ q ∧ q ≤ 24) := by
  unfold zkr
  constructor
  · intro h
    split at h
    · omega
    · split at h
      · omega
      · split at h
        · omega
        · split at h
          · omega
          · split at h <;> omega
  · intro h
    rw [if_neg (by omega), if_pos h.2]
theorem zsc_inj : ∀ x, x < 25 → 11 ≤ x → ∀ y, y < 25 → 11 ≤ y → zsc x = zsc y → x = y := by decide +kernel
theorem zsc_lt (x : Nat) : zsc x < 256 := by
  have h : ∀ c ∈ [123, 125, 59, 44, 61, 40, 41, 60, 62, 43, 45, 42, 47, 37], c < 256 := by decide
  unfold zsc
  rw [List.getD_eq_getElem?_getD]
  cases hq : [123, 125, 59, 44, 61, 40, 41, 60, 62, 43, 45, 42, 47, 37][x - 11]? with
  | none => exact (by decide : 0 < 256)
  | some c => exact h c (List.mem_of_getElem? hq)
theorem zz_b {b : Bool} {A : zO} : zq_z (zb01 b) A = A := by
  cases b
  · exact zz_0
  · exact zz_1
section
variable {μ ν : xe_Mem} {p q pl : Nat}
/-- isAt -/
theorem z35 (hp : xe_I μ 181 6 = nI p) (h : p < 3001) (hk : xe_R μ 4 p = some (1000001 + q)) (hq : q < 29) {K : Nat} (hK : K < 29) : zD35 (1000001 + K) μ = zint (zb01 (decide (q = K))) μ := by
  unfold zD35 zD35_11
  rw [hp, zx_nI h (by decide), hk, zs_some, zk_ok (by omega), zk_ok (by omega)]
  by_cases e : q = K
  · rw [if_pos (by omega), decide_eq_true e]
    exact zz_1
  · rw [if_neg (by omega), decide_eq_false e]
    exact zz_0
/-- isWord -/
theorem z141 (hp : xe_I ν 203 10 = nI p) (h : p < 3001) (hk : zTk μ ν p q pl) {K : Nat} (hK : K ≤ 10) : zD141 (nI K) ν = zint (zb01 (decide (q = K))) ν := by
  obtain ⟨-, -, -, -, hr⟩ := hk
  have hl := zkr_lt q
  unfold zD141 zD141_18 zD141_19
  rw [hp, zx_nI (show p < 3002 by omega) (by decide), zx_nI (show p < 3002 by omega) (by decide), zRk_k hr, zn_64 (by omega)]
  have c4 : (nI (zkr q) = (4 : Int32)) = (zkr q = 4) := zi_eq (b := 4) (by omega) (by decide)
  by_cases h4 : zkr q = 4
  · rw [if_pos (c4.mpr h4)]
    have h10 := zkr_4.mp h4
    rw [zRk_w hr h10]
    by_cases e : q = K
    · rw [if_pos ((lg_cmp_eq _ _).mpr (by rw [e])), decide_eq_true e]
      exact zz_1
    · rw [if_neg (fun hc => e (by
        have h2 := (lg_cmp_eq _ _).mp hc
        rw [zL_eq (by omega) (by omega)] at h2
        exact h2)), decide_eq_false e]
      exact zz_0
  · rw [if_neg (fun e => h4 (c4.mp e)), decide_eq_false (fun e => h4 (zkr_4.mpr (by omega)))]
    exact zz_0
/-- isSignOf -/
theorem z147 (hp : xe_I ν 203 10 = nI p) (h : p < 3001) (hk : zTk μ ν p q pl) {K : Nat} (h11 : 11 ≤ K) (hK : K ≤ 24) : zD147 (nI (zsc K)) ν = zint (zb01 (decide (q = K))) ν := by
  obtain ⟨-, -, -, -, hr⟩ := hk
  have hl := zkr_lt q
  have hs := zsc_lt K
  have hs2 := zsc_lt q
  unfold zD147 zD147_18 zD147_19
  rw [hp, zx_nI (show p < 3002 by omega) (by decide), zx_nI (show p < 3002 by omega) (by decide), zRk_k hr, zn_64 (by omega)]
  have c3 : (nI (zkr q) = (3 : Int32)) = (zkr q = 3) := zi_eq (b := 3) (by omega) (by decide)
  by_cases h3 : zkr q = 3
  · rw [if_pos (c3.mpr h3)]
    have h10 := zkr_3.mp h3
    rw [zRk_s hr h10.1 h10.2]
    by_cases e : q = K
    · rw [if_pos ((lg_cmp_eq _ _).mpr (by rw [e])), decide_eq_true e]
      exact zz_1
    · rw [if_neg (fun hc => e (by
        have h2 := (lg_cmp_eq _ _).mp hc
        rw [zL_eq (by omega) (by omega)] at h2
        exact zsc_inj q (by omega) h10.1 K (by omega) h11 h2)), decide_eq_false e]
      exact zz_0
  · rw [if_neg (fun e => h3 (c3.mp e)), decide_eq_false (fun e => h3 (zkr_3.mpr (by omega)))]
    exact zz_0
end
/-! the class's code, and the reference's -/
def zadd (μ : xe_Mem) (L : Nat) (x y : Int32) : xe_Mem := xe_setI (xe_setI (xe_setI μ 9 L x) 10 L y) 8 2 (nI (L + 1))
theorem z58 {μ : xe_Mem} {L : Nat} {x y : Int32} (h : xe_I μ 8 2 = nI L) (hL : L < 3000) : zD58 x y μ = zint (nI L) (zadd μ L x y) := by
  unfold zD58 zD58_24
  simp only [zq_vI, zq_m]
  rw [h, if_neg (show ¬ Int32.ofNat 3000 ≤ nI L from nI_ge (b := 3000) hL (by decide)), zx_nI hL (by decide), zx_nI hL (by decide)]
  have e : xe_I (xe_setI (xe_setI μ 9 L x) 10 L y) 8 2 = nI L := by
    rw [xu_In (by omega), xu_In (by omega)]
    exact h
  rw [e, nI_1]
  rfl
def zrad (ν : xe_Mem) (U : Nat) (x y : Int32) : xe_Mem := xe_setI (xe_setI (xe_setI ν 239 U x) 240 U y) 203 47 (nI (U + 1))
theorem z157 {ν : xe_Mem} {U : Nat} {x y : Int32} (h : xe_I ν 203 47 = nI U) (hU : U < 6000) : zD157 x y ν = some (.inl none, zrad ν U x y) := by
  unfold zD157
  simp only [zq_m]
  have e1 : xe_I (xe_setI ν 239 U x) 203 47 = nI U := by rw [xu_In (by omega)]; exact h
  have e2 : xe_I (xe_setI (xe_setI ν 239 U x) 240 U y) 203 47 = nI U := by rw [xu_In (by omega)]; exact e1
  rw [h, zx_nI hU (by decide), e1, zx_nI hU (by decide), e2, nI_1]
  rfl
/-- takeInE -/
def ztk (μ : xe_Mem) (p c : Nat) : xe_Mem := xe_setI (xe_setI μ 181 8 (nI (c + 1))) 181 6 (nI (p + 1))
theorem z59 {μ : xe_Mem} {p c : Nat} (hp : xe_I μ 181 6 = nI p) (hc : xe_I μ 181 8 = nI c) (h : c < 60) : zD59 μ = some (.inl none, ztk μ p c) := by
  unfold zD59
  simp only [zq_m]
  have e : xe_I (xe_setI μ 181 8 (nI (c + 1))) 181 6 = nI p := by rw [xu_In (by omega)]; exact hp
  rw [hc, if_neg (fun q => by
    have h2 := congrArg Int32.toInt q
    rw [nI_toInt (by omega), show ((60 : Int32)).toInt = 60 from by decide] at h2
    omega), nI_1, e, nI_1]
  rfl
theorem z59n {μ : xe_Mem} (hc : xe_I μ 181 8 = nI 60) : zD59 μ = zq_thr 12 μ := by
  unfold zD59
  rw [hc, if_pos (by decide)]
/-- past -/
def zrtk (ν : xe_Mem) (p c : Nat) : xe_Mem := xe_setI (xe_setI ν 203 59 (nI (c + 1))) 203 10 (nI (p + 1))
theorem z162 {ν : xe_Mem} {p c : Nat} (hp : xe_I ν 203 10 = nI p) (hc : xe_I ν 203 59 = nI c) (h : c < 60) : zD162 ν = zint 1 (zrtk ν p c) := by
  unfold zD162
  simp only [zq_m]
  have e : xe_I (xe_setI ν 203 59 (nI (c + 1))) 203 10 = nI p := by rw [xu_In (by omega)]; exact hp
  rw [hc, if_neg (fun q => by
    have h2 := congrArg Int32.toInt q
    rw [nI_toInt (by omega), show ((60 : Int32)).toInt = 60 from by decide] at h2
    omega), nI_1, e, nI_1]
  rfl
theorem z150 {ν : xe_Mem} : zD150 ν = zint 0 (xe_setI ν 203 11 1) := rfl
theorem z162n {ν : xe_Mem} (hc : xe_I ν 203 59 = nI 60) : zD162 ν = zint 0 (xe_setI ν 203 11 1) := by
  unfold zD162
  rw [hc, if_pos (by decide), z150, zcI_ok]
  exact zz_0
