/-! rows of the memory, numbers, and what functions are made of, where it is known -/
section
variable {μ : xe_Mem} {a b j : Nat}
theorem zr_II {v : Int32} : xe_I (xe_setI μ a j v) b = if b = a then va_up (xe_I μ a) j v else xe_I μ b := by
  funext i
  show xe_u _ a j v b i = _
  unfold xe_u
  by_cases h : b = a
  · subst h
    rw [if_pos rfl]
    unfold va_up
    by_cases hi : i = j
    · rw [if_pos ⟨rfl, hi⟩, if_pos hi]
    · rw [if_neg (fun q => hi q.2), if_neg hi]
  · rw [if_neg (fun q => h q.1), if_neg h]
theorem zr_IL {v : Int64} : xe_I (xe_setL μ a j v) b = xe_I μ b := rfl
theorem zr_IR {v : Option Nat} : xe_I (xe_setR μ a j v) b = xe_I μ b := rfl
theorem zr_LI {v : Int32} : xe_L (xe_setI μ a j v) b = xe_L μ b := rfl
theorem zr_LR {v : Option Nat} : xe_L (xe_setR μ a j v) b = xe_L μ b := rfl
theorem zr_RI {v : Int32} : xe_R (xe_setI μ a j v) b = xe_R μ b := rfl
theorem zr_RL {v : Int64} : xe_R (xe_setL μ a j v) b = xe_R μ b := rfl
theorem zr_LL {v : Int64} : xe_L (xe_setL μ a j v) b = if b = a then va_up (xe_L μ a) j v else xe_L μ b := by
  funext i
  show xe_u _ a j v b i = _
  unfold xe_u
  by_cases h : b = a
  · subst h
    rw [if_pos rfl]
    unfold va_up
    by_cases hi : i = j
    · rw [if_pos ⟨rfl, hi⟩, if_pos hi]
    · rw [if_neg (fun q => hi q.2), if_neg hi]
  · rw [if_neg (fun q => h q.1), if_neg h]
theorem zr_RR {v : Option Nat} : xe_R (xe_setR μ a j v) b = if b = a then va_up (xe_R μ a) j v else xe_R μ b := by
  funext i
  show xe_u _ a j v b i = _
  unfold xe_u
  by_cases h : b = a
  · subst h
    rw [if_pos rfl]
    unfold va_up
    by_cases hi : i = j
    · rw [if_pos ⟨rfl, hi⟩, if_pos hi]
    · rw [if_neg (fun q => hi q.2), if_neg hi]
  · rw [if_neg (fun q => h q.1), if_neg h]
end
theorem zup {α : Type} (f : Nat → α) (k : Nat) (v : α) (j : Nat) : va_up f k v j = if j = k then v else f j := rfl
/-! numbers -/
def nL (n : Nat) : Int64 := Int64.ofNat n
theorem zlit (n : Nat) : (OfNat.ofNat n : Int32) = nI n := rfl
theorem zlitL (n : Nat) : (OfNat.ofNat n : Int64) = nL n := rfl
section
variable {a b : Nat}
theorem zi_le (ha : a < 2147483648) (hb : b < 2147483648) : (nI a ≤ nI b) = (a ≤ b) := by
  rw [Int32.le_iff_toInt_le, nI_toInt ha, nI_toInt hb]
  exact propext (by omega)
theorem zi_lt (ha : a < 2147483648) (hb : b < 2147483648) : (nI a < nI b) = (a < b) := by
  rw [Int32.lt_iff_toInt_lt, nI_toInt ha, nI_toInt hb]
  exact propext (by omega)
theorem zi_eq (ha : a < 2147483648) (hb : b < 2147483648) : (nI a = nI b) = (a = b) := by
  refine propext ⟨fun h => ?_, fun h => by rw [h]⟩
  have h1 := congrArg Int32.toInt h
  rw [nI_toInt ha, nI_toInt hb] at h1
  omega
theorem nL_toInt (h : a < 9223372036854775808) : (nL a).toInt = (a : Int) := Int64.toInt_ofNat_of_lt h
theorem zL_le (ha : a < 9223372036854775808) (hb : b < 9223372036854775808) : (nL a ≤ nL b) = (a ≤ b) := by
  rw [Int64.le_iff_toInt_le, nL_toInt ha, nL_toInt hb]
  exact propext (by omega)
theorem zL_lt (ha : a < 9223372036854775808) (hb : b < 9223372036854775808) : (nL a < nL b) = (a < b) := by
  rw [Int64.lt_iff_toInt_lt, nL_toInt ha, nL_toInt hb]
  exact propext (by omega)
theorem zL_eq (ha : a < 9223372036854775808) (hb : b < 9223372036854775808) : (nL a = nL b) = (a = b) := by
  refine propext ⟨fun h => ?_, fun h => by rw [h]⟩
  have h1 := congrArg Int64.toInt h
  rw [nL_toInt ha, nL_toInt hb] at h1
  omega
theorem zn_64 (h : a < 2147483648) : (nI a).toInt64 = nL a := by
  apply Int64.toInt_inj.mp
  rw [Int32.toInt_toInt64, nI_toInt h, nL_toInt (by omega)]
theorem zn_sub (h : b ≤ a) : nI a - nI b = nI (a - b) := by
  have e : nI a = nI (a - b) + nI b := by rw [nI_add, Nat.sub_add_cancel h]
  rw [e, Int32.add_sub_cancel]
theorem zn_mul (a b : Nat) : nI a * nI b = nI (a * b) := (Int32.ofNat_mul a b).symm
theorem zn_div (ha : a < 2147483648) (hb : b < 2147483648) : nI a / nI b = nI (a / b) := by
  have hq : a / b ≤ a := Nat.div_le_self a b
  apply Int32.toInt_inj.mp
  rw [Int32.toInt_div, nI_toInt ha, nI_toInt hb, nI_toInt (by omega)]
  show ((a : Int).tdiv (b : Int)).bmod _ = _
  rw [← Int.ofNat_tdiv]
  generalize a / b = r at hq ⊢
  exact Int.bmod_eq_of_le (by omega) (by omega)
end
/-! what functions are made of -/
section
variable {A : zO}
theorem zx_nI {j N : Nat} {f : Nat → zO} (h : j < N) (hN : N < 2147483648) : zq_x (nI j) N f = f j := by
  unfold zq_x
  rw [if_neg (nI_in h hN), nI_clamp (by omega)]
theorem zo_in {a ci : Nat} (h : xv_S[a]? = some (.inl ci)) (ha : a < 203) : zq_o a ci A = A := if_pos ⟨h, ha⟩
theorem za_in {a t N : Nat} {f : Nat → zO} (h : xv_S[a]? = some (.inr (t, N))) (ha : a < 203) : zq_a a t f = f N := by
  unfold zq_a
  rw [h]
  exact if_pos ⟨rfl, ha⟩
theorem zs_some {b : Nat} {f : Nat → zO} : zq_s (some b) f = f b := rfl
theorem zk_ok {a : Nat} (h : 1000001 ≤ a ∧ a < 1000030) : zq_k a A = A := if_pos h
theorem zd_ok {x : Int32} (h : ¬ x = 0) : zq_d x A = A := if_neg h
theorem zdL_ok {x : Int64} (h : ¬ x = 0) : zq_dL x A = A := if_neg h
theorem zz_0 : zq_z 0 A = A := if_pos (Or.inl rfl)
theorem zz_1 : zq_z 1 A = A := if_pos (Or.inr rfl)
theorem zcV_ok {μ : xe_Mem} {f : xe_Mem → zO} : zq_cV (some (.inl none, μ)) f = f μ := rfl
theorem zcI_ok {μ : xe_Mem} {v : Int32} {f : Int32 → xe_Mem → zO} : zq_cI (some (.inl (some (.int v)), μ)) f = f v μ := rfl
theorem zcR_ok {μ : xe_Mem} {v : Nat} {f : Nat → xe_Mem → zO} : zq_cR (some (.inl (some (.ref v)), μ)) f = f v μ := rfl
theorem zcV_no {μ : xe_Mem} {a : Nat} {f : xe_Mem → zO} : zq_cV (some (.inr a, μ)) f = some (.inr a, μ) := rfl
theorem zcI_no {μ : xe_Mem} {a : Nat} {f : Int32 → xe_Mem → zO} : zq_cI (some (.inr a, μ)) f = some (.inr a, μ) := rfl
theorem zcR_no {μ : xe_Mem} {a : Nat} {f : Nat → xe_Mem → zO} : zq_cR (some (.inr a, μ)) f = some (.inr a, μ) := rfl
end
abbrev zint (v : Int32) (μ : xe_Mem) : zO := some (.inl (some (.int v)), μ)
abbrev zbool (p : Prop) [Decidable p] : Int32 := if p then 1 else 0
/-- the reference's in -/
theorem z132 {v lo hi : Int64} {μ : xe_Mem} : zD132 v lo hi μ = zint (if lo ≤ v ∧ v ≤ hi then 1 else 0) μ := by
  unfold zD132
  by_cases h0 : lg_cmp v lo < 0
  · have h := (lg_cmp_lt _ _).mp h0
    rw [if_pos h0, if_neg (fun q => by
      have := Int64.lt_iff_toInt_lt.mp h
      have := Int64.le_iff_toInt_le.mp q.1
      omega)]
    exact zz_0
  · rw [if_neg h0]
    have g0 : lo ≤ v := by
      have : ¬ v < lo := fun h => h0 ((lg_cmp_lt _ _).mpr h)
      rw [Int64.lt_iff_toInt_lt] at this
      rw [Int64.le_iff_toInt_le]
      omega
    by_cases h1 : 0 < lg_cmp v hi
    · have h := (lg_cmp_gt _ _).mp h1
      rw [if_pos h1, if_neg (fun q => by
        have := Int64.lt_iff_toInt_lt.mp h
        have := Int64.le_iff_toInt_le.mp q.2
        omega)]
      exact zz_0
    · rw [if_neg h1]
      have g1 : v ≤ hi := by
        have : ¬ hi < v := fun h => h1 ((lg_cmp_gt _ _).mpr h)
        rw [Int64.lt_iff_toInt_lt] at this
        rw [Int64.le_iff_toInt_le]
        omega
      rw [if_pos ⟨g0, g1⟩]
      exact zz_1
