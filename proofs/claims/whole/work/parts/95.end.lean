/-! end, in both -/
theorem zi_nat {x : Int32} (h : ¬ x < 0) : ∃ n, n < 2147483648 ∧ x = nI n := by
  have h0 : ¬ x.toInt < 0 := fun hn => h (Int32.lt_iff_toInt_lt.mpr hn)
  have h1 : x.toInt < 2147483648 := Int32.toInt_lt x
  refine ⟨x.toInt.toNat, by omega, ?_⟩
  apply Int32.toInt_inj.mp
  rw [nI_toInt (by omega)]
  omega
theorem zi_in {x : Int32} {s : Nat} (hs : s < 2147483648) : ((0 : Int64) ≤ x.toInt64 ∧ x.toInt64 ≤ nL s) ↔ (¬ x < 0 ∧ x ≤ nI s) := by
  rw [Int64.le_iff_toInt_le, Int64.le_iff_toInt_le, Int32.toInt_toInt64, nL_toInt (by omega), Int32.lt_iff_toInt_lt, Int32.le_iff_toInt_le, nI_toInt hs]
  show (0 ≤ x.toInt ∧ x.toInt ≤ (s : Int)) ↔ (¬ x.toInt < 0 ∧ x.toInt ≤ (s : Int))
  omega
def zXend (a j : Nat) : Bool := a == 2 || (a == 0 && (j == 2 || j == 3))
def zYend (a j : Nat) : Bool := a == 205 || (a == 203 && (j == 0 || j == 1 || j == 3))
theorem zbok_c : ∀ b, b < 256 → xe_bok (zcB b) = true := by decide +kernel
section
variable {μ ν : xe_Mem} {tb : Nat → Nat} {s n : Nat}
theorem z14no {x : Int32} (h : x < 0 ∨ ¬ x ≤ xe_I μ 0 2) : zD14 x μ = zint 0 μ := by
  unfold zD14 zD14_6
  by_cases h0 : x < 0
  · rw [if_pos h0]
  · rw [if_neg h0, if_neg (h.resolve_left h0)]
theorem z14 (h1 : (xe_sh μ)[1]? = some (.inr (2, 3000))) (h2 : (xe_sh μ)[2]? = some (.inr (2, 3000))) (hs : xe_I μ 0 2 = nI s) (h3 : s ≤ 3000) (hB : zBc (xe_I μ 1) tb s) (hn : n ≤ s) : ∃ μ', zD14 (nI n) μ = zint 1 μ' ∧ xe_I μ' 0 2 = nI 0 ∧ xe_I μ' 0 3 = nI n ∧ zBc (xe_I μ' 2) tb n ∧ zfI zXend μ μ' := by
  have e : xe_acp 2 xe_bok 0 [] [.int (nI n), .int 0, .ref 2, .int 0, .ref 1] μ = some (0 + 1, [], [], (μ.1, xe_w μ.2.1 2 (va_cpy (xe_I μ 1) (xe_I μ 2) 0 0 n), μ.2.2.1, μ.2.2.2.1, μ.2.2.2.2)) := by
    unfold xe_acp
    dsimp only
    rw [h1, h2]
    dsimp only
    have hc : (nI n).toNatClampNeg = n := nI_clamp (by omega)
    have h00 : (0 : Int32).toNatClampNeg = 0 := by decide
    have hbk : ∀ i, i < n → xe_bok (xe_I μ 1 (0 + i)) = true := fun i hi => by
      obtain ⟨b1, b2⟩ := hB i (by omega)
      rw [Nat.zero_add, b2]
      exact zbok_c _ b1
    rw [hc, h00, if_pos ⟨rfl, rfl, by decide, by decide, nI_pos (by omega), by omega, by omega, hbk, by decide⟩]
  refine ⟨xe_setI (xe_setI (μ.1, xe_w μ.2.1 2 (va_cpy (xe_I μ 1) (xe_I μ 2) 0 0 n), μ.2.2.1, μ.2.2.2.1, μ.2.2.2.2) 0 3 (nI n)) 0 2 0, ?_, xu_I, ?_, ?_, ?_⟩
  · unfold zD14 zq_acp zq_m
    rw [if_neg (nI_pos (by omega)), hs, if_pos (nI_le hn (by omega)), e]
  · rw [xu_In (by omega)]
    exact xu_I
  · intro i hi
    obtain ⟨b1, b2⟩ := hB i (by omega)
    refine ⟨b1, ?_⟩
    rw [xu_In (by omega), xu_In (by omega)]
    show xe_w μ.2.1 2 (va_cpy (xe_I μ 1) (xe_I μ 2) 0 0 n) 2 i = _
    rw [xe_w_self]
    unfold va_cpy
    rw [if_pos ⟨by omega, by omega⟩, show 0 + (i - 0) = i by omega]
    exact b2
  · intro a ha
    refine ⟨fun j hj => ?_, rfl, rfl⟩
    unfold zXend at hj
    simp only [Bool.or_eq_false_iff, Bool.and_eq_false_iff, beq_eq_false_iff_ne, ne_eq] at hj
    rw [xu_In (by omega), xu_In (by omega)]
    show xe_w μ.2.1 2 (va_cpy (xe_I μ 1) (xe_I μ 2) 0 0 n) a j = _
    rw [xe_w_ne _ _ hj.1]
theorem z131no {x : Int32} (hs : xe_I ν 203 1 = nI s) (h3 : s ≤ 3000) (h : x < 0 ∨ ¬ x ≤ nI s) : zD131 x ν = zint 0 (xe_setI ν 203 0 0) := by
  unfold zD131
  simp only [zq_m]
  rw [show xe_I (xe_setI ν 203 0 0) 203 1 = nI s from (xu_In (by omega)).trans hs, zn_64 (by omega), z132, zcI_ok, if_neg (show ¬ ((0 : Int64) ≤ x.toInt64 ∧ x.toInt64 ≤ nL s) from fun q => by
    have q2 := (zi_in (x := x) (s := s) (by omega)).mp q
    exact h.elim q2.1 (fun hh => hh q2.2)), if_pos rfl]
theorem z131l (hB : zBr (xe_I ν 204) tb s) (h3 : s ≤ 3000) (hn : n ≤ s) : ∀ (m f i : Nat) (ν1 : xe_Mem), i + m = n → m < f → xe_I ν1 204 = xe_I ν 204 → zBr (xe_I ν1 205) tb i → zfI zYend ν ν1 → ∃ ν', zD131_15 f (nI n) (nI i) ν1 = zint 1 ν' ∧ xe_I ν' 203 1 = nI 0 ∧ xe_I ν' 203 3 = nI n ∧ zBr (xe_I ν' 205) tb n ∧ zfI zYend ν ν' ∧ xe_I ν' 203 0 = xe_I ν1 203 0 := by
  intro m
  induction m with
  | zero =>
    intro f i ν1 hi hf h4 h5 hfr
    obtain ⟨f, rfl⟩ : ∃ g, f = g + 1 := ⟨f - 1, by omega⟩
    have hin : i = n := by omega
    subst hin
    refine ⟨xe_setI (xe_setI ν1 203 3 (nI i)) 203 1 0, ?_, xu_I, ?_, ?_, zfI_t hfr (zfI_t (zfI_s rfl) (zfI_s rfl)), ?_⟩
    · show zD131_15_b (zD131_15 f) (nI i) (nI i) ν1 = _
      unfold zD131_15_b
      simp only [zq_m]
      rw [if_pos (nI_le (by omega) (by omega))]
    · rw [xu_In (by omega)]
      exact xu_I
    · rw [zr_II, if_neg (by decide), zr_II, if_neg (by decide)]
      exact h5
    · rw [xu_In (by omega), xu_In (by omega)]
  | succ m ih =>
    intro f i ν1 hi hf h4 h5 hfr
    obtain ⟨f, rfl⟩ : ∃ g, f = g + 1 := ⟨f - 1, by omega⟩
    have hb := hB i (by omega)
    obtain ⟨ν', g1, g2, g3, g4, g5, g6⟩ := ih f (i + 1) (xe_setI ν1 205 i (xe_I ν1 204 i)) (by omega) (by omega) (by rw [zr_II, if_neg (by decide)]; exact h4) (fun j hj => by
      rw [zr_II, if_pos rfl]
      by_cases hji : j = i
      · rw [hji, va_up_self, h4]
        exact hb
      · rw [va_up_ne _ _ hji]
        exact h5 j (by omega)) (zfI_t hfr (zfI_s rfl))
    refine ⟨ν', ?_, g2, g3, g4, g5, ?_⟩
    · show zD131_15_b (zD131_15 f) (nI n) (nI i) ν1 = _
      unfold zD131_15_b
      simp only [zq_m]
      rw [if_neg (nI_ge (by omega) (by omega)), zx_nI (show i < 3000 by omega) (by decide), zx_nI (show i < 3000 by omega) (by decide), nI_1]
      exact g1
    · rw [g6, xu_In (by omega)]
theorem z131 (hs : xe_I ν 203 1 = nI s) (hB : zBr (xe_I ν 204) tb s) (h3 : s ≤ 3000) (hn : n ≤ s) : ∃ ν', zD131 (nI n) ν = zint 1 ν' ∧ xe_I ν' 203 1 = nI 0 ∧ xe_I ν' 203 3 = nI n ∧ zBr (xe_I ν' 205) tb n ∧ zfI zYend ν ν' ∧ xe_I ν' 203 0 = 0 := by
  obtain ⟨ν', g1, g2, g3, g4, g5, g6⟩ := z131l hB h3 hn n zfu 0 (xe_setI ν 203 0 0) (by omega) (zfu_lt (by omega)) (by rw [zr_II, if_neg (by decide)]) (fun j hj => by omega) (zfI_s rfl)
  refine ⟨ν', ?_, g2, g3, g4, g5, g6.trans xu_I⟩
  unfold zD131
  simp only [zq_m]
  rw [show xe_I (xe_setI ν 203 0 0) 203 1 = nI s from (xu_In (by omega)).trans hs, zn_64 (show s < 2147483648 by omega), z132, zcI_ok, if_pos (show (0 : Int64) ≤ (nI n).toInt64 ∧ (nI n).toInt64 ≤ nL s from (zi_in (by omega)).mpr ⟨nI_pos (by omega), nI_le hn (by omega)⟩), if_neg (by decide)]
  exact g1
end
