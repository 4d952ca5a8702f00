/-! statements: braces and numbers -/
def zopb (ν : xe_Mem) (o kd : Nat) : xe_Mem := xe_setI (xe_setI (xe_setI ν 243 o (nI kd)) 245 o 0) 203 53 (nI (o + 1))
section
variable {μ ν : xe_Mem} {p q pl o kd d : Nat}
/-- openBlock -/
theorem z155 (ho : xe_I ν 203 53 = nI o) (h8 : o < 8) : zD155 (nI kd) ν = some (.inl none, zopb ν o kd) := by
  unfold zD155
  simp only [zq_m]
  have e1 : xe_I (xe_setI ν 243 o (nI kd)) 203 53 = nI o := (xu_In (by omega)).trans ho
  have e2 : xe_I (xe_setI (xe_setI ν 243 o (nI kd)) 245 o 0) 203 53 = nI o := (xu_In (by omega)).trans e1
  rw [ho, zx_nI h8 (by decide), e1, zx_nI h8 (by decide), e2, nI_1]
  rfl
/-- brace -/
theorem z158 (hp : xe_I ν 203 10 = nI p) (h : p < 3001) (hk : zTk μ ν p q pl) (hb : xe_I ν 203 11 = 0) (ho : xe_I ν 203 53 = nI o) (h8 : o < 8) : zD158 (nI kd) ν = if q = 11 ∧ o < 6 then zint 1 (zopb (zrmv ν p) o kd) else zint 0 (xe_setI ν 203 11 1) := by
  unfold zD158 zD158_11 zD158_12
  rw [show zD147 123 ν = _ from z147 hp h hk (K := 11) (by decide) (by decide), zcI_ok]
  by_cases h11 : q = 11
  · rw [decide_eq_true h11, if_neg (show ¬ zb01 true = 0 by decide), ho]
    by_cases h6 : o < 6
    · rw [if_neg (show ¬ (6 : Int32) ≤ nI o from nI_ge (b := 6) h6 (by decide)), if_pos ⟨h11, h6⟩, z143t hp hb, zcI_ok, if_neg (by decide), z155 (ν := zrmv ν p) ((xu_In (by omega)).trans ho) h8, zcV_ok]
    · rw [if_pos (show (6 : Int32) ≤ nI o from nI_le (a := 6) (by omega) (by omega)), if_neg (fun e => h6 e.2), z143f, zcI_ok, if_pos rfl]
  · rw [decide_eq_false h11, if_pos (show zb01 false = 0 by decide), if_neg (fun e => h11 e.1), z143f, zcI_ok, if_pos rfl]
/-- readBlock's begin -/
theorem z53h {f53 : Int32 → xe_Mem → zO} (hp : xe_I μ 181 6 = nI p) (h : p < 3001) (hk : xe_R μ 4 p = some (1000001 + q)) (hq : q < 29) (h1 : (xe_sh μ).length < xg_CT) (h2 : xe_sl μ + 6 ≤ xg_ST) (hd : d < 100) : zD53 f53 (nI d) μ = if q = 11 ∧ d < 6 then zD53_14 f53 zfu (nI d) 0 0 (zmv μ p) else zq_thr 12 μ := by
  unfold zD53 zD53_6 zD37
  by_cases h6 : d < 6
  · rw [if_pos (show nI d ≤ (5 : Int32) from nI_le (b := 5) (by omega) (by decide)), if_pos rfl, zcV_ok, show zD41 1000012 μ = _ from z41 hp h hk hq (K := 11) (by decide)]
    by_cases h11 : q = 11
    · rw [if_pos h11, if_pos ⟨h11, h6⟩, zcV_ok]
    · rw [if_neg h11, if_neg (fun e => h11 e.1), zthr h1 h2, zcV_no]
  · rw [if_neg (show ¬ nI d ≤ (5 : Int32) from nI_ge (a := 5) (by omega) (by omega)), if_neg (show ¬ (1 : Int32) = 0 by decide), if_neg (fun e => h6 e.2), zthr h1 h2, zcV_no]
/-- takeNumber -/
theorem z42 {lo hi x : Nat} (hp : xe_I μ 181 6 = nI p) (h : p < 3001) (hk : xe_R μ 4 p = some (1000001 + q)) (hq : q < 29) (h1 : (xe_sh μ).length < xg_CT) (h2 : xe_sl μ + 6 ≤ xg_ST) (hv : q = 26 → x ≤ 999999 ∧ xe_L μ 6 p = nL x) (hlo : lo < 1000000) (hhi : hi < 1000000) : zD42 (nI lo) (nI hi) μ = if q = 26 ∧ lo ≤ x ∧ x ≤ hi then zint (nI x) (zmv μ p) else zq_thr 12 μ := by
  have e27 : ∀ v2 : Int32, zD42_24 v2 μ = zq_thr 12 μ := fun v2 => by
    unfold zD42_24 zD42_27 zD37
    rw [if_neg (by decide), zthr h1 h2, zcV_no]
  unfold zD42
  rw [show zD35 1000027 μ = _ from z35 hp h hk hq (K := 26) (by decide), zcI_ok]
  by_cases h26 : q = 26
  · obtain ⟨hx, hv⟩ := hv h26
    rw [decide_eq_true h26, if_neg (show ¬ zb01 true = 0 by decide), hp, zx_nI h (by decide), zx_nI h (by decide), hv, zn_64 (by omega), zn_64 (by omega), e27]
    by_cases hl : lo ≤ x
    · rw [if_neg (fun e => by
        have := (lg_cmp_lt _ _).mp e
        rw [zL_lt (by omega) (by omega)] at this
        omega)]
      by_cases hh : x ≤ hi
      · rw [if_pos ((lg_cmp_le _ _).mpr (by rw [zL_le (by omega) (by omega)]; exact hh)), if_pos ⟨h26, hl, hh⟩]
        unfold zD42_27 zD37
        simp only [zq_m, zq_vI]
        rw [if_pos trivial, zcV_ok, hp, zx_nI h (by decide), hv, zn_32 (by omega), nI_1]
        rfl
      · rw [if_neg (fun e => by
          have := (lg_cmp_le _ _).mp e
          rw [zL_le (by omega) (by omega)] at this
          omega), if_neg (fun e => hh e.2.2)]
    · rw [if_pos ((lg_cmp_lt _ _).mpr (by rw [zL_lt (by omega) (by omega)]; omega)), if_neg (fun e => hl e.2.1)]
  · rw [decide_eq_false h26, if_pos (show zb01 false = 0 by decide), if_neg (fun e => h26 e.1), e27]
/-- number -/
theorem z148 {lo hi x : Nat} (hp : xe_I ν 203 10 = nI p) (h : p < 3001) (hk : zTk μ ν p q pl) (hb : xe_I ν 203 11 = 0) (hv : q = 26 → x ≤ 999999 ∧ xe_L ν 209 p = nL x) (hlo : lo < 1000000) (hhi : hi < 1000000) : zD148 (nL lo) (nL hi) ν = if q = 26 ∧ lo ≤ x ∧ x ≤ hi then zint 1 (zrmv ν p) else zint 0 (xe_setI ν 203 11 1) := by
  have hl := zkr_lt q
  have c2 : (nI (zkr q) = (2 : Int32)) = (zkr q = 2) := zi_eq (b := 2) (by omega) (by decide)
  have d2 : zkr q = 2 ↔ q = 26 := by
    unfold zkr
    split
    · omega
    · split
      · omega
      · split
        · omega
        · split
          · omega
          · split <;> omega
  have e19 : zD148_19 ν = zint 0 (xe_setI ν 203 11 1) := by
    unfold zD148_19 zD148_20
    rw [z143f, zcI_ok]
    exact zz_0
  unfold zD148
  rw [hp, zx_nI (show p < 3002 by omega) (by decide), zx_nI (show p < 3002 by omega) (by decide), zRk_k hk.2.2.2.2, e19]
  by_cases h26 : q = 26
  · obtain ⟨hx, hv⟩ := hv h26
    rw [if_pos (c2.mpr (d2.mpr h26)), hv, z132, zcI_ok, e19]
    by_cases hc : lo ≤ x ∧ x ≤ hi
    · rw [if_pos (show nL lo ≤ nL x ∧ nL x ≤ nL hi by rw [zL_le (by omega) (by omega), zL_le (by omega) (by omega)]; exact hc), if_neg (by decide), if_pos ⟨h26, hc⟩]
      unfold zD148_20
      rw [z143t hp hb, zcI_ok]
      exact zz_1
    · rw [if_neg (show ¬ (nL lo ≤ nL x ∧ nL x ≤ nL hi) by rw [zL_le (by omega) (by omega), zL_le (by omega) (by omega)]; exact hc), if_pos rfl, if_neg (fun e => hc e.2)]
  · rw [if_neg (fun e => h26 (d2.mp (c2.mp e))), if_neg (fun e => h26 e.1)]
/-- before -/
theorem z149 {x : Nat} (hp : xe_I ν 203 10 = nI (p + 1)) (h : p < 3001) (hv : xe_L ν 209 p = nL x) (hx : x ≤ 999999) : zD149 ν = zint (nI x) ν := by
  unfold zD149
  rw [hp, show (nI (p + 1) - 1 : Int32) = nI p from by rw [show (1 : Int32) = nI 1 from rfl, zn_sub (by omega)]; rfl, zx_nI (show p < 3002 by omega) (by decide), hv, zn_32 (by omega)]
end
