/-! reading a task: frames, and its head up to its node -/
def zfG (X Y Z : Nat → Nat → Prop) (μ μ' : xe_Mem) : Prop := ∀ a, a < 265 → ∀ j, (¬ X a j → xe_I μ' a j = xe_I μ a j) ∧ (¬ Y a j → xe_L μ' a j = xe_L μ a j) ∧ (¬ Z a j → xe_R μ' a j = xe_R μ a j)
section
variable {X Y Z : Nat → Nat → Prop} {μ μ1 μ2 : xe_Mem} {a j : Nat}
theorem zfG_r : zfG X Y Z μ μ := fun _ _ _ => ⟨fun _ => rfl, fun _ => rfl, fun _ => rfl⟩
theorem zfG_t (h1 : zfG X Y Z μ μ1) (h2 : zfG X Y Z μ1 μ2) : zfG X Y Z μ μ2 := fun a ha j => ⟨fun h => ((h2 a ha j).1 h).trans ((h1 a ha j).1 h), fun h => ((h2 a ha j).2.1 h).trans ((h1 a ha j).2.1 h), fun h => ((h2 a ha j).2.2 h).trans ((h1 a ha j).2.2 h)⟩
theorem zfG_I {v : Int32} (h : X a j) : zfG X Y Z μ (xe_setI μ a j v) := fun b _ i => ⟨fun hn => xu_In (fun e => hn (by rw [e.1, e.2]; exact h)), fun _ => rfl, fun _ => rfl⟩
theorem zfG_L {v : Int64} (h : Y a j) : zfG X Y Z μ (xe_setL μ a j v) := fun b _ i => ⟨fun _ => rfl, fun hn => by rw [zu_L, if_neg (fun e => hn (by rw [e.1, e.2]; exact h))], fun _ => rfl⟩
theorem zfG_R {v : Option Nat} (h : Z a j) : zfG X Y Z μ (xe_setR μ a j v) := fun b _ i => ⟨fun _ => rfl, fun _ => rfl, fun hn => by rw [zu_R, if_neg (fun e => hn (by rw [e.1, e.2]; exact h))]⟩
theorem zfG_J {Xb : Nat → Nat → Bool} {y : Nat} (h : zfJ Xb y μ μ1) (hX : ∀ a j, ¬ X a j → Xb a j = false) (hY : ∀ j, Y y j) : zfG X Y Z μ μ1 := fun a ha j => ⟨fun hn => (h a ha).1 j (hX a j hn), fun hn => by
  rw [(h a ha).2.1 (fun e => hn (by rw [e]; exact hY j))], fun _ => by rw [(h a ha).2.2]⟩
theorem zfG_w {X' Y' Z' : Nat → Nat → Prop} (h : zfG X Y Z μ μ1) (hX : ∀ a j, X a j → X' a j) (hY : ∀ a j, Y a j → Y' a j) (hZ : ∀ a j, Z a j → Z' a j) : zfG X' Y' Z' μ μ1 := fun a ha j => ⟨fun hn => (h a ha j).1 (fun e => hn (hX a j e)), fun hn => (h a ha j).2.1 (fun e => hn (hY a j e)), fun hn => (h a ha j).2.2 (fun e => hn (hZ a j e))⟩
end
theorem zL_div {a b : Nat} (ha : a < 2147483648) (hb : b < 2147483648) : nL a / nL b = nL (a / b) := by
  have hq : a / b ≤ a := Nat.div_le_self a b
  apply Int64.toInt_inj.mp
  rw [Int64.toInt_div, nL_toInt (by omega), nL_toInt (by omega), nL_toInt (by omega)]
  show ((a : Int).tdiv (b : Int)).bmod _ = _
  rw [← Int.ofNat_tdiv]
  generalize a / b = r at hq ⊢
  exact Int.bmod_eq_of_le (by omega) (by omega)
theorem zL_mul (a b : Nat) : nL a * nL b = nL (a * b) := (Int64.ofNat_mul a b).symm
theorem zL_add (a b : Nat) : nL a + nL b = nL (a + b) := (Int64.ofNat_add a b).symm
theorem zL_sub {a b : Nat} (h : b ≤ a) : nL a - nL b = nL (a - b) := by
  have e : nL a = nL (a - b) + nL b := by rw [zL_add, Nat.sub_add_cancel h]
  rw [e, Int64.add_sub_cancel]
theorem zL_mod {a b : Nat} (ha : a < 2147483648) (hb : b < 2147483648) : nL a - nL a / nL b * nL b = nL (a % b) := by
  rw [zL_div ha hb, zL_mul, zL_sub (Nat.div_mul_le_self a b)]
  congr 1
  have := Nat.div_add_mod a b
  rw [Nat.mul_comm] at this
  omega
theorem zn_mod {a b : Nat} (ha : a < 2147483648) (hb : b < 2147483648) : nI a - nI a / nI b * nI b = nI (a % b) := by
  rw [zn_div ha hb, zn_mul, zn_sub (Nat.div_mul_le_self a b)]
  congr 1
  have := Nat.div_add_mod a b
  rw [Nat.mul_comm] at this
  omega
/-- a number that goes into the period -/
def zPt (q per y : Nat) : Prop := q = 26 ∧ 0 < y ∧ per % y = 0
section
variable {N P S m T per y p q pl : Nat} {μ ν : xe_Mem} {x : Int64} {v1 a1 : Int32}
/-- takePart -/
theorem z48y (hm : m < 4) (hr : xe_R μ 181 10 = some (17 + 11 * m)) (hper : xe_I μ (17 + 11 * m) 1 = nI per) (h120 : per ≤ 120) (hp : xe_I μ 181 6 = nI p) (h : p < 3001) (hk : xe_R μ 4 p = some (1000001 + q)) (hv : y ≤ 999999 ∧ xe_L μ 6 p = nL y) (hg : zPt q per y) : zD48 a1 μ = if a1 = 0 then zint (nI (per / y)) (zmv μ p) else zq_cI (zD49 (17 + 11 * m) (nI (per / y)) μ) fun x22 m20 => if x22 = 0 then zD48_53 (nI (per / y)) 1 m20 else zD48_52 (nI (per / y)) m20 := by
  obtain ⟨rfl, hy0, hmod⟩ := hg
  have c0 : ¬ lg_cmp (nL y) 0 = 0 := fun e => by
    have e2 := (lg_cmp_eq _ _).mp e
    rw [show (0 : Int64) = nL 0 from rfl, zL_eq (by omega) (by omega)] at e2
    omega
  have y0 : ¬ nL y = 0 := fun e => by
    rw [show (0 : Int64) = nL 0 from rfl, zL_eq (by omega) (by omega)] at e
    omega
  have y1 : ¬ nI y = 0 := nI_ne0 hy0 (by omega)
  have hlp : zD48_53 (nI (per / y)) 0 μ = zint (nI (per / y)) (zmv μ p) := by
    unfold zD48_53
    rw [z37_0, zcV_ok]
    simp only [zq_m]
    rw [hp, nI_1]
    rfl
  unfold zD48
  rw [show zD35 1000027 μ = _ from z35 hp h hk (by decide) (K := 26) (by decide), zcI_ok, decide_eq_true (show (26 : Nat) = 26 from rfl), if_neg (show ¬ zb01 true = 0 by decide), hp, zx_nI h (by decide), hv.2, if_neg c0, hr, zs_some, zo_in (zS_mode m hm) (by omega), zx_nI h (by decide), hv.2, zdL_ok y0, hper, zn_64 (by omega), zL_mod (by omega) (by omega), hmod, if_pos (show lg_cmp (nL 0) 0 = 0 from (lg_cmp_eq _ _).mpr rfl)]
  unfold zD48_30
  rw [z37_0, zcV_ok, hr, zs_some, zo_in (zS_mode m hm) (by omega), hp, zx_nI h (by decide), hv.2, zn_32 (by omega), zd_ok y1, hper, zn_div (by omega) (by omega)]
  simp only [zq_vI]
  by_cases ha : a1 = 0
  · rw [if_pos ha, if_pos ha]
    exact hlp
  · rw [if_neg ha, if_neg ha, zs_some, zo_in (zS_mode m hm) (by omega)]
theorem z48n (hm : m < 4) (hr : xe_R μ 181 10 = some (17 + 11 * m)) (hper : xe_I μ (17 + 11 * m) 1 = nI per) (h120 : per ≤ 120) (hp : xe_I μ 181 6 = nI p) (h : p < 3001) (hk : xe_R μ 4 p = some (1000001 + q)) (hq : q < 29) (hv : q = 26 → y ≤ 999999 ∧ xe_L μ 6 p = nL y) (hg : zq_thr 12 μ = some (.inr (xe_sh μ).length, xe_add μ (.inl 12) 6)) (hn : ¬ zPt q per y) : zD48 a1 μ = zq_thr 12 μ := by
  have h27 : zD48_27 a1 μ = zq_thr 12 μ := by
    unfold zD48_27 zD48_30
    rw [z37_1, hg, zcV_no]
  unfold zD48
  rw [show zD35 1000027 μ = _ from z35 hp h hk hq (K := 26) (by decide), zcI_ok]
  by_cases e : q = 26
  · subst e
    obtain ⟨v1, v2⟩ := hv rfl
    rw [decide_eq_true (show (26 : Nat) = 26 from rfl), if_neg (show ¬ zb01 true = 0 by decide), hp, zx_nI h (by decide), v2]
    by_cases y0 : y = 0
    · rw [if_pos ((lg_cmp_eq _ _).mpr (by rw [y0]; rfl))]
      exact h27
    · have c0 : ¬ lg_cmp (nL y) 0 = 0 := fun e => by
        have e2 := (lg_cmp_eq _ _).mp e
        rw [show (0 : Int64) = nL 0 from rfl, zL_eq (by omega) (by omega)] at e2
        omega
      have y0' : ¬ nL y = 0 := fun e => by
        rw [show (0 : Int64) = nL 0 from rfl, zL_eq (by omega) (by omega)] at e
        omega
      have hm0 : ¬ per % y = 0 := fun e => hn ⟨rfl, by omega, e⟩
      have hlt : per % y ≤ per := Nat.mod_le _ _
      rw [if_neg c0, hr, zs_some, zo_in (zS_mode m hm) (by omega), zx_nI h (by decide), v2, zdL_ok y0', hper, zn_64 (by omega), zL_mod (by omega) (by omega), if_neg (fun e => by
        have e2 := (lg_cmp_eq _ _).mp e
        rw [show (0 : Int64) = nL 0 from rfl, zL_eq (by omega) (by omega)] at e2
        exact hm0 e2)]
      exact h27
  · rw [decide_eq_false e, if_pos (show zb01 false = 0 by decide)]
    exact h27
/-- the reference's loop over the names of tasks -/
def zE25 (v1 : Int32) (v2 : Int64) (v4 : Int32) (μ : xe_Mem) : zO := zq_cI (zD143 v4 μ) fun x14 m12 => if x14 = 0 then some (.inl (some (.int 0)), m12) else zq_vI (xe_I m12 203 22) fun x15 => zq_x (xe_I m12 203 10) 3002 fun j16 => if (xe_I m12 207 j16) = 2 then zq_x (xe_I m12 203 10) 3002 fun j20 => if (lg_cmp (xe_L m12 209 j20) 0) ≤ 0 then zD153_85 v1 v2 x15 m12 else zq_x v1 4 fun j128 => zq_x (xe_I m12 203 10) 3002 fun j132 => zq_dL (xe_L m12 209 j132) <| if (lg_cmp (((xe_I m12 214 j128).toInt64) - ((xe_I m12 214 j128).toInt64) / (xe_L m12 209 j132) * (xe_L m12 209 j132)) 0) = 0 then zD153_86 v1 v2 x15 1 m12 else zD153_85 v1 v2 x15 m12 else zD153_85 v1 v2 x15 m12
theorem z153f (ht : xe_I ν 203 22 = nI T) (ht2 : T ≤ 24) : ∀ (r f k : Nat) (b : Bool), k + r = T → r < f → zD153_25 f v1 x (zb01 b) (nI k) ν = zE25 v1 x (zb01 (b && zall (fun k => decide (¬ xe_L ν 217 k = x)) r k)) ν := by
  intro r
  induction r with
  | zero =>
    intro f k b hk hf
    obtain ⟨f, rfl⟩ : ∃ g, f = g + 1 := ⟨f - 1, by omega⟩
    show zD153_25_b (zD153_25 f) v1 x (zb01 b) (nI k) ν = _
    unfold zD153_25_b zall
    rw [ht, if_pos (nI_le (by omega) (by omega)), Bool.and_true]
    rfl
  | succ r ih =>
    intro f k b hk hf
    obtain ⟨f, rfl⟩ : ∃ g, f = g + 1 := ⟨f - 1, by omega⟩
    show zD153_25_b (zD153_25 f) v1 x (zb01 b) (nI k) ν = _
    unfold zD153_25_b zD153_40 zD153_41 zall
    rw [ht, if_neg (nI_ge (by omega) (by omega)), nI_1]
    have e0 := ih f (k + 1) false (by omega) (by omega)
    have e1 := ih f (k + 1) true (by omega) (by omega)
    rw [Bool.false_and] at e0
    rw [Bool.true_and] at e1
    cases b
    · rw [if_pos (by decide), Bool.false_and]
      exact e0
    · rw [if_neg (by decide), zx_nI (show k < 24 by omega) (by decide), Bool.true_and]
      by_cases h1 : xe_L ν 217 k = x
      · rw [if_pos ((lg_cmp_eq _ _).mpr h1), decide_eq_false (show ¬ ¬ xe_L ν 217 k = x from fun q => q h1), Bool.false_and]
        exact e0
      · rw [if_neg (fun q => h1 ((lg_cmp_eq _ _).mp q)), decide_eq_true h1, Bool.true_and]
        exact e1
/-- the reference's readTask in pieces -/
def zr53 (a1 : Int32) (m1 : xe_Mem) : zO := zq_x (xe_I m1 203 10) 3002 fun j3 => zq_vL (xe_L m1 209 j3) fun x7 => zq_x (xe_I m1 203 10) 3002 fun j8 => if (xe_I m1 207 j8) = 1 then zD153_22 a1 x7 1 m1 else zD153_22 a1 x7 0 m1
def zr86c (v1 : Int32) (v2 : Int64) (v5 : Int32) (m54 : xe_Mem) : zO := zq_x v5 24 fun j57 => zq_m (xe_setL m54 217 j57 v2) fun m61 => zq_x v5 24 fun j63 => zq_m (xe_setI m61 218 j63 v1) fun m67 => zq_cI (zD149 m67) fun x71 m69 => zq_x v5 24 fun j72 => zq_m (xe_setI m69 219 j72 x71) fun m76 => zq_x v5 24 fun j78 => zq_m (xe_setI m76 223 j78 0) fun m82 => zq_x v5 24 fun j84 => zq_m (xe_setI m82 224 j84 (xe_I m82 203 47)) fun m88 => zD153_149 zfu v1 v5 0 m88
def zr86b (v1 : Int32) (v2 : Int64) (v5 : Int32) (m49 : xe_Mem) : zO := zq_cI (zD154 4 m49) fun x53 m51 => if x53 = 0 then some (.inl (some (.int 0)), m51) else zq_cI (zD148 0 3 m51) fun x56 m54 => if x56 = 0 then some (.inl (some (.int 0)), m54) else zr86c v1 v2 v5 m54
theorem z153a (hp : xe_I ν 203 10 = nI p) : zD153 a1 ν = zr53 a1 (zrmv ν p) := by
  unfold zD153
  simp only [zq_m]
  rw [hp, nI_1]
  rfl
/-- its name is new to the reference, or not -/
theorem z153b (ht : xe_I ν 203 22 = nI T) (ht2 : T ≤ 24) (hp : xe_I ν 203 10 = nI p) (h : p < 3001) (hk : zTk μ ν p q pl) (hb : xe_I ν 203 11 = 0) : zr53 v1 ν = if q = 25 ∧ (∀ k, k < T → ¬ xe_L ν 217 k = xe_L ν 209 p) then zE25 v1 (xe_L ν 209 p) 1 ν else zint 0 (xe_setI ν 203 11 1) := by
  have hkr := zRk_k hk.2.2.2.2
  have h25 : (nI (zkr q) = 1) ↔ q = 25 := by
    rw [show (1 : Int32) = nI 1 from rfl, zi_eq (by have := zkr_lt q; omega) (by omega)]
    unfold zkr
    constructor
    · intro e
      split at e
      · omega
      · split at e
        · omega
        · split at e
          · assumption
          · split at e
            · omega
            · split at e <;> omega
    · intro e
      subst e
      rfl
  have hall : zall (fun k => decide (¬ xe_L ν 217 k = xe_L ν 209 p)) T 0 = true ↔ ∀ k, k < T → ¬ xe_L ν 217 k = xe_L ν 209 p := by
    rw [zall_t]
    constructor
    · intro e k hk
      exact of_decide_eq_true (e k (by omega) (by omega))
    · intro e k _ hk
      exact decide_eq_true (e k (by omega))
  have hno : zE25 v1 (xe_L ν 209 p) 0 ν = zint 0 (xe_setI ν 203 11 1) := by
    unfold zE25
    rw [z143f, zcI_ok, if_pos rfl]
  unfold zr53 zD153_22
  simp only [zq_vL]
  rw [hp, zx_nI (show p < 3002 by omega) (by decide), zx_nI (show p < 3002 by omega) (by decide), hkr]
  by_cases e : q = 25
  · rw [if_pos (h25.mpr e), show zD153_25 zfu v1 (xe_L ν 209 p) 1 0 ν = _ from z153f ht ht2 T zfu 0 true (by omega) (zfu_lt (by omega)), Bool.true_and]
    by_cases hz : ∀ k, k < T → ¬ xe_L ν 217 k = xe_L ν 209 p
    · rw [hall.mpr hz, if_pos ⟨e, hz⟩]
      rfl
    · rw [if_neg (fun w => hz w.2), show zall (fun k => decide (¬ xe_L ν 217 k = xe_L ν 209 p)) T 0 = false from Bool.eq_false_iff.mpr (fun w => hz (hall.mp w))]
      exact hno
  · rw [if_neg (fun w => e (h25.mp w)), show zD153_25 zfu v1 (xe_L ν 209 p) 0 0 ν = _ from z153f ht ht2 T zfu 0 false (by omega) (zfu_lt (by omega)), Bool.false_and, if_neg (fun w => e w.1)]
    exact hno
end
