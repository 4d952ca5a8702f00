/-! reading: what both take between statements -/
def zW (μ ν μ' ν' : xe_Mem) : Prop := zG μ μ' ∧ zGr ν ν' ∧ xe_sh μ' = xe_sh μ ∧ xe_sl μ' = xe_sl μ
section
variable {N p q pl : Nat} {μ ν μ1 ν1 μ2 ν2 : xe_Mem} {A B : zO}
theorem zW_r : zW μ ν μ ν := ⟨zG_r, zGr_r, rfl, rfl⟩
theorem zW_t (h1 : zW μ ν μ1 ν1) (h2 : zW μ1 ν1 μ2 ν2) : zW μ ν μ2 ν2 := ⟨zG_t h1.1 h2.1, zGr_t h1.2.1 h2.2.1, h2.2.2.1.trans h1.2.2.1, h2.2.2.2.trans h1.2.2.2⟩
theorem zFx_w (hw : zW μ ν μ1 ν1) (h : zFx N μ1 ν1 A B) : zFx N μ ν A B := zFx_f h hw.1 hw.2.1 hw.2.2.1 hw.2.2.2
theorem zW_mv : zW μ ν (zmv μ p) (zrmv ν p) := ⟨zG_mv, zGr_mv, rfl, rfl⟩
theorem zW_I {a j : Nat} {v : Int32} (h : zgI a j) : zW μ ν (xe_setI μ a j v) ν := ⟨zG_sI h, zGr_r, rfl, rfl⟩
theorem zW_L {a j : Nat} {v : Int64} (h : 6 < a) : zW μ ν (xe_setL μ a j v) ν := ⟨zG_sL h, zGr_r, rfl, rfl⟩
theorem zW_R {a j : Nat} {v : Option Nat} (h : 6 < a) : zW μ ν (xe_setR μ a j v) ν := ⟨zG_sR h, zGr_r, rfl, rfl⟩
theorem zW_rI {a j : Nat} {v : Int32} (h : (a < 204 ∨ 209 < a) ∧ (a ≠ 203 ∨ 9 < j)) : zW μ ν μ (xe_setI ν a j v) := ⟨zG_r, zGr_sI h, rfl, rfl⟩
theorem zW_rL {a j : Nat} {v : Int64} (h : 209 < a) : zW μ ν μ (xe_setL ν a j v) := ⟨zG_r, zGr_sL h, rfl, rfl⟩
theorem zgI_j {a j : Nat} (h : 6 < a) (h2 : a ≠ 194) (h3 : j ≠ 0) : zgI a j := ⟨h, h2, fun _ => h3⟩
theorem zgI_a {a j : Nat} (h : 180 < a) (h2 : a ≠ 194) : zgI a j := ⟨by omega, h2, fun e => by rcases e with ⟨t, h3, h4⟩ | ⟨t, h3, h4⟩ <;> omega⟩
theorem zgI_b {a j : Nat} (h : 6 < a) (h2 : a < 17) : zgI a j := ⟨by omega, by omega, fun e => by rcases e with ⟨t, h3, h4⟩ | ⟨t, h3, h4⟩ <;> omega⟩
theorem zFx_cR {f : Nat → xe_Mem → zO} (h : zFx N μ ν A B) : zFx N μ ν (zq_cR A f) B := by
  obtain ⟨μ2, ν2, p2, w1, w2⟩ := h
  exact ⟨μ2, ν2, p2, by rw [w1, zcR_no], w2⟩
theorem zFx_b {g : Int32 → xe_Mem → zO} (h : zFx N μ ν A B) : zFx N μ ν A (zq_cI B fun x m => if x = 0 then some (.inl (some (.int 0)), m) else g x m) := zFx_r h (fun ν' e => by
  rw [e]
  exact zcI_ok.trans (if_pos rfl))
theorem zFx_z (h : zFx N μ ν A B) : zFx N μ ν A (zq_cI B fun x m => zq_z x (some (.inl (some (.int x)), m))) := zFx_r h (fun ν' e => by
  rw [e]
  exact zcI_ok.trans zz_0)
theorem zt_sign (h : zPo N μ ν p) {K : Nat} (h11 : 11 ≤ K) (hK : K ≤ 24) : (p + 1 < N ∧ zD41 (1000001 + K) μ = some (.inl none, zmv μ p) ∧ zD146 (nI (zsc K)) ν = zint 1 (zrmv ν p)) ∨ zFx N μ ν (zD41 (1000001 + K) μ) (zD146 (nI (zsc K)) ν) := by
  obtain ⟨q, pl, h1, h2, h3, h4⟩ := zPo_tok h
  obtain ⟨hx, e1, r1, b1, b2, -⟩ := id h
  rw [z41 e1 h4 h3.1 h1 (by omega), z146 r1 h4 h3 b2 h11 hK]
  by_cases e : q = K
  · rw [if_pos e, if_pos e]
    exact Or.inl ⟨h2.mp (by omega), rfl, rfl⟩
  · rw [if_neg e, if_neg e]
    exact Or.inr (zPo_no h rfl rfl)
theorem zt_word (h : zPo N μ ν p) {K : Nat} (hK : K ≤ 10) : (p + 1 < N ∧ zD41 (1000001 + K) μ = some (.inl none, zmv μ p) ∧ zD154 (nI K) ν = zint 1 (zrmv ν p)) ∨ zFx N μ ν (zD41 (1000001 + K) μ) (zD154 (nI K) ν) := by
  obtain ⟨q, pl, h1, h2, h3, h4⟩ := zPo_tok h
  obtain ⟨hx, e1, r1, b1, b2, -⟩ := id h
  rw [z41 e1 h4 h3.1 h1 (by omega), z154 r1 h4 h3 b2 hK]
  by_cases e : q = K
  · rw [if_pos e, if_pos e]
    exact Or.inl ⟨h2.mp (by omega), rfl, rfl⟩
  · rw [if_neg e, if_neg e]
    exact Or.inr (zPo_no h rfl rfl)
theorem zt_num (h : zPo N μ ν p) {lo hi : Nat} (hlo : lo < 1000000) (hhi : hi < 1000000) : (∃ x, p + 1 < N ∧ lo ≤ x ∧ x ≤ hi ∧ zD42 (nI lo) (nI hi) μ = zint (nI x) (zmv μ p) ∧ zD148 (nL lo) (nL hi) ν = zint 1 (zrmv ν p) ∧ xe_L ν 209 p = nL x ∧ p < 3001) ∨ zFx N μ ν (zD42 (nI lo) (nI hi) μ) (zD148 (nL lo) (nL hi) ν) := by
  obtain ⟨q, pl, h1, h2, h3, h4⟩ := zPo_tok h
  obtain ⟨hx, e1, r1, b1, b2, b3, b4, b5, b6⟩ := id h
  obtain ⟨x, hx26⟩ := z_num1 h3
  rw [z42 (x := x) e1 h4 h3.1 h1 b4 b5 (fun e => (hx26 e).1) hlo hhi, z148 (x := x) r1 h4 h3 b2 (fun e => (hx26 e).2) hlo hhi]
  by_cases e : q = 26 ∧ lo ≤ x ∧ x ≤ hi
  · rw [if_pos e, if_pos e]
    exact Or.inl ⟨x, h2.mp (by omega), e.2.1, e.2.2, rfl, rfl, (hx26 e.1).2.2, h4⟩
  · rw [if_neg e, if_neg e]
    exact Or.inr (zPo_no h rfl rfl)
theorem zt_isw (h : zPo N μ ν p) {K : Nat} (hK : K ≤ 10) : ∃ b : Bool, zD35 (1000001 + K) μ = zint (zb01 b) μ ∧ zD141 (nI K) ν = zint (zb01 b) ν ∧ (b = true → p + 1 < N ∧ ∃ pl, zTk μ ν p K pl) := by
  obtain ⟨q, pl, h1, h2, h3, h4⟩ := zPo_tok h
  obtain ⟨hx, e1, r1, b1, b2, -⟩ := id h
  refine ⟨decide (q = K), z35 e1 h4 h3.1 h1 (by omega), z141 r1 h4 h3 hK, fun e => ?_⟩
  have e2 : q = K := of_decide_eq_true e
  subst e2
  exact ⟨h2.mp (by omega), pl, h3⟩
theorem zt_iss (h : zPo N μ ν p) {K : Nat} (h11 : 11 ≤ K) (hK : K ≤ 24) : ∃ b : Bool, zD35 (1000001 + K) μ = zint (zb01 b) μ ∧ zD147 (nI (zsc K)) ν = zint (zb01 b) ν ∧ (b = true → p + 1 < N) := by
  obtain ⟨q, pl, h1, h2, h3, h4⟩ := zPo_tok h
  obtain ⟨hx, e1, r1, b1, b2, -⟩ := id h
  refine ⟨decide (q = K), z35 e1 h4 h3.1 h1 (by omega), z147 r1 h4 h3 h11 hK, fun e => ?_⟩
  have e2 : q = K := of_decide_eq_true e
  exact h2.mp (by omega)
theorem z37_0 : zD37 0 μ = some (.inl none, μ) := if_pos rfl
theorem z37_1 : zD37 1 μ = zq_thr 12 μ := if_neg (by decide)
/-- a table of names -/
def zNa (nm cap : Nat) : Prop := (nm = 182 ∧ cap = 22) ∨ (nm = 186 ∧ cap = 4) ∨ (nm = 190 ∧ cap = 24)
theorem zNa_r {nm cap : Nat} (hn : zNa nm cap) (hR : zRt μ) : xe_R μ nm 0 = some (nm + 1) ∧ xe_R μ nm 1 = some (nm + 2) ∧ xe_R μ nm 2 = some (nm + 3) ∧ xv_S[nm]? = some (.inl 3) ∧ xv_S[nm + 1]? = some (.inr (1, cap)) ∧ xv_S[nm + 2]? = some (.inr (0, cap)) ∧ xv_S[nm + 3]? = some (.inr (0, cap)) ∧ nm + 3 < 203 ∧ cap < 100 := by
  rcases hn with ⟨rfl, rfl⟩ | ⟨rfl, rfl⟩ | ⟨rfl, rfl⟩
  · exact ⟨hR 182 0 183 rfl, hR 182 1 184 rfl, hR 182 2 185 rfl, rfl, rfl, rfl, rfl, by decide, by decide⟩
  · exact ⟨hR 186 0 187 rfl, hR 186 1 188 rfl, hR 186 2 189 rfl, rfl, rfl, rfl, rfl, by decide, by decide⟩
  · exact ⟨hR 190 0 191 rfl, hR 190 1 192 rfl, hR 190 2 193 rfl, rfl, rfl, rfl, rfl, by decide, by decide⟩
def znn (μ : xe_Mem) (nm s : Nat) (x : Int64) (a b : Int32) : xe_Mem := xe_setI (xe_setI (xe_setI (xe_setL μ (nm + 1) s x) (nm + 2) s a) (nm + 3) s b) nm 3 (nI (s + 1))
theorem z40n {nm cap s : Nat} {x : Int64} {a b : Int32} (hn : zNa nm cap) (hR : zRt μ) (hs : xe_I μ nm 3 = nI s) (hc : s < cap) : zD40 nm x a b μ = some (.inl none, znn μ nm s x a b) := by
  obtain ⟨q0, q1, q2, s0, s1, s2, s3, hb, hcp⟩ := zNa_r hn hR
  unfold zD40 zD40_30
  simp only [zq_m]
  rw [zo_in s0 (by omega), q0, zs_some, za_in s1 (by omega), hs, if_neg (show ¬ Int32.ofNat cap ≤ nI s from nI_ge (b := cap) hc (by omega)), zs_some, za_in s1 (by omega), zx_nI hc (by omega)]
  rw [show xe_R (xe_setL μ (nm + 1) s x) nm 1 = some (nm + 2) from q1, zs_some, za_in s2 (by omega), show xe_I (xe_setL μ (nm + 1) s x) nm 3 = nI s from hs, zx_nI hc (by omega)]
  rw [show xe_R (xe_setI (xe_setL μ (nm + 1) s x) (nm + 2) s a) nm 2 = some (nm + 3) from q2, zs_some, za_in s3 (by omega), show xe_I (xe_setI (xe_setL μ (nm + 1) s x) (nm + 2) s a) nm 3 = nI s from (xu_In (by omega)).trans hs, zx_nI hc (by omega)]
  rw [show xe_I (xe_setI (xe_setI (xe_setL μ (nm + 1) s x) (nm + 2) s a) (nm + 3) s b) nm 3 = nI s from (xu_In (by omega)).trans ((xu_In (by omega)).trans hs), nI_1]
  rfl
theorem z39n {nm cap s : Nat} {x : Int64} (hn : zNa nm cap) (hR : zRt μ) (hs : xe_I μ nm 3 = nI s) (hc : s ≤ cap) : zD39 nm x μ = zint (zff (fun e => decide (xe_L μ (nm + 1) e = x)) s 0) μ := by
  obtain ⟨q0, q1, q2, s0, s1, s2, s3, hb, hcp⟩ := zNa_r hn hR
  exact z39l s0 (by omega) q0 s1 (by omega) (by omega) hs hc s zfu 0 (by omega) (zfu_lt (by omega))
theorem zff_ge {E : Nat → Bool} {s e : Nat} (he : e < s) (hE : E e = true) : ∃ z, z < s ∧ E z = true ∧ zff E s 0 = nI z := by
  by_cases h : ∃ z, z < s ∧ E z = true ∧ ∀ y, y < z → E y = false
  · obtain ⟨z, h1, h2, h3⟩ := h
    exact ⟨z, h1, h2, zff_one h2 s 0 (by omega) (by omega) (fun y _ hy => h3 y hy)⟩
  · refine absurd ?_ h
    clear h
    revert hE he
    induction e using Nat.strongRecOn with
    | ind e ih =>
      intro he hE
      by_cases hy : ∃ y, y < e ∧ E y = true
      · obtain ⟨y, y1, y2⟩ := hy
        exact ih y y1 (by omega) y2
      · refine ⟨e, he, hE, fun y hy2 => ?_⟩
        cases hEy : E y with
        | false => rfl
        | true => exact absurd ⟨y, hy2, hEy⟩ hy
/-- takeNewName -/
theorem z38y {nm cap s : Nat} {a b : Int32} (hn : zNa nm cap) (hR : zRt μ) (hp : xe_I μ 181 6 = nI p) (h : p < 3001) (hk : xe_R μ 4 p = some (1000001 + 25)) (hs : xe_I μ nm 3 = nI s) (hc : s < cap) (hx : ∀ e, e < s → ¬ xe_L μ (nm + 1) e = xe_L μ 6 p) : zD38 nm a b μ = some (.inl none, zmv (znn μ nm s (xe_L μ 6 p) a b) p) := by
  obtain ⟨q0, q1, q2, s0, s1, s2, s3, hb, hcp⟩ := zNa_r hn hR
  have hn81 : nm = 182 ∨ nm = 186 ∨ nm = 190 := by rcases hn with h | h | h <;> omega
  unfold zD38
  rw [show zD35 1000026 μ = _ from z35 hp h hk (by decide) (K := 25) (by decide), zcI_ok, decide_eq_true (show (25 : Nat) = 25 from rfl), if_neg (show ¬ zb01 true = 0 by decide), hp, zx_nI h (by decide), zo_in s0 (by omega), z39n hn hR hs (by omega), zcI_ok, zff_no s 0 (fun y _ hy => decide_eq_false (hx y (by omega))), if_pos (show (-1 : Int32) < 0 by decide)]
  unfold zD38_16
  rw [z37_0, zcV_ok, hp, zx_nI h (by decide), zo_in s0 (by omega), z40n hn hR hs hc, zcV_ok]
  simp only [zq_m]
  rw [show xe_I (znn μ nm s (xe_L μ 6 p) a b) 181 6 = nI p from (xu_In (by omega)).trans ((xu_In (by omega)).trans ((xu_In (by omega)).trans hp)), nI_1]
  rfl
theorem z38n {nm cap s : Nat} {a b : Int32} (hn : zNa nm cap) (hR : zRt μ) (hp : xe_I μ 181 6 = nI p) (h : p < 3001) (hk : xe_R μ 4 p = some (1000001 + q)) (hq : q < 29) (hs : xe_I μ nm 3 = nI s) (hc : s ≤ cap) (hg : zq_thr 12 μ = some (.inr (xe_sh μ).length, xe_add μ (.inl 12) 6)) (hx : ¬ q = 25 ∨ ∃ e, e < s ∧ xe_L μ (nm + 1) e = xe_L μ 6 p) : zD38 nm a b μ = zq_thr 12 μ := by
  obtain ⟨q0, q1, q2, s0, s1, s2, s3, hb, hcp⟩ := zNa_r hn hR
  have h13 : zD38_13 nm a b μ = zq_thr 12 μ := by
    unfold zD38_13 zD38_16
    rw [z37_1, hg, zcV_no]
  unfold zD38
  rw [show zD35 1000026 μ = _ from z35 hp h hk hq (K := 25) (by decide), zcI_ok]
  by_cases e : q = 25
  · rcases hx with hx | ⟨y, y1, y2⟩
    · exact absurd e hx
    obtain ⟨z, z1, z2, z3⟩ := zff_ge (E := fun e => decide (xe_L μ (nm + 1) e = xe_L μ 6 p)) y1 (decide_eq_true y2)
    rw [decide_eq_true e, if_neg (show ¬ zb01 true = 0 by decide), hp, zx_nI h (by decide), zo_in s0 (by omega), z39n hn hR hs hc, zcI_ok, z3, if_neg (nI_pos (by omega))]
    exact h13
  · rw [decide_eq_false e, if_pos (show zb01 false = 0 by decide)]
    exact h13
end
