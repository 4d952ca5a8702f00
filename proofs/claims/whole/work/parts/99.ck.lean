/-! running: a span begins -/
/-- the row b is copied to a -/
def zcp (μ : xe_Mem) (a b : Nat) : xe_Mem := (μ.1, xe_w μ.2.1 a (va_cpy (xe_I μ b) (xe_I μ a) 0 0 12), μ.2.2.1, μ.2.2.2.1, μ.2.2.2.2)
section
variable {μ : xe_Mem} {a b c j : Nat}
theorem zcp_a (h : j < 12) : xe_I (zcp μ a b) a j = xe_I μ b j := by
  show xe_w μ.2.1 a (va_cpy (xe_I μ b) (xe_I μ a) 0 0 12) a j = _
  rw [xe_w_self]
  unfold va_cpy
  rw [if_pos ⟨by omega, by omega⟩, show 0 + (j - 0) = j by omega]
theorem zcp_o (h : ¬ c = a) : xe_I (zcp μ a b) c j = xe_I μ c j := by
  show xe_w μ.2.1 a (va_cpy (xe_I μ b) (xe_I μ a) 0 0 12) c j = _
  rw [xe_w_ne _ _ h]
theorem zcp_f : zfG (fun c j => c = a ∧ j = j) zZu zZu μ (zcp μ a b) := fun c _ j => ⟨fun hn => zcp_o (fun e => hn ⟨e, rfl⟩), fun _ => rfl, fun _ => rfl⟩
theorem zacp {f : xe_Mem → zO} (ha : (xe_sh μ)[a]? = some (.inr (0, 12))) (hb : (xe_sh μ)[b]? = some (.inr (0, 12))) : zq_acp 0 (fun _ => true) b 0 a 0 12 μ f = f (zcp μ a b) := by
  have e : xe_acp 0 (fun _ => true) 0 [] [.int 12, .int 0, .ref a, .int 0, .ref b] μ = some (0 + 1, [], [], zcp μ a b) := by
    unfold xe_acp
    dsimp only
    rw [ha, hb]
    dsimp only
    have h0 : (0 : Int32).toNatClampNeg = 0 := by decide
    have h12 : (12 : Int32).toNatClampNeg = 12 := by decide
    rw [h0, h12, if_pos ⟨rfl, rfl, by decide, by decide, by decide, by decide, by decide, fun _ _ => rfl, by decide⟩]
    rfl
  unfold zq_acp
  rw [e]
theorem zsh_in {s : xe_Sh} (hsh : ∃ g, xe_sh μ = xv_S ++ g) (ha : xv_S[a]? = some s) : (xe_sh μ)[a]? = some s := by
  obtain ⟨g, hg⟩ := hsh
  rw [hg, List.getElem?_append_left (List.getElem?_eq_some_iff.mp ha).1]
  exact ha
end
section
variable {P S t w v3 v5 : Nat} {μ : xe_Mem}
/-- compute, and run at whatever the reference holds -/
theorem z_comp {ν0 : xe_Mem} (ht : t < 24) (h3 : zVv v3) (h5 : zVv v5) (hne : v3 ≠ v5) (hx5 : ∀ j, zXst v5 j) (hP : P ≤ 12) (hS : S ≤ 4) (hw : w ≤ 200) (hR : zRt μ) (hsh : ∃ g, xe_sh μ = xv_S ++ g) (hν : zTi2 P S t w μ ν0) (hp0 : ∀ j, j < P → xe_I μ v3 j = xe_I ν0 250 j) (hs0 : ∀ j, j < 4 → xe_I μ 201 j = xe_I ν0 257 j) :
    ∃ μ', zD117 (61 + 5 * t) v3 v5 μ = some (.inl none, μ') ∧ zfG (fun a j => zXfe a j ∨ (a = v5 ∧ j = j)) zZu zZu μ μ' ∧ xe_sh μ' = xe_sh μ ∧ ∀ ν, zTi2 P S t w μ ν → (∀ j, j < P → xe_I μ v3 j = xe_I ν 250 j) → (∀ j, j < 4 → xe_I μ 201 j = xe_I ν 257 j) → ∃ y ν', zD190 (xe_I ν 224 t) ν = zint y ν' ∧ (∀ j, j < P → xe_I μ' v5 j = xe_I ν' 252 j) ∧ zfG zYfo zZu zZu ν ν' := by
  obtain ⟨c1, c2, c3⟩ := id h3
  obtain ⟨d1, d2, d3⟩ := id h5
  have hr1 : zRt (zcp μ v5 v3) := zRt_G hR zcp_f
  have hg1 : zfG zXrun zYo zYo μ (zcp μ v5 v3) := zfG_w zcp_f (fun a j w => by
    have := hx5 j
    rw [w.1]
    unfold zXst at this
    unfold zXrun
    omega) (fun _ _ w => absurd rfl w.2) (fun _ _ w => absurd rfl w.2)
  have hTi : ∀ ν, zTi2 P S t w μ ν → zTi2 P S t w (zcp μ v5 v3) ν := fun ν h => zTi2_k h ht hg1 hr1 zfG_r
  have hrow : ∀ (ν : xe_Mem), (∀ j, j < P → xe_I μ v3 j = xe_I ν 250 j) → ∀ j, j < P → xe_I (zcp μ v5 v3) v3 j = xe_I ν 250 j := fun ν h j hj => by
    rw [zcp_o hne]
    exact h j hj
  have hcop : ∀ j, j < P → xe_I (zcp μ v5 v3) v5 j = xe_I (zcp μ v5 v3) v3 j := fun j hj => by
    rw [zcp_a (by omega), zcp_o hne]
  have hsen : ∀ (ν : xe_Mem), (∀ j, j < 4 → xe_I μ 201 j = xe_I ν 257 j) → ∀ j, j < 4 → xe_I (zcp μ v5 v3) 201 j = xe_I ν 257 j := fun ν h j hj => by
    rw [zcp_o (by omega)]
    exact h j hj
  obtain ⟨a, b, off, ab, ⟨-, hb, hU⟩, ⟨-, x8, x9, -⟩, -, hcd, hrw, h13⟩ := hTi ν0 hν
  obtain ⟨x, y0, μ2, ν2, p1, p2, p3, p4, p5, p6⟩ := z_follow h3 h5 hne hP hS hb hU hcd hrw hw h13 (hrow ν0 hp0) hcop (hsen ν0 hs0)
  refine ⟨μ2, ?_, ?_, p6, fun ν hν' hp' hs' => ?_⟩
  · unfold zD117
    rw [za_in d3 (by omega), zacp (zsh_in hsh d3) (zsh_in hsh c3), zo_in (zS_task t ht) (by omega), x8, x9, p1, zcI_ok]
  · refine zfG_t (zfG_w zcp_f (fun a j w => Or.inr w) (fun _ _ w => w) (fun _ _ w => w)) (zfG_w p4 (fun a j w => ?_) (fun _ _ w => w) (fun _ _ w => w))
    unfold zXfo at w
    unfold zXfe
    omega
  · obtain ⟨a', b', off', ab', ⟨-, hb', hU'⟩, ⟨-, x8', x9', y'⟩, -, hcd', hrw', h13'⟩ := hTi ν hν'
    obtain ⟨x', y1, μ3, ν3, q1, q2, q3, q4, q5, q6⟩ := z_follow h3 h5 hne hP hS hb' hU' hcd' hrw' hw h13' (hrow ν hp') hcop (hsen ν hs')
    rw [← x8', ← x9', x8, x9] at q1
    have e := (Prod.mk.inj (Option.some.inj (p1.symm.trans q1))).2
    rw [e]
    exact ⟨y1, ν3, by rw [y']; exact q2, q3, q5⟩
end
/-! the reference's rows -/
def zE192a (v1 : Int32) (ν : xe_Mem) : zO := zq_x v1 24 fun j1 => zq_cI (zD190 (xe_I ν 224 j1) ν) fun x7 m5 => zD192_31 zfu v1 x7 0 m5
def zE192b (v1 : Int32) (ν : xe_Mem) : zO := zq_x v1 24 fun j8 => zq_cI (zD190 (xe_I ν 224 j8) ν) fun x14 m12 => zD192_74 zfu v1 x14 0 m12
def zE192c (v1 : Int32) (ν : xe_Mem) : zO := zq_x v1 24 fun j15 => if (xe_I ν 260 j15) < 0 then zq_x v1 24 fun j19 => zD192_108 v1 v1 (xe_I ν 222 j19) ν else zq_x v1 24 fun j41 => zD192_108 v1 v1 (xe_I ν 260 j41) ν
section
variable {t nd : Nat} {v2 : Int32}
theorem z192a (ht : t < 24) (hnd : nd < 4) : ∀ (r g p : Nat) (ν : xe_Mem), p + r = 12 → r < g → xe_I ν 219 t = nI nd → (∀ j, j < p → xe_I ν 250 j = xe_I ν 256 (12 * nd + j)) → ∃ ν', zD192_2 g (nI t) (nI p) ν = zE192a (nI t) ν' ∧ (∀ j, j < 12 → xe_I ν' 250 j = xe_I ν' 256 (12 * nd + j)) ∧ zfG (fun a j => a = 250 ∧ j = j) zZu zZu ν ν' := by
  intro r
  induction r with
  | zero =>
    intro g p ν hp hg h1 h
    obtain ⟨g, rfl⟩ : ∃ k, g = k + 1 := ⟨g - 1, by omega⟩
    have : p = 12 := by omega
    subst this
    refine ⟨ν, ?_, h, zfG_r⟩
    show zD192_2_b (zD192_2 g) _ (nI 12) ν = _
    unfold zD192_2_b
    rw [if_pos (by decide)]
    rfl
  | succ r ih =>
    intro g p ν hp hg h1 h
    obtain ⟨g, rfl⟩ : ∃ k, g = k + 1 := ⟨g - 1, by omega⟩
    obtain ⟨ν', a1, a2, a3⟩ := ih g (p + 1) (xe_setI ν 250 p (xe_I ν 256 (12 * nd + p))) (by omega) (by omega) (by rw [xu_In (by omega)]; exact h1) (fun j hj => by
      rw [xu_In (b := 256) (by omega)]
      by_cases e : j = p
      · subst e; rw [xu_I]
      · rw [xu_In (by omega)]; exact h j (by omega))
    refine ⟨ν', ?_, a2, zfG_t (zfG_I ⟨rfl, rfl⟩) a3⟩
    show zD192_2_b (zD192_2 g) _ (nI p) ν = _
    unfold zD192_2_b
    rw [if_neg (show ¬ (12 : Int32) ≤ nI p from nI_ge (b := 12) (by omega) (by decide)), zx_nI ht (by decide), h1, z12, zx_nI (show 12 * nd + p < 48 by omega) (by decide), zx_nI (show p < 12 by omega) (by decide)]
    simp only [zq_m, nI_1]
    exact a1
def zXb2 (t a j : Nat) : Prop := a = 250 ∨ ((a = 261 ∨ a = 263) ∧ 12 * t ≤ j ∧ j < 12 * t + 12)
theorem z192b (ht : t < 24) : ∀ (r g p : Nat) (ν : xe_Mem), p + r = 12 → r < g → (∀ j, j < p → xe_I ν 261 (12 * t + j) = xe_I ν 252 j ∧ xe_I ν 250 j = xe_I ν 255 j ∧ xe_I ν 263 (12 * t + j) = 0) → ∃ ν', zD192_31 g (nI t) v2 (nI p) ν = zE192b (nI t) ν' ∧ (∀ j, j < 12 → xe_I ν' 261 (12 * t + j) = xe_I ν' 252 j ∧ xe_I ν' 250 j = xe_I ν' 255 j ∧ xe_I ν' 263 (12 * t + j) = 0) ∧ zfG (zXb2 t) zZu zZu ν ν' := by
  intro r
  induction r with
  | zero =>
    intro g p ν hp hg h
    obtain ⟨g, rfl⟩ : ∃ k, g = k + 1 := ⟨g - 1, by omega⟩
    have : p = 12 := by omega
    subst this
    refine ⟨ν, ?_, h, zfG_r⟩
    show zD192_31_b (zD192_31 g) _ _ (nI 12) ν = _
    unfold zD192_31_b
    rw [if_pos (by decide)]
    rfl
  | succ r ih =>
    intro g p ν hp hg h
    obtain ⟨g, rfl⟩ : ∃ k, g = k + 1 := ⟨g - 1, by omega⟩
    obtain ⟨ν', a1, a2, a3⟩ := ih g (p + 1) (xe_setI (xe_setI (xe_setI ν 261 (12 * t + p) (xe_I ν 252 p)) 250 p (xe_I ν 255 p)) 263 (12 * t + p) 0) (by omega) (by omega) (fun j hj => by
      rw [xu_In (b := 252) (by omega), xu_In (b := 252) (by omega), xu_In (b := 252) (by omega), xu_In (b := 255) (by omega), xu_In (b := 255) (by omega), xu_In (b := 255) (by omega), xu_In (b := 261) (by omega), xu_In (b := 261) (by omega), xu_In (b := 250) (by omega)]
      by_cases e : j = p
      · subst e; rw [xu_I, xu_I, xu_I]; exact ⟨rfl, rfl, rfl⟩
      · rw [xu_In (by omega), xu_In (by omega), xu_In (by omega), xu_In (by omega), xu_In (by omega), xu_In (by omega)]; exact h j (by omega))
    refine ⟨ν', ?_, a2, zfG_t (zfG_t (zfG_t (zfG_I (by unfold zXb2; omega)) (zfG_I (by unfold zXb2; omega))) (zfG_I (by unfold zXb2; omega))) a3⟩
    show zD192_31_b (zD192_31 g) _ _ (nI p) ν = _
    unfold zD192_31_b
    have hv : vp_nar .boolean 0 = 0 := by decide
    rw [if_neg (show ¬ (12 : Int32) ≤ nI p from nI_ge (b := 12) (by omega) (by decide)), zx_nI (show p < 12 by omega) (by decide), z12, zx_nI (show 12 * t + p < 288 by omega) (by decide)]
    simp only [zq_m]
    rw [zx_nI (show p < 12 by omega) (by decide), zx_nI (show p < 12 by omega) (by decide), zx_nI (show 12 * t + p < 288 by omega) (by decide), xu_In (b := 255) (by omega), hv, nI_1]
    exact a1
def zXb3 (t a j : Nat) : Prop := a = 262 ∧ 12 * t ≤ j ∧ j < 12 * t + 12
theorem z192c (ht : t < 24) : ∀ (r g p : Nat) (ν : xe_Mem), p + r = 12 → r < g → (∀ j, j < p → xe_I ν 262 (12 * t + j) = xe_I ν 252 j) → ∃ ν', zD192_74 g (nI t) v2 (nI p) ν = zE192c (nI t) ν' ∧ (∀ j, j < 12 → xe_I ν' 262 (12 * t + j) = xe_I ν' 252 j) ∧ zfG (zXb3 t) zZu zZu ν ν' := by
  intro r
  induction r with
  | zero =>
    intro g p ν hp hg h
    obtain ⟨g, rfl⟩ : ∃ k, g = k + 1 := ⟨g - 1, by omega⟩
    have : p = 12 := by omega
    subst this
    refine ⟨ν, ?_, h, zfG_r⟩
    show zD192_74_b (zD192_74 g) _ _ (nI 12) ν = _
    unfold zD192_74_b
    rw [if_pos (by decide)]
    rfl
  | succ r ih =>
    intro g p ν hp hg h
    obtain ⟨g, rfl⟩ : ∃ k, g = k + 1 := ⟨g - 1, by omega⟩
    obtain ⟨ν', a1, a2, a3⟩ := ih g (p + 1) (xe_setI ν 262 (12 * t + p) (xe_I ν 252 p)) (by omega) (by omega) (fun j hj => by
      rw [xu_In (b := 252) (by omega)]
      by_cases e : j = p
      · subst e; rw [xu_I]
      · rw [xu_In (by omega)]; exact h j (by omega))
    refine ⟨ν', ?_, a2, zfG_t (zfG_I (by unfold zXb3; omega)) a3⟩
    show zD192_74_b (zD192_74 g) _ _ (nI p) ν = _
    unfold zD192_74_b
    rw [if_neg (show ¬ (12 : Int32) ≤ nI p from nI_ge (b := 12) (by omega) (by decide)), zx_nI (show p < 12 by omega) (by decide), z12, zx_nI (show 12 * t + p < 288 by omega) (by decide)]
    simp only [zq_m, nI_1]
    exact a1
end
