/-! preparing a mode -/
def zdt (ν : xe_Mem) (i t : Nat) : Nat := zn (xe_I ν (if i = 0 then 221 else if i = 1 then 222 else 219) t)
/-- what both hold of a mode when it is prepared -/
def zVm (P T m f n per s s' : Nat) (μ ν : xe_Mem) : Prop := ∃ (d : Nat → Nat → Nat) (ns fm : Nat → Nat) (tot : Nat), zSt m f n per T d ns fm μ ν ∧ zFi d f n per ns fm ∧
  (∀ t, f ≤ t → t < f + n → ns t = zNs ν T P t ∧ zSp2 μ ν T t P ∧ xe_I μ (61 + 5 * t) 13 = xe_I ν 225 t ∧ fm t + per / d 0 t * ns t ≤ tot) ∧
  (tot ≤ 1440 ∧ xe_I μ (17 + 11 * m) 10 = nI tot ∧ xe_I ν 216 m = nI tot ∧ xe_I μ (17 + 11 * m) 12 = xe_I ν 215 m) ∧
  (∀ x, s ≤ x → x < s' → ∀ j, j < per → xe_I ν 237 x = nI j → (xe_I ν 238 x = -1 ∧ xe_R μ (21 + 11 * m) j = none) ∨ ∃ t kk p, f ≤ t ∧ t < f + n ∧ kk < ns t ∧ xe_I ν 238 x = nI (fm t + j / d 0 t * ns t + kk) ∧ xe_R μ (21 + 11 * m) j = some (61 + 5 * t) ∧ p < P ∧ zSn ν T t p = true ∧ zct (zSn ν T t) p = kk ∧ xe_I μ (22 + 11 * m) j = nI p) ∧
  (∀ j, j < per → (∀ x, s ≤ x → x < s' → ¬ xe_I ν 237 x = nI j) → xe_R μ (21 + 11 * m) j = none) ∧
  (∀ i, i < tot → (∃ x, s ≤ x ∧ x < s' ∧ xe_I ν 238 x = nI i ∧ xe_I μ (23 + 11 * m) i = xe_I ν 237 x ∧ ∀ y, s ≤ y → y < s' → xe_I ν 238 y = nI i → y = x) ∨ ((∀ x, s ≤ x → x < s' → ¬ xe_I ν 238 x = nI i) ∧ xe_I μ (23 + 11 * m) i = -1))
def zXpc (m f n a j : Nat) : Prop := zXq m f n a j ∨ zX7 m f n a j
def zXpr (m f n s s' a j : Nat) : Prop := a = 259 ∨ a = 230 ∨ (a = 225 ∧ f ≤ j ∧ j < f + n) ∨ ((a = 215 ∨ a = 216) ∧ j = m) ∨ (a = 238 ∧ s ≤ j ∧ j < s')
section
variable {μ ν : xe_Mem} {P S N T L U m f n per k k' s s' Sl : Nat}
theorem zmiss {a : Nat} (h : a < 2147483648) : ¬ (-1 : Int32) = nI a := fun w => by
  have := nI_pos (n := a) (by omega)
  rw [← w] at this
  exact this (by decide)
theorem z_prep1 (hR : zRt μ) (hm : m < 4) (hT : T ≤ 24) (hP : P ≤ 12) (h74 : xe_I μ 7 4 = nI P) (h77 : xe_I μ 7 7 = nI T) (hc : zTc T μ ν) (h00 : ∀ t, t < 24 → xe_I μ (61 + 5 * t) 0 = nI t) (hD : zMd N P S L U μ ν m per f (f + n) k k' s s') (hfn : f + n ≤ T) (hlow : ∀ t, t < T → ¬ (f ≤ t ∧ t < f + n) → ¬ xe_I ν 218 t = nI m) (h22 : xe_I ν 203 22 = nI T) (h43 : xe_I ν 203 43 = nI Sl) (hsl : s' ≤ Sl ∧ Sl ≤ 480) (hC : ∀ i, i < Sl → ¬ (s ≤ i ∧ i < s') → ¬ xe_I ν 236 i = nI m) (h228 : ∀ t, t < T → xe_I ν 228 t = nI (zNs ν T P t) ∧ xe_I ν 229 t = nI (zFm ν T P t)) (hdj : ∀ t, t < T → zDij ν t) :
    ∃ μ1 μ2 μ' ν', zD69 (17 + 11 * m) μ = some (.inl none, μ1) ∧ zD71 (17 + 11 * m) μ1 = some (.inl none, μ2) ∧ zD80 (17 + 11 * m) μ2 = some (.inl none, μ') ∧ zD171 (nI m) ν = some (.inl none, ν') ∧ zVm P T m f n per s s' μ' ν' ∧ zfG (zXpc m f n) zZu (zZ7 m) μ μ' ∧ zfG (zXpr m f n s s') zZu zZu ν ν' ∧ zfG (zXpc m f n) zZu (zZ7 m) μ μ1 ∧ zfG (zXpc m f n) zZu (zZ7 m) μ μ2 := by
  obtain ⟨⟨b1, b2, b3, b4, b5, b6, b7, b8⟩, ⟨c1, c2, c3, c4, c5, c6⟩, hr18, hts, het, hsr⟩ := id hD
  rw [show f + n - f = n by omega] at c3 hr18
  have htm2 : zTm2 μ ν m f n per := fun t h1 h2 => by
    obtain ⟨nd, tm, sp, w, lc, ab, ub, a, b, off, ⟨q1, q2, q3, q4, -⟩, ⟨u1, u2, u3, u4, -⟩, ⟨v1, v2, v3, v4, v5, -⟩, -⟩ := hts t h1 h2
    have hsp1 : 1 ≤ sp := by
      rcases Nat.eq_zero_or_pos sp with w | w
      · rw [w, Nat.mul_zero] at q3
        omega
      · exact w
    exact ⟨tm, sp, w, nd, ⟨q2, hsp1, q3, q4, q1⟩, ⟨u2, u3, u4⟩, ⟨v1, v2, v3, v4, v5⟩⟩
  obtain ⟨μ1, a1, a2, a3, a4⟩ := z69 hR hm hT hP h74 h77 hc c1 b2 c3 (by omega) hfn hr18 htm2 c5 (fun t h1 h2 => by
    obtain ⟨nd, tm, sp, w, lc, ab, ub, a, b, off, -, ⟨-, -, -, -, -, -, -, -, -, u11, -⟩, -⟩ := hts t h1 h2
    exact u11) (fun k hk => hlow k (by omega) (by omega))
  obtain ⟨f1, f2, f3, f4⟩ := z_fit (ν := ν) (P := P) (T := T) (m := m) (f := f) (n := n) (per := per) hP b1 b2 hfn (fun t h1 h2 => by
    obtain ⟨tm, sp, w, nd, ⟨p1, p2, p3, p4, p5⟩, -, ⟨v1, v2, v3, v4, v5⟩⟩ := htm2 t h1 h2
    exact ⟨v1, tm, sp, p3, p2, p1, v3, v4⟩) hlow hdj
  have hF : zFi (zdt ν) f n per (zNs ν T P) (zFm ν T P) := f3
  have hR1 : zRt μ1 := zRt_G hR a2
  have k1 : ∀ a j, a < 265 → ¬ zXq m f n a j → xe_I μ1 a j = xe_I μ a j := fun a j q1 q2 => (a2 a q1 j).1 q2
  have n17 : ∀ j, j ≠ 10 → ¬ zXq m f n (17 + 11 * m) j := fun j hj w => by
    rcases w with w | ⟨t, w1, w2, w3⟩ <;> omega
  have hst : zSt m f n per T (zdt ν) (zNs ν T P) (zFm ν T P) μ1 ν := by
    refine ⟨hR1, ⟨hm, by omega, hfn, hT, b1, b2⟩, ⟨(k1 _ 3 (by omega) (n17 3 (by decide))).trans c3, (k1 _ 1 (by omega) (n17 1 (by decide))).trans c1, fun i hi => ((a2 (18 + 11 * m) (by omega) i).2.2 (fun w => w.2 rfl)).trans (hr18 i hi)⟩, fun t h1 h2 => ?_, ⟨h22, c2, hlow⟩⟩
    obtain ⟨tm, sp, w, nd, ⟨p1, p2, p3, p4, p5⟩, ⟨u1, u2, u3⟩, ⟨v1, v2, v3, v4, v5⟩⟩ := htm2 t h1 h2
    have hsp : sp ≤ per := by
      have : 1 * sp ≤ tm * sp := Nat.mul_le_mul_right sp p1
      omega
    have htmp : tm ≤ per := by
      have : tm * 1 ≤ tm * sp := Nat.mul_le_mul_left tm p2
      omega
    have e0 : zdt ν 0 t = sp := by
      show zn (xe_I ν 221 t) = sp
      rw [v4, zn_n (by omega)]
    have e1 : zdt ν 1 t = w := by
      show zn (xe_I ν 222 t) = w
      rw [v5, zn_n (by omega)]
    have e2 : zdt ν 2 t = nd := by
      show zn (xe_I ν 219 t) = nd
      rw [v2, zn_n (by omega)]
    have kt : ∀ j, j ≠ 11 → j ≠ 12 → xe_I μ1 (61 + 5 * t) j = xe_I μ (61 + 5 * t) j := fun j w1 w2 => k1 _ j (by omega) (fun w => by rcases w with w | ⟨t', w3, w4, w5⟩ <;> omega)
    rw [e0, e1, e2]
    refine ⟨⟨p2, hsp, by rw [← p3]; exact Nat.mul_mod_left _ _, p4, p5⟩, ⟨(kt 0 (by decide) (by decide)).trans (h00 t (by omega)), (kt 2 (by decide) (by decide)).trans u1, (kt 3 (by decide) (by decide)).trans u2, (kt 4 (by decide) (by decide)).trans u3, (a3 t h1 h2).1, (a3 t h1 h2).2.1⟩, ⟨v1, v2, v4, v5, (h228 t (by omega)).1, (h228 t (by omega)).2, ?_⟩⟩
    rw [v3, show per / sp = tm from by rw [← p3]; exact Nat.mul_div_cancel _ p2]
  have hQ := zTq_s (Sl := Sl) hsr b7 hsl.1 hsl.2 b2 h43 hC
  have h20 : ∀ j, xe_I μ1 (20 + 11 * m) j = xe_I μ (20 + 11 * m) j := fun j => k1 _ j (by omega) (fun w => by rcases w with w | ⟨t, w1, w2, w3⟩ <;> omega)
  obtain ⟨μ2, ν2, o, d1, d2, d3, d4, d5, d6, d7⟩ := z_check (hs := fun k => decide (¬ xe_I μ (20 + 11 * m) k = 0)) (h := zHm ν T P m) hst hF (fun t h1 h2 => by
    rw [k1 _ 13 (by omega) (fun w => by rcases w with w | ⟨t', w3, w4, w5⟩ <;> omega)]
    obtain ⟨nd, tm, sp, w, lc, ab, ub, a, b, off, ⟨q1, q2, q3, q4, -⟩, ⟨-, -, -, -, -, -, -, -, -, -, u13⟩, ⟨-, -, -, v4, -⟩, -⟩ := hts t h1 h2
    rw [u13]
    show nI sp = nI (zn (xe_I ν 221 t))
    have hsp : sp ≤ per := by
      have : 1 * sp ≤ tm * sp := Nat.mul_le_mul_right sp q2
      omega
    rw [v4, zn_n (by omega)]) (fun j hj => by rw [h20 j]) (fun t ht => by
    refine ⟨fun w => ?_, fun w => if_neg w⟩
    have hin : f ≤ t ∧ t < f + n := by
      by_cases w2 : f ≤ t ∧ t < f + n
      · exact w2
      · exact absurd w (hlow t ht w2)
    obtain ⟨tm, sp, w', nd, ⟨p1, p2, p3, p4, p5⟩, -, ⟨v1, v2, v3, v4, v5⟩⟩ := htm2 t hin.1 hin.2
    have htmp : tm ≤ per := by
      have : tm * 1 ≤ tm * sp := Nat.mul_le_mul_left tm p2
      omega
    unfold zHm
    rw [if_pos w, v3, (h228 t ht).1, zn_n (by omega), zn_mul])
  have hst2 := d3.1
  obtain ⟨ν3, e1, e2, e3⟩ := z180 (v2 := zoi o) (v3 := nI (zsm (zHm ν T P m) T)) hst2
  have htot : zsm (zHm ν T P m) T ≤ 1440 := f2
  have g12 : zfG (zXpc m f n) zZu (zZ7 m) μ μ2 := zfG_t (zfG_w a2 (fun a j q => Or.inl q) (fun a j q => q) (fun a j q => absurd rfl q.2)) (zfG_w d5 (fun a j q => Or.inr q) (fun a j q => q) (fun a j q => q))
  have g11 : zfG (zXpc m f n) zZu (zZ7 m) μ μ1 := zfG_w a2 (fun a j q => Or.inl q) (fun a j q => q) (fun a j q => absurd rfl q.2)
  have r12 : zfG (zXpr m f n s s') zZu zZu ν ν3 := zfG_t (zfG_w d6 (fun a j q => by unfold zX8c at q; unfold zXpr; omega) (fun a j q => q) (fun a j q => q)) (zfG_w e2 (fun a j q => by unfold zXpr; omega) (fun a j q => q) (fun a j q => q))
  have h10 : xe_I μ2 (17 + 11 * m) 10 = nI (zsm (zHm ν T P m) T) := by
    rw [(d5 _ (by omega) 10).1 (fun w => by rcases w with w | w | w | ⟨t, w1, w2, w3⟩ <;> omega), a4, f1]
  have hspare : ∀ t, f ≤ t → t < f + n → xe_I μ2 (61 + 5 * t) 13 = xe_I ν3 225 t := fun t h1 h2 => z_spare d3 h1 h2 (e3 t h1 h2)
  have hsp2 : ∀ t, f ≤ t → t < f + n → zSp2 μ2 ν T t P := fun t h1 h2 p hp hs => by
    rw [(d5 (62 + 5 * t) (by omega) _).1 (fun w => by rcases w with w | w | w | ⟨t', w1, w2, w3⟩ <;> omega)]
    exact (a3 t h1 h2).2.2 p hp hs
  have hk3 : ∀ a j, a < 265 → a ≠ 259 → a ≠ 230 → a ≠ 225 → a ≠ 215 → a ≠ 216 → a ≠ 238 → xe_I ν3 a j = xe_I ν a j := fun a j q1 q2 q3 q4 q5 q6 q7 => (r12 a q1 j).1 (fun w => by unfold zXpr at w; omega)
  have h238 : ∀ x, s ≤ x → x < s' → xe_I ν3 238 x = -1 := fun x w1 w2 => by
    rw [(e2 238 (by decide) x).1 (fun w => by omega), (d6 238 (by decide) x).1 (fun w => by unfold zX8c at w; omega)]
    exact (hsr.1 x w1 w2).2.1
  have h216 : xe_I ν3 216 m = nI (zsm (zHm ν T P m) T) := by
    rw [(e2 216 (by decide) m).1 (fun w => by omega)]
    exact d7
  have hst3 : zSt m f n per T (zdt ν) (zNs ν T P) (zFm ν T P) μ2 ν3 := zSt_k2 hst2 zfG_r (zfG_w e2 (fun a j q => by unfold zX8b; omega) (fun a j q => q) (fun a j q => q))
  -- what stays to be said
  have hfin : ∀ (μ' ν' : xe_Mem), zfG (zX7 m f n) zZu (zZ7 m) μ2 μ' → zfG (fun a j => (a = 215 ∧ j = m) ∨ (a = 238 ∧ s ≤ j ∧ j < s')) zZu zZu ν3 ν' → (∀ t, f ≤ t → t < f + n → xe_I μ' (61 + 5 * t) 13 = xe_I μ2 (61 + 5 * t) 13) → xe_I μ' (17 + 11 * m) 12 = xe_I ν' 215 m →
      (∀ x, s ≤ x → x < s' → ∀ j, j < per → xe_I ν' 237 x = nI j → (xe_I ν' 238 x = -1 ∧ xe_R μ' (21 + 11 * m) j = none) ∨ ∃ t kk p, f ≤ t ∧ t < f + n ∧ kk < zNs ν T P t ∧ xe_I ν' 238 x = nI (zFm ν T P t + j / zdt ν 0 t * zNs ν T P t + kk) ∧ xe_R μ' (21 + 11 * m) j = some (61 + 5 * t) ∧ p < P ∧ zSn ν' T t p = true ∧ zct (zSn ν' T t) p = kk ∧ xe_I μ' (22 + 11 * m) j = nI p) → (∀ j, j < per → (∀ x, s ≤ x → x < s' → ¬ xe_I ν' 237 x = nI j) → xe_R μ' (21 + 11 * m) j = none) →
      (∀ i, i < zsm (zHm ν T P m) T → (∃ x, s ≤ x ∧ x < s' ∧ xe_I ν' 238 x = nI i ∧ xe_I μ' (23 + 11 * m) i = xe_I ν' 237 x ∧ ∀ y, s ≤ y → y < s' → xe_I ν' 238 y = nI i → y = x) ∨ ((∀ x, s ≤ x → x < s' → ¬ xe_I ν' 238 x = nI i) ∧ xe_I μ' (23 + 11 * m) i = -1)) → zVm P T m f n per s s' μ' ν' ∧ zfG (zXpc m f n) zZu (zZ7 m) μ μ' ∧ zfG (zXpr m f n s s') zZu zZu ν ν' ∧ zfG (zXpc m f n) zZu (zZ7 m) μ μ1 ∧ zfG (zXpc m f n) zZu (zZ7 m) μ μ2 := fun μ' ν' G1 G2 hs13 hv hA hB hC' => by
    have gk : ∀ a j, a < 265 → a ≠ 215 → a ≠ 238 → xe_I ν' a j = xe_I ν3 a j := fun a j q1 q2 q3 => (G2 a q1 j).1 (fun w => by omega)
    have hall : ∀ a, a = 219 ∨ a = 226 ∨ a = 227 → ∀ j, xe_I ν' a j = xe_I ν a j := fun a ha j => (gk a j (by omega) (by omega) (by omega)).trans (hk3 a j (by omega) (by omega) (by omega) (by omega) (by omega) (by omega) (by omega))
    obtain ⟨eS, eN⟩ := zNs_k (P := P) (T := T) (ν := ν) (ν' := ν') (hall 219 (by omega)) (hall 226 (by omega)) (hall 227 (by omega))
    refine ⟨⟨zdt ν, zNs ν T P, zFm ν T P, zsm (zHm ν T P m) T, zSt_k2 hst3 G1 (zfG_w G2 (fun a j q => by unfold zX8b; omega) (fun a j q => q) (fun a j q => q)), hF, fun t h1 h2 => ⟨by rw [eN], fun p hp hs => ?_, ?_, f4 t h1 h2⟩, ⟨htot, ?_, ?_, hv⟩, hA, hB, hC'⟩, zfG_t g12 (zfG_w G1 (fun a j q => Or.inr q) (fun a j q => q) (fun a j q => q)), zfG_t r12 (zfG_w G2 (fun a j q => by unfold zXpr; omega) (fun a j q => q) (fun a j q => q)), g11, g12⟩
    · rw [eS] at hs ⊢
      rw [(G1 (62 + 5 * t) (by omega) _).1 (fun w => by rcases w with w | w | w | ⟨t', w1, w2, w3⟩ <;> omega)]
      exact hsp2 t h1 h2 p hp hs
    · rw [hs13 t h1 h2, gk 225 t (by decide) (by decide) (by decide)]
      exact hspare t h1 h2
    · rw [(G1 _ (by omega) 10).1 (fun w => by rcases w with w | w | w | ⟨t', w1, w2, w3⟩ <;> omega)]
      exact h10
    · rw [gk 216 m (by decide) (by decide) (by decide)]
      exact h216
  obtain ⟨-, hv12, ho24, hed⟩ := id d3
  cases ho : o with
  | some x =>
    have hx24 := ho24 x ho
    rw [ho] at e1 hv12
    obtain ⟨μ', z1, z2, z3, z4⟩ := z72 hst2.1 hm
    have hfn' := hfin μ' (xe_setI ν3 215 m (nI (x + 1))) (zfG_w z2 (fun a j q => Or.inr (Or.inr (Or.inl q.1))) (fun a j q => q) (fun a j q => q)) (zfG_I (Or.inl ⟨rfl, rfl⟩)) (fun t h1 h2 => (z2 _ (by omega) 13).1 (fun w => by omega)) (by
      rw [(z2 _ (by omega) 12).1 (fun w => by omega), hv12, xu_I]
      rfl) (fun x' w1 w2 j w3 w4 => Or.inl ⟨by rw [xu_In (by omega)]; exact h238 x' w1 w2, z4 j (by omega)⟩) (fun j hj _ => z4 j (by omega)) (fun i hi => Or.inr ⟨fun x' w1 w2 w3 => by
        rw [xu_In (by omega), h238 x' w1 w2] at w3
        exact zmiss (by omega) w3, z3 i (by omega)⟩)
    refine ⟨μ1, μ2, μ', xe_setI ν3 215 m (nI (x + 1)), a1, d1, ?_, ?_, hfn'⟩
    · unfold zD80
      rw [zo_in (zS_mode m hm) (by omega), hv12, if_neg (show ¬ zov (some x) = 0 from nI_ne0 (by omega) (by omega)), z1, zcV_ok]
    · rw [d2, ho, e1, if_pos (show (0 : Int32) ≤ zoi (some x) from nI_pos' (by omega))]
      unfold zD171_205
      rw [zx_nI hm (by decide)]
      simp only [zq_m]
      rw [if_neg (show ¬ zoi (some x) < 0 from nI_pos (by omega)), show (zoi (some x) + 1 : Int32) = nI (x + 1) from nI_1 x]
  | none =>
    rw [ho] at e1 hv12
    -- the slots
    have hst4 : zSt m f n per T (zdt ν) (zNs ν T P) (zFm ν T P) μ2 (xe_setI ν3 215 m 0) := zSt_k2 hst3 zfG_r (zfG_I (by unfold zX8b; omega))
    have hQ4 := zTq_k (ν' := xe_setI ν3 215 m 0) hQ (fun i => ⟨(xu_In (by omega)).trans (hk3 236 i (by decide) (by decide) (by decide) (by decide) (by decide) (by decide) (by decide)), (xu_In (by omega)).trans (hk3 237 i (by decide) (by decide) (by decide) (by decide) (by decide) (by decide) (by decide))⟩) ((xu_In (by omega)).trans (hk3 203 43 (by decide) (by decide) (by decide) (by decide) (by decide) (by decide) (by decide)))
    obtain ⟨ν5, y1, y2, y3⟩ := z211 (tot := zsm (zHm ν T P m) T) hst4 hQ4 hF (fun x w1 w2 => by rw [xu_In (by omega)]; exact h238 x w1 w2) (fun i w1 w2 t h1 h2 => by
      obtain ⟨p1, p2, p3, p4, p5⟩ := hF.2 t h1 h2
      have hqi : zn (xe_I ν 237 i) < per := (hQ4.2.2.1 i w1 w2).2.1
      obtain ⟨w3, -, w5⟩ := hed t h1 h2
      have hdk : zn (xe_I ν 237 i) / zdt ν 0 t < per / zdt ν 0 t := by
        have a1 := zdiv_s (a := zn (xe_I ν 237 i)) p3
        have a2 := Nat.div_add_mod per (zdt ν 0 t)
        rw [p5, Nat.add_zero, Nat.mul_comm] at a2
        have : zn (xe_I ν 237 i) / zdt ν 0 t * zdt ν 0 t < per / zdt ν 0 t * zdt ν 0 t := by omega
        exact Nat.lt_of_mul_lt_mul_right this
      have hge := w5 ho _ hdk
      have h230 : xe_I (xe_setI ν3 215 m 0) 230 (120 * t + zn (xe_I ν 237 i) / zdt ν 0 t) = xe_I ν2 230 (120 * t + zn (xe_I ν 237 i) / zdt ν 0 t) := by
        rw [xu_In (by omega), (e2 230 (by decide) _).1 (fun w => by omega)]
      rw [h230]
      rcases w3 _ hdk with w | ⟨dd, w6, w7, w8, w9⟩
      · rw [w] at hge
        exact absurd hge (by decide)
      · have hs2 := zdiv_s (a := zn (xe_I ν 237 i)) p3
        have hb : (zn (xe_I ν 237 i) / zdt ν 0 t + 1) * zdt ν 0 t ≤ per := by
          have a2 := Nat.div_add_mod per (zdt ν 0 t)
          rw [p5, Nat.add_zero, Nat.mul_comm] at a2
          have : (zn (xe_I ν 237 i) / zdt ν 0 t + 1) * zdt ν 0 t ≤ per / zdt ν 0 t * zdt ν 0 t := Nat.mul_le_mul_right _ hdk
          omega
        exact ⟨dd, w6, by omega, w9 _ hs2.1 hs2.2⟩)
    have hk5 : ∀ a j, a < 265 → a ≠ 238 → xe_I ν5 a j = xe_I (xe_setI ν3 215 m 0) a j := fun a j q1 q2 => (y2 a q1 j).1 (fun w => q2 w.1)
    have hQ5 := zTq_k (ν' := ν5) hQ4 (fun i => ⟨hk5 236 i (by decide) (by decide), hk5 237 i (by decide) (by decide)⟩) (hk5 203 43 (by decide) (by decide))
    have h237 : ∀ i, xe_I ν5 237 i = xe_I ν 237 i := fun i => (hk5 237 i (by decide) (by decide)).trans ((xu_In (by omega)).trans (hk3 237 i (by decide) (by decide) (by decide) (by decide) (by decide) (by decide) (by decide)))
    obtain ⟨-, -, hqA, hqB, -, hqD⟩ := id hQ
    -- the numbers of slots on both sides
    have hCc : ∀ i, i < zsm (zHm ν T P m) T → (∃ x, s ≤ x ∧ x < s' ∧ xe_I ν5 238 x = nI i ∧ xe_I μ2 (23 + 11 * m) i = xe_I ν5 237 x ∧ ∀ y, s ≤ y → y < s' → xe_I ν5 238 y = nI i → y = x) ∨ ((∀ x, s ≤ x → x < s' → ¬ xe_I ν5 238 x = nI i) ∧ xe_I μ2 (23 + 11 * m) i = -1) := fun i hi => by
      by_cases hex : ∃ j t, j < per ∧ zgv (zdt ν) f n (zNs ν T P) (fun k => decide (¬ xe_I μ (20 + 11 * m) k = 0)) j = some t ∧ zix (zdt ν) f n (zNs ν T P) (zFm ν T P) (fun k => decide (¬ xe_I μ (20 + 11 * m) k = 0)) j t = i
      · obtain ⟨j, t, w1, w2, w3⟩ := hex
        obtain ⟨-, -, w4, -⟩ := zgv_in w2
        obtain ⟨x, x1, x2, x3⟩ := (hqD j w1).mp w4
        have x3' : zn (xe_I ν 237 x) = j := x3
        refine Or.inl ⟨x, x1, x2, ?_, ?_, fun y y1' y2' y3' => ?_⟩
        · rw [y3 x x1 x2, x3', zms_n w2, w3]
        · rw [h237, show xe_I ν 237 x = nI (zn (xe_I ν 237 x)) from (hqA x x1 x2).2.2, x3', ← w3]
          exact (d4.2.1 j t w1 w2).2
        · have hqy : zn (xe_I ν 237 y) < per := (hqA y y1' y2').2.1
          rw [y3 y y1' y2'] at y3'
          cases hz : zgv (zdt ν) f n (zNs ν T P) (fun k => decide (¬ xe_I μ (20 + 11 * m) k = 0)) (zn (xe_I ν 237 y)) with
          | none =>
            rw [zms_0 hz] at y3'
            exact absurd y3' (zmiss (by omega))
          | some t' =>
            obtain ⟨c1', c2', c3'⟩ := zix_b (fm := zFm ν T P) hF hqy hz
            obtain ⟨v1, v2, -⟩ := zgv_in hz
            have hb := (hF.2 t' v1 v2).1
            rw [zms_n hz, zi_eq (by omega) (by omega)] at y3'
            rcases Nat.lt_trichotomy y x with w | w | w
            · have hlt := hqB y x y1' w x2
              have hlt' : zn (xe_I ν 237 y) < j := by rw [← x3']; exact hlt
              exact absurd (w3.trans y3'.symm) (zix_n (fm := zFm ν T P) hF w1 hlt' w2 hz)
            · exact w
            · have hlt := hqB x y x1 w y2'
              have hlt' : j < zn (xe_I ν 237 y) := by rw [← x3']; exact hlt
              exact absurd (y3'.trans w3.symm) (zix_n (fm := zFm ν T P) hF hqy hlt' hz w2)
      · refine Or.inr ⟨fun x w1 w2 w3 => ?_, d4.2.2 i (by omega) (fun j t w1 w2 w3 => hex ⟨j, t, w1, w2, w3.symm⟩)⟩
        have hqx : zn (xe_I ν 237 x) < per := (hqA x w1 w2).2.1
        rw [y3 x w1 w2] at w3
        cases hz : zgv (zdt ν) f n (zNs ν T P) (fun k => decide (¬ xe_I μ (20 + 11 * m) k = 0)) (zn (xe_I ν 237 x)) with
        | none =>
          rw [zms_0 hz] at w3
          exact absurd w3 (zmiss (by omega))
        | some t' =>
          obtain ⟨c1', c2', c3'⟩ := zix_b (fm := zFm ν T P) hF hqx hz
          obtain ⟨v1, v2, -⟩ := zgv_in hz
          have hb := (hF.2 t' v1 v2).1
          rw [zms_n hz, zi_eq (by omega) (by omega)] at w3
          exact hex ⟨_, t', hqx, hz, w3⟩
    have hbb : ∀ k, k < zsm (zHm ν T P m) T → (decide (¬ 0 ≤ xe_I μ2 (23 + 11 * m) k) = true ↔ ∀ x, s ≤ x → x < s' → ¬ xe_I ν5 238 x = nI k) := fun k hk => by
      rw [decide_eq_true_iff]
      rcases hCc k hk with ⟨x, x1, x2, x3, x4, -⟩ | ⟨x1, x2⟩
      · have hqx : zn (xe_I ν 237 x) < per ∧ xe_I ν 237 x = nI (zn (xe_I ν 237 x)) := (hqA x x1 x2).2
        rw [x4, h237, hqx.2]
        exact ⟨fun w => absurd (nI_pos' (by omega)) w, fun w => absurd x3 (w x x1 x2)⟩
      · rw [x2]
        exact ⟨fun _ => x1, fun _ => by decide⟩
    obtain ⟨ν6, v1, v2, v3⟩ := z238 (v3 := nI (zsm (zHm ν T P m) T)) (b := fun k => decide (¬ 0 ≤ xe_I μ2 (23 + 11 * m) k)) hQ5 hm b2 hbb htot
    obtain ⟨μ', x1, x2, x3⟩ := z80l (b := fun k => decide (¬ 0 ≤ xe_I μ2 (23 + 11 * m) k)) hst2.1 hm h10 htot (fun k hk => by rw [decide_eq_true_iff]) hv12
    have hk6 : ∀ a j, a < 265 → a ≠ 215 → xe_I ν6 a j = xe_I ν5 a j := fun a j q1 q2 => (v2 a q1 j).1 (fun w => q2 w.1)
    have km : ∀ a j, a < 265 → ¬ (a = 17 + 11 * m ∧ j = 12) → xe_I μ' a j = xe_I μ2 a j := fun a j q1 q2 => (x2 a q1 j).1 q2
    have kmR : ∀ a j, a < 265 → xe_R μ' a j = xe_R μ2 a j := fun a j q1 => (x2 a q1 j).2.2 (fun w => w.2 rfl)
    have eS6 : zSn ν6 T = zSn ν T := by
      have hall : ∀ a, a = 219 ∨ a = 226 ∨ a = 227 → ∀ j, xe_I ν6 a j = xe_I ν a j := fun a ha j => (hk6 a j (by omega) (by omega)).trans ((hk5 a j (by omega) (by omega)).trans ((xu_In (by omega)).trans (hk3 a j (by omega) (by omega) (by omega) (by omega) (by omega) (by omega) (by omega))))
      exact (zNs_k (P := P) (hall 219 (by omega)) (hall 226 (by omega)) (hall 227 (by omega))).1
    have hfn' := hfin μ' ν6 (zfG_w x2 (fun a j q => Or.inl q) (fun a j q => q) (fun a j q => absurd rfl q.2)) (zfG_t (zfG_t (zfG_I (Or.inl ⟨rfl, rfl⟩)) (zfG_w y2 (fun a j q => Or.inr q) (fun a j q => q) (fun a j q => q))) (zfG_w v2 (fun a j q => Or.inl q) (fun a j q => q) (fun a j q => q))) (fun t h1 h2 => km _ 13 (by omega) (by omega)) (by
      rw [x3, v3, hk5 215 m (by decide) (by decide), xu_I]) (fun x w1 w2 j w3 w4 => by
      rw [hk6 237 x (by decide) (by decide), h237] at w4
      have hj : zn (xe_I ν 237 x) = j := by rw [w4, zn_n (by omega)]
      rw [hk6 238 x (by decide) (by decide), y3 x w1 w2, kmR _ j (by omega), d4.1 j (by omega), if_pos w3, km (22 + 11 * m) j (by omega) (by omega), eS6]
      show (zms _ f n _ _ _ (zn (xe_I ν 237 x)) = -1 ∧ _) ∨ _
      rw [hj]
      cases hz : zgv (zdt ν) f n (zNs ν T P) (fun k => decide (¬ xe_I μ (20 + 11 * m) k = 0)) j with
      | none => exact Or.inl ⟨zms_0 hz, rfl⟩
      | some t =>
        obtain ⟨u1, u2, u3, u4, u5⟩ := zgv_in hz
        obtain ⟨p, p1, p2, p3⟩ := zct_g (g := zSn ν T t) P _ u5
        refine Or.inr ⟨t, _, p, u1, u2, u5, zms_n hz, rfl, p1, p2, p3, ?_⟩
        rw [(d4.2.1 j t w3 hz).1, ← p3]
        exact hsp2 t u1 u2 p p1 p2) (fun j hj w => by
      rw [kmR _ j (by omega), d4.1 j (by omega), if_pos hj]
      cases hz : zgv (zdt ν) f n (zNs ν T P) (fun k => decide (¬ xe_I μ (20 + 11 * m) k = 0)) j with
      | none => rfl
      | some t =>
        obtain ⟨-, -, u3, -⟩ := zgv_in hz
        obtain ⟨x, w1, w2, w3⟩ := (hqD j hj).mp u3
        have w3' : zn (xe_I ν 237 x) = j := w3
        refine absurd ?_ (w x w1 w2)
        rw [hk6 237 x (by decide) (by decide), h237, show xe_I ν 237 x = nI (zn (xe_I ν 237 x)) from (hqA x w1 w2).2.2, w3']) (fun i hi => by
      rw [km (23 + 11 * m) i (by omega) (by omega)]
      rcases hCc i hi with ⟨x, u1, u2, u3, u4, u5⟩ | ⟨u1, u2⟩
      · refine Or.inl ⟨x, u1, u2, by rw [hk6 238 x (by decide) (by decide)]; exact u3, by rw [hk6 237 x (by decide) (by decide)]; exact u4, fun y w1 w2 w3 => u5 y w1 w2 (by rw [hk6 238 y (by decide) (by decide)] at w3; exact w3)⟩
      · exact Or.inr ⟨fun x w1 w2 w3 => u1 x w1 w2 (by rw [hk6 238 x (by decide) (by decide)] at w3; exact w3), u2⟩)
    refine ⟨μ1, μ2, μ', ν6, a1, d1, x1, ?_, hfn'⟩
    rw [d2, ho, e1, if_neg (show ¬ (0 : Int32) ≤ zoi none by decide)]
    unfold zD171_205
    rw [zx_nI hm (by decide)]
    simp only [zq_m]
    rw [if_pos (show zoi none < 0 by decide)]
    exact y1.trans v1
end
