/-! statements: the end of an assignment -/
theorem zTE_k {μ ν μ' ν' : xe_Mem} {N : Nat} (h : zTE μ ν N) (k1 : ∀ a, a = 4 ∨ a = 5 ∨ a = 6 → xe_I μ' a = xe_I μ a ∧ xe_L μ' a = xe_L μ a ∧ xe_R μ' a = xe_R μ a) (k2 : ∀ a, a = 207 ∨ a = 208 ∨ a = 209 → xe_I ν' a = xe_I ν a ∧ xe_L ν' a = xe_L ν a) : zTE μ' ν' N := by
  refine ⟨h.1, h.2.1, fun i hi => ?_⟩
  obtain ⟨q, pl, h1, h2, h3, h4, h5, h6, h7⟩ := h.2.2 i hi
  refine ⟨q, pl, h1, h2, ?_, ?_, ?_, h6, ?_⟩
  · rw [(k1 4 (by omega)).2.2]; exact h3
  · rw [(k1 5 (by omega)).1]; exact h4
  · rw [(k2 208 (by omega)).1]; exact h5
  · rw [(k2 207 (by omega)).1, (k2 209 (by omega)).2, (k1 6 (by omega)).2.1]; exact h7
theorem zNm_k {μ ν μ' ν' : xe_Mem} {P S Lc : Nat} {tk : Bool} (h : zNm μ ν P S Lc tk) (k1 : ∀ a, a = 183 ∨ a = 184 ∨ a = 185 → xe_I μ' a = xe_I μ a ∧ xe_L μ' a = xe_L μ a) (k0 : xe_I μ' 182 3 = xe_I μ 182 3) (k2 : ∀ a, a = 210 ∨ a = 212 ∨ a = 241 ∨ a = 242 → xe_I ν' a = xe_I ν a ∧ xe_L ν' a = xe_L ν a) (k3 : ∀ j, j = 12 ∨ j = 15 → xe_I ν' 203 j = xe_I ν 203 j) : zNm μ' ν' P S Lc tk := by
  obtain ⟨h1, h2, h3, h4, h5, h6, h7, h8, h9, h10, h11, h12⟩ := h
  have a1 := (k1 184 (by omega)).1
  have a2 := (k1 185 (by omega)).1
  have a3 := (k1 183 (by omega)).2
  have a4 := (k2 210 (by omega)).2
  have a5 := (k2 212 (by omega)).2
  have a6 := (k2 241 (by omega)).2
  have a7 := (k2 242 (by omega)).1
  refine ⟨h1, h2, h3, ?_, ?_, ?_, ?_, ?_, ?_, ?_, ?_, ?_⟩
  · rw [k0]; exact h4
  · rw [k3 12 (by omega)]; exact h5
  · rw [k3 15 (by omega)]; exact h6
  · rw [a1, a2, a3, a4, a5]; exact h7
  · rw [a1, a2, a3, a4]; exact h8
  · rw [a1, a2, a3, a5]; exact h9
  · rw [a3]; exact h10
  · rw [a1, a2, a3, a6, a7]; exact h11
  · rw [a7]; exact h12
theorem zble_in {t p0 : Nat} (h : p0 < 12) : (Nat.ble (12 * t) (12 * t + p0) && Nat.ble (12 * t + p0 + 1) (12 * t + 12)) = true := by
  rw [Nat.ble_eq_true_of_le (show 12 * t ≤ 12 * t + p0 by omega), Nat.ble_eq_true_of_le (show 12 * t + p0 + 1 ≤ 12 * t + 12 by omega)]
  rfl
section
variable {N P S Lc t m abn mb : Nat} {off a0 : Nat} {μ ν : xe_Mem} {p L ub o w p0 : Nat}
/-- the class's end of an assignment to a port, and the reference's -/
def zKp (p0 : Nat) (m37 : xe_Mem) : zO := zq_s (xe_R m37 181 11) fun b45 => zq_o b45 8 <| zq_m (xe_setI m37 b45 6 ((xe_I m37 b45 6) ||| (1 <<< (nI p0 &&& 31)))) fun m47 => zD62_135 m47
def zRp (t p0 : Nat) (m21 : xe_Mem) : zO := zq_x ((xe_I m21 203 53) - 1) 8 fun j24 => zq_x ((xe_I m21 203 53) - 1) 8 fun j28 => zq_m (xe_setI m21 245 j28 ((xe_I m21 245 j24) + 1)) fun m32 => zq_x ((12 * nI t) + nI p0) 288 fun j42 => zq_m (xe_setI m32 226 j42 ((vp_nar .boolean) 1)) fun m46 => zq_x ((12 * nI t) + nI p0) 288 fun j48 => zq_m (xe_setI m46 227 j48 ((vp_nar .boolean) 1)) fun m52 => zq_cV (zD157 7 (nI p0) m52) fun m54 => zD166_174 m54
/-- a task's ports are none of those that tasks ahead of it assign -/
def zDj (P mb abn : Nat) : Prop := abn < 2 ^ P ∧ ∀ q, Nat.testBit abn q = true → Nat.testBit mb q = false
/-- both as an assignment leaves them -/
def zAs (N P S t m mb abn off a0 o w : Nat) (μ ν μ' ν' : xe_Mem) (p L : Nat) : Prop := ∃ p' L' ub' Lc' abn', zQ N P S Lc' t true off a0 (Nat.testBit abn') μ' ν' p' L' ub' ∧ zTa μ' ν' t m Lc' abn' mb ∧ p < p' ∧ L + 2 ≤ L' ∧ L' + p ≤ L + p' ∧ zEq P S μ' L (L' - 1) ∧ ((xe_I μ' 9 (L' - 1) = 13 ∧ ∃ y, y < P ∧ xe_I μ' 10 (L' - 1) = nI y) ∨ (xe_I μ' 9 (L' - 1) = 14 ∧ ∃ y, y < 6 ∧ xe_I μ' 10 (L' - 1) = nI y)) ∧ zfJ (zXct t L) 183 μ μ' ∧ zfJ (zXra t (L + off) o) 241 ν ν' ∧ xe_I ν' 245 o = nI (w + 1) ∧ xe_sh μ' = xe_sh μ ∧ xe_sl μ' = xe_sl μ ∧ (zDj P mb abn → zDj P mb abn')
theorem z_endP (h : zQ N P S Lc t true off a0 (Nat.testBit abn) μ ν p L ub) (ha : zTa μ ν t m Lc abn mb) (h8 : xe_I μ 181 8 = 0) (hp0 : p0 < P) (ho : xe_I ν 203 53 = nI (o + 1)) (ho8 : o < 8) (hw : xe_I ν 245 o = nI w) (hmb : Nat.testBit mb p0 = false) :
    (∃ μ' ν', (zq_cV (zD41 1000016 μ) fun m30 => zq_cV (zE56 0 0 m30) fun m32 => zq_cI (zD58 13 (nI p0) m32) fun _ m34 => zq_cV (zD41 1000014 m34) (zKp p0)) = some (.inl none, μ') ∧ (zq_cI (zD146 61 ν) fun x17 m15 => if x17 = 0 then zint 0 m15 else zq_cI (zD160 (nI t) m15) fun x20 m18 => if x20 = 0 then zint 0 m18 else zq_cI (zD146 59 m18) fun x23 m21 => if x23 = 0 then zint 0 m21 else zRp t p0 m21) = zint 1 ν' ∧ zAs N P S t m mb abn off a0 o w μ ν μ' ν' p L) ∨ zFx N μ ν (zq_cV (zD41 1000016 μ) fun m30 => zq_cV (zE56 0 0 m30) fun m32 => zq_cI (zD58 13 (nI p0) m32) fun _ m34 => zq_cV (zD41 1000014 m34) (zKp p0)) (zq_cI (zD146 61 ν) fun x17 m15 => if x17 = 0 then zint 0 m15 else zq_cI (zD160 (nI t) m15) fun x20 m18 => if x20 = 0 then zint 0 m18 else zq_cI (zD146 59 m18) fun x23 m21 => if x23 = 0 then zint 0 m21 else zRp t p0 m21) := by
  have hm1 := h.1.2.1
  rcases z_mid h h8 (T := nI t) (Or.inl ⟨rfl, rfl⟩) 13 (nI p0) (zKp p0) (zRp t p0) with ⟨μ2, ν2, p2, L2, ub2, m1, m2, m3, m4, m5, m6, m7, m8, m9, m10, m11, m12⟩ | hfl
  · rw [m1, m2]
    have ta := zTa_f ha m9 m10
    obtain ⟨hx, e1, e2, e3, r1, r2, hcd, hub, b1, b2, b3, b4, b5, b6⟩ := id m3
    have hN2 := hx.1.2.1
    have hP12 : P ≤ 12 := hm1.1
    obtain ⟨h1, h2, h3, h4, h5, h6, h7, h8', h9, h10, h11, h12, h13⟩ := id ta
    have ho2 : xe_I ν2 203 53 = nI (o + 1) := ((m10 203 (by decide)).1 53 rfl).trans ho
    have hw2 : xe_I ν2 245 o = nI w := ((m10 245 (by decide)).1 o rfl).trans hw
    -- the class
    have c1 : xe_I (zmv (zadd μ2 L2 13 (nI p0)) p2) (61 + 5 * t) 6 = nI abn := by
      unfold zmv
      rw [xu_In (by omega), zadd_o (Or.inl (by omega)) (by omega) (by omega)]
      exact h7
    have hC : zKp p0 (zmv (zadd μ2 L2 13 (nI p0)) p2) = some (.inl none, xe_setI (zmv (zadd μ2 L2 13 (nI p0)) p2) (61 + 5 * t) 6 (nI (abn ||| 2 ^ p0))) := by
      unfold zKp zD62_135
      simp only [zq_m]
      rw [show xe_R (zmv (zadd μ2 L2 13 (nI p0)) p2) 181 11 = some (61 + 5 * t) from h3, zs_some, zo_in (zS_task t h1) (by omega), c1, zsh1 p0 (by omega), zn_or]
    -- the reference
    have d1 : xe_I (zrmv ν2 p2) 203 53 = nI (o + 1) := (xu_In (by omega)).trans ho2
    have d2 : xe_I (zrmv ν2 p2) 245 o = nI w := (xu_In (by omega)).trans hw2
    have d3 : (12 * nI t + nI p0 : Int32) = nI (12 * t + p0) := by rw [show (12 : Int32) = nI 12 from rfl, zn_mul, nI_add]
    let ν3 : xe_Mem := xe_setI (xe_setI (xe_setI (zrmv ν2 p2) 245 o (nI (w + 1))) 226 (12 * t + p0) 1) 227 (12 * t + p0) 1
    have k3 : ∀ a j, (a ≠ 203 ∨ j ≠ 10) → (a ≠ 245 ∨ j ≠ o) → (a ≠ 226 ∨ j ≠ 12 * t + p0) → (a ≠ 227 ∨ j ≠ 12 * t + p0) → xe_I ν3 a j = xe_I ν2 a j := fun a j q1 q2 q3 q4 => by
      show xe_I (xe_setI (xe_setI (xe_setI (zrmv ν2 p2) 245 o (nI (w + 1))) 226 (12 * t + p0) 1) 227 (12 * t + p0) 1) a j = _
      unfold zrmv
      rw [xu_In (by omega), xu_In (by omega), xu_In (by omega), xu_In (by omega)]
    have d4 : xe_I ν3 203 47 = nI (L2 + off) := (k3 203 47 (Or.inr (by decide)) (Or.inl (by decide)) (Or.inl (by decide)) (Or.inl (by decide))).trans r2
    have hR : zRp t p0 (zrmv ν2 p2) = zint 1 (zrad ν3 (L2 + off) 7 (nI p0)) := by
      unfold zRp zD166_174
      simp only [zq_m]
      rw [d1, show (nI (o + 1) - 1 : Int32) = nI o from by rw [show (1 : Int32) = nI 1 from rfl, zn_sub (by omega)]; rfl, zx_nI ho8 (by decide), zx_nI ho8 (by decide), d2, nI_1, d3, zx_nI (show 12 * t + p0 < 288 by omega) (by decide), zx_nI (show 12 * t + p0 < 288 by omega) (by decide), show zD157 7 (nI p0) (xe_setI (xe_setI (xe_setI (zrmv ν2 p2) 245 o (nI (w + 1))) 226 (12 * t + p0) (vp_nar .boolean 1)) 227 (12 * t + p0) (vp_nar .boolean 1)) = some (.inl none, zrad ν3 (L2 + off) 7 (nI p0)) from z157 d4 (by omega), zcV_ok]
    rw [hC, hR]
    have kC : ∀ a j, (a ≠ 61 + 5 * t ∨ j ≠ 6) → (a ≠ 181 ∨ j ≠ 6) → a ≠ 8 → a ≠ 9 → a ≠ 10 → xe_I (xe_setI (zmv (zadd μ2 L2 13 (nI p0)) p2) (61 + 5 * t) 6 (nI (abn ||| 2 ^ p0))) a j = xe_I μ2 a j := fun a j q1 q2 q3 q4 q5 => by
      unfold zmv
      rw [xu_In (by omega), xu_In (by omega), zadd_o (Or.inl q3) q4 q5]
    have kR : ∀ a j, (a ≠ 203 ∨ (j ≠ 10 ∧ j ≠ 47)) → (a ≠ 245 ∨ j ≠ o) → (a ≠ 226 ∨ j ≠ 12 * t + p0) → (a ≠ 227 ∨ j ≠ 12 * t + p0) → a ≠ 239 → a ≠ 240 → xe_I (zrad ν3 (L2 + off) 7 (nI p0)) a j = xe_I ν2 a j := fun a j q1 q2 q3 q4 q5 q6 => by
      rw [zrad_o (by omega) q5 q6, k3 a j (by omega) q2 q3 q4]
    have F1 : zfI (zXct t L2) μ2 (xe_setI (zmv (zadd μ2 L2 13 (nI p0)) p2) (61 + 5 * t) 6 (nI (abn ||| 2 ^ p0))) := by
      refine zfI_t (zfI_w (zfI_t zadd_f zmv_f) zXct_c) (zfI_s ?_)
      unfold zXct
      rw [beq_self_eq_true]
      simp
    have F2 : zfI (zXra t (L2 + off) o) ν2 (zrad ν3 (L2 + off) 7 (nI p0)) := by
      refine zfI_t (zfI_t (zfI_t (zfI_t (zfI_w zrmv_f zXra_r) (zfI_s ?_)) (zfI_s ?_)) (zfI_s ?_)) (zfI_w (zfI_w zrad_f zXs_r) zXra_r)
      · unfold zXra
        rw [beq_self_eq_true]
        simp
      · unfold zXra zXr
        rw [zble_in (by omega)]
        simp
      · unfold zXra
        rw [zble_in (by omega)]
        simp
    have hcode : ∀ i, i < L2 → xe_I (xe_setI (zmv (zadd μ2 L2 13 (nI p0)) p2) (61 + 5 * t) 6 (nI (abn ||| 2 ^ p0))) 9 i = xe_I μ2 9 i ∧ xe_I (xe_setI (zmv (zadd μ2 L2 13 (nI p0)) p2) (61 + 5 * t) 6 (nI (abn ||| 2 ^ p0))) 10 i = xe_I μ2 10 i := fun i hi => by
      unfold zmv zadd
      constructor
      · rw [xu_In (by omega), xu_In (by omega), xu_In (by omega), xu_In (by omega), xu_In (by omega)]
      · rw [xu_In (by omega), xu_In (by omega), xu_In (by omega), xu_In (by omega), xu_In (by omega)]
    have hcode2 : xe_I (xe_setI (zmv (zadd μ2 L2 13 (nI p0)) p2) (61 + 5 * t) 6 (nI (abn ||| 2 ^ p0))) 9 L2 = 13 ∧ xe_I (xe_setI (zmv (zadd μ2 L2 13 (nI p0)) p2) (61 + 5 * t) 6 (nI (abn ||| 2 ^ p0))) 10 L2 = nI p0 := by
      unfold zmv
      constructor
      · rw [xu_In (by omega), xu_In (by omega)]; exact zadd_e.1
      · rw [xu_In (by omega), xu_In (by omega)]; exact zadd_e.2
    refine Or.inl ⟨_, _, rfl, rfl, p2 + 1, L2 + 1, ub2, Lc, abn ||| 2 ^ p0, ⟨⟨?_, ?_, ?_, ⟨?_, ?_⟩, hx.2.2.2.2.1, hx.2.2.2.2.2⟩, ?_, ?_, ?_, ?_, ?_, ?_, ?_, m4, by omega, by omega, b4, b5, b6⟩, ?_, by omega, by omega, by omega, ?_, Or.inl ⟨?_, p0, hp0, ?_⟩, zfJ_t (zfJ_w (zfJ_I m9) zXct_c) (zfJ_w (zfJ_I F1) (zXct_w (by omega))), zfJ_t (zfJ_w (zfJ_I m10) zXra_r) (zfJ_w (zfJ_I F2) (zXra_w (by omega))), ?_, m11, m12, fun hh => ⟨Nat.or_lt_two_pow hh.1 (Nat.pow_lt_pow_right (by decide) hp0), fun q hq => by
      rw [Nat.testBit_or, Nat.testBit_two_pow, Bool.or_eq_true] at hq
      rcases hq with hq | hq
      · exact hh.2 q hq
      · rw [← of_decide_eq_true hq]
        exact hmb⟩⟩
    · refine zTE_k hx.1 (fun a ha => ⟨funext fun j => kC a j (by omega) (by omega) (by omega) (by omega) (by omega), rfl, rfl⟩) (fun a ha => ⟨funext fun j => kR a j (by omega) (by omega) (by omega) (by omega) (by omega) (by omega), rfl⟩)
    · refine zNm_k hx.2.1 (fun a ha => ⟨funext fun j => kC a j (by omega) (by omega) (by omega) (by omega) (by omega), rfl⟩) (kC 182 3 (by omega) (by omega) (by omega) (by omega) (by omega)) (fun a ha => ⟨funext fun j => kR a j (by omega) (by omega) (by omega) (by omega) (by omega) (by omega), rfl⟩) (fun j hj => kR 203 j (by omega) (by omega) (by omega) (by omega) (by omega) (by omega))
    · exact hx.2.2.1
    · exact hx.2.2.2.1.1
    · rw [kR 203 11 (by omega) (by omega) (by omega) (by omega) (by omega) (by omega)]; exact hx.2.2.2.1.2
    · rw [xu_In (by omega)]; exact xu_I
    · unfold zmv
      rw [xu_In (by omega), xu_In (by omega)]; exact zadd_s
    · rw [kC 181 9 (by omega) (by omega) (by omega) (by omega) (by omega)]; exact e3
    · rw [zrad_o (Or.inr (by decide)) (by decide) (by decide)]
      show xe_I (xe_setI (xe_setI (xe_setI (zrmv ν2 p2) 245 o (nI (w + 1))) 226 (12 * t + p0) 1) 227 (12 * t + p0) 1) 203 10 = _
      rw [xu_In (by omega), xu_In (by omega), xu_In (by omega)]
      exact xu_I
    · rw [zrad_s]
      congr 1
      omega
    · intro i q1 q2
      by_cases hi : i = L2
      · subst hi
        rw [hcode2.1, hcode2.2, zrad_e.1, zrad_e.2]
        exact Or.inr (Or.inr (Or.inr (Or.inl ⟨rfl, rfl, rfl⟩)))
      · have hz := hcd i q1 (by omega)
        obtain ⟨y1, y2⟩ := hcode i (by omega)
        have y3 : ∀ a, a = 239 ∨ a = 240 → xe_I (zrad ν3 (L2 + off) 7 (nI p0)) a (i + off) = xe_I ν2 a (i + off) := fun a ha => by
          unfold zrad
          rw [xu_In (by omega), xu_In (by omega), xu_In (by omega), k3 a (i + off) (by omega) (by omega) (by omega) (by omega)]
        rw [y1, y2, y3 239 (by omega), y3 240 (by omega)]
        exact hz
    · intro htk q hq
      rw [Nat.testBit_or, Nat.testBit_two_pow]
      by_cases hyp : q = p0
      · subst hyp
        rw [zrad_o (Or.inl (by decide)) (by decide) (by decide), decide_eq_true rfl, Bool.or_true, Bool.or_true]
        show xe_I (xe_setI (xe_setI (xe_setI (zrmv ν2 p2) 245 o (nI (w + 1))) 226 (12 * t + q) 1) 227 (12 * t + q) 1) 226 (12 * t + q) = _
        rw [xu_In (by omega)]
        exact xu_I
      · rw [kR 226 (12 * t + q) (by omega) (by omega) (by omega) (by omega) (by omega) (by omega), decide_eq_false (fun e => hyp e.symm), Bool.or_false]
        exact hub htk q hq
    · refine ⟨h1, h2, h3, h4, ?_, ?_, xu_I, zor_lt h8' (by omega), fun q hq => ?_, ?_, h11, ?_, fun q hq => ?_⟩
      · rw [kC (61 + 5 * t) 5 (by omega) (by omega) (by omega) (by omega) (by omega)]; exact h5
      · rw [kR 223 t (by omega) (by omega) (by omega) (by omega) (by omega) (by omega)]; exact h6
      · rw [Nat.testBit_or, Nat.testBit_two_pow]
        by_cases hyp : q = p0
        · subst hyp
          rw [zrad_o (Or.inl (by decide)) (by decide) (by decide), decide_eq_true rfl, Bool.or_true]
          exact xu_I
        · rw [kR 227 (12 * t + q) (by omega) (by omega) (by omega) (by omega) (by omega) (by omega), decide_eq_false (fun e => hyp e.symm), Bool.or_false]
          exact h9 q hq
      · rw [kC (17 + 11 * m) 4 (by omega) (by omega) (by omega) (by omega) (by omega)]; exact h10
      · rw [kR 203 22 (by omega) (by omega) (by omega) (by omega) (by omega) (by omega)]; exact h12
      · have z1 : ∀ k, xe_I (zrad ν3 (L2 + off) 7 (nI p0)) 218 k = xe_I ν2 218 k := fun k => kR 218 k (by omega) (by omega) (by omega) (by omega) (by omega) (by omega)
        have z2 : ∀ k, k < t → xe_I (zrad ν3 (L2 + off) 7 (nI p0)) 227 (12 * k + q) = xe_I ν2 227 (12 * k + q) := fun k hk => kR 227 (12 * k + q) (by omega) (by omega) (by omega) (by omega) (by omega) (by omega)
        rw [← h13 q hq]
        constructor
        · rintro ⟨k, w1, w2, w3⟩
          exact ⟨k, w1, by rw [← z1 k]; exact w2, by rw [← z2 k w1]; exact w3⟩
        · rintro ⟨k, w1, w2, w3⟩
          exact ⟨k, w1, by rw [z1 k]; exact w2, by rw [z2 k w1]; exact w3⟩
    · obtain ⟨k, hk⟩ := m8
      exact ⟨k, zEy_c k L L2 hk (fun i q1 q2 => hcode i q2)⟩
    · exact hcode2.1
    · exact hcode2.2
    · rw [zrad_o (Or.inl (by decide)) (by decide) (by decide)]
      show xe_I (xe_setI (xe_setI (xe_setI (zrmv ν2 p2) 245 o (nI (w + 1))) 226 (12 * t + p0) 1) 227 (12 * t + p0) 1) 245 o = _
      rw [xu_In (by omega), xu_In (by omega)]
      exact xu_I
  · exact Or.inr (zFx_l hfl)
end
