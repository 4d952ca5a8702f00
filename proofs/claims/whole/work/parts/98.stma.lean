/-! statements: tokens taken by both -/
def zmv (μ : xe_Mem) (p : Nat) : xe_Mem := xe_setI μ 181 6 (nI (p + 1))
def zrmv (ν : xe_Mem) (p : Nat) : xe_Mem := xe_setI ν 203 10 (nI (p + 1))
section
variable {μ ν : xe_Mem} {p q pl : Nat}
/-- take -/
theorem z41 (hp : xe_I μ 181 6 = nI p) (h : p < 3001) (hk : xe_R μ 4 p = some (1000001 + q)) (hq : q < 29) {K : Nat} (hK : K < 29) : zD41 (1000001 + K) μ = if q = K then some (.inl none, zmv μ p) else zq_thr 12 μ := by
  unfold zD41
  simp only [zq_m]
  rw [hp, zx_nI h (by decide), hk, zs_some, zk_ok (by omega), zk_ok (by omega), nI_1]
  by_cases e : q = K
  · rw [if_pos (by omega), if_pos e]
    rfl
  · rw [if_neg (by omega), if_neg e]
/-- need -/
theorem z143t (hp : xe_I ν 203 10 = nI p) (hb : xe_I ν 203 11 = 0) : zD143 1 ν = zint 1 (zrmv ν p) := by
  unfold zD143 zD143_5 zD143_14 zD143_20
  simp only [zq_m]
  rw [if_neg (show ¬ (1 : Int32) = 0 by decide), if_pos hb, hp, nI_1, show xe_I (xe_setI ν 203 10 (nI (p + 1))) 203 11 = 0 from (xu_In (by omega)).trans hb, if_pos rfl]
  exact zz_1
theorem z143f : zD143 0 ν = zint 0 (xe_setI ν 203 11 1) := by
  unfold zD143 zD143_5 zD143_14 zD143_20
  simp only [zq_m]
  rw [if_pos trivial, xu_I, if_neg (by decide), if_neg (by decide)]
  exact zz_0
theorem z143 (hp : xe_I ν 203 10 = nI p) (hb : xe_I ν 203 11 = 0) {b : Bool} : zD143 (zb01 b) ν = if b = true then zint 1 (zrmv ν p) else zint 0 (xe_setI ν 203 11 1) := by
  cases b
  · exact z143f
  · exact z143t hp hb
/-- sign -/
theorem z146 (hp : xe_I ν 203 10 = nI p) (h : p < 3001) (hk : zTk μ ν p q pl) (hb : xe_I ν 203 11 = 0) {K : Nat} (h11 : 11 ≤ K) (hK : K ≤ 24) : zD146 (nI (zsc K)) ν = if q = K then zint 1 (zrmv ν p) else zint 0 (xe_setI ν 203 11 1) := by
  unfold zD146
  rw [z147 hp h hk h11 hK, zcI_ok, z143 hp hb]
  by_cases e : q = K
  · rw [decide_eq_true e, if_pos rfl, if_pos e, zcI_ok]
    exact zz_1
  · rw [decide_eq_false e, if_neg (by decide), if_neg e, zcI_ok]
    exact zz_0
/-- word -/
theorem z154 (hp : xe_I ν 203 10 = nI p) (h : p < 3001) (hk : zTk μ ν p q pl) (hb : xe_I ν 203 11 = 0) {K : Nat} (hK : K ≤ 10) : zD154 (nI K) ν = if q = K then zint 1 (zrmv ν p) else zint 0 (xe_setI ν 203 11 1) := by
  unfold zD154
  rw [z141 hp h hk hK, zcI_ok, z143 hp hb]
  by_cases e : q = K
  · rw [decide_eq_true e, if_pos rfl, if_pos e, zcI_ok]
    exact zz_1
  · rw [decide_eq_false e, if_neg (by decide), if_neg e, zcI_ok]
    exact zz_0
end
section
variable {N P S Lc t : Nat} {tk : Bool} {off a0 : Nat} {ab : Nat → Bool} {μ ν : xe_Mem} {p L ub : Nat}
theorem zmv_f : zfI (zXc L) μ (zmv μ p) := zfI_s rfl
theorem zrmv_f {U : Nat} : zfI (zXr U t) ν (zrmv ν p) := zfI_s rfl
/-- a token is passed -/
theorem zQ_mv (h : zQ N P S Lc t tk off a0 ab μ ν p L ub) (hN : p + 1 < N) : zQ N P S Lc t tk off a0 ab (zmv μ p) (zrmv ν p) (p + 1) L ub := by
  obtain ⟨hx, e1, e2, e3, r1, r2, hcd, hub, b1, b2, b3, b4, b5, b6⟩ := h
  refine ⟨zCx_f (L := L) (U := L + off) (t := t) hx zmv_f zrmv_f rfl rfl, xu_I, ?_, ?_, xu_I, ?_, zCd_f (L := L) (U := L + off) (t := t) hcd (Nat.le_refl _) (Nat.le_refl _) zmv_f zrmv_f, fun htk q hq => ?_, hN, by omega, b3, b4, b5, b6⟩
  · exact (xu_In (by omega)).trans e2
  · exact (xu_In (by omega)).trans e3
  · exact (xu_In (by omega)).trans r2
  · exact (xu_In (by omega)).trans (hub htk q hq)
/-- the token at hand -/
theorem zQ_tok (h : zQ N P S Lc t tk off a0 ab μ ν p L ub) : ∃ q pl, q < 29 ∧ (q ≤ 26 ↔ p + 1 < N) ∧ zTk μ ν p q pl ∧ p < 3001 := by
  obtain ⟨hx, e1, e2, e3, r1, r2, hcd, hub, b1, -⟩ := h
  obtain ⟨q, pl, h1, h2, h3⟩ := hx.1.2.2 p b1
  have := hx.1.2.1
  exact ⟨q, pl, h1, h2, h3, by omega⟩
/-- an instruction is written by both -/
theorem zQ_op (h : zQ N P S Lc t tk off a0 ab μ ν p L ub) {x y u v : Int32} (ho : zOp off x y u v) (hL : L + 1 ≤ p) : zQ N P S Lc t tk off a0 ab (zadd μ L x y) (zrad ν (L + off) u v) p (L + 1) ub := by
  obtain ⟨hx, e1, e2, e3, r1, r2, hcd, hub, b1, b2, b3, b4, b5, b6⟩ := h
  have F1 : zfI (zXc L) μ (zadd μ L x y) := zadd_f
  have F2 : zfI (zXr (L + off) t) ν (zrad ν (L + off) u v) := zfI_w zrad_f zXs_r
  refine ⟨zCx_f hx F1 F2 rfl rfl, ?_, zadd_s, ?_, ?_, ?_, zCd_1 (zCd_f hcd (Nat.le_refl _) (Nat.le_refl _) F1 F2) ?_, fun htk q hq => ?_, b1, hL, by omega, b4, b5, b6⟩
  · rw [zadd_o (Or.inl (by decide)) (by decide) (by decide)]; exact e1
  · rw [zadd_o (Or.inl (by decide)) (by decide) (by decide)]; exact e3
  · rw [zrad_o (Or.inr (by decide)) (by decide) (by decide)]; exact r1
  · rw [zrad_s]
    congr 1
    omega
  · rw [zadd_e.1, zadd_e.2, zrad_e.1, zrad_e.2]
    exact ho
  · rw [zrad_o (Or.inl (by decide)) (by decide) (by decide)]
    exact hub htk q hq
/-- both refuse here -/
theorem zQ_no (h : zQ N P S Lc t tk off a0 ab μ ν p L ub) {A B : zO} (hA : A = zq_thr 12 μ) (hB : B = zint 0 (xe_setI ν 203 11 1)) : zFl N L (L + off) t μ ν A B := by
  obtain ⟨hx, e1, e2, e3, r1, r2, hcd, hub, b1, b2, b3, b4, b5, b6⟩ := h
  exact ⟨μ, xe_setI ν 203 11 1, p, by rw [hA, zthr hx.2.2.2.2.1 hx.2.2.2.2.2], hB, ⟨b1, ub, b6, e3⟩, e1, (xu_In (by omega)).trans r1, zfI_rfl, zfI_s rfl, rfl, rfl⟩
end
/-- a new local, not yet known -/
theorem zNm_new {μ ν μ' ν' : xe_Mem} {P S Lc : Nat} {x : Int64} (h : zNm μ ν P S Lc true) (hL : Lc < 6) (hx : ∀ e, e < P + S + Lc → ¬ xe_L μ 183 e = x) (c1 : xe_L μ' 183 = va_up (xe_L μ 183) (P + S + Lc) x) (c2 : xe_I μ' 184 = va_up (xe_I μ 184) (P + S + Lc) 0) (c3 : xe_I μ' 185 = va_up (xe_I μ 185) (P + S + Lc) (nI Lc)) (c4 : xe_I μ' 182 3 = nI (P + S + Lc + 1)) (g1 : xe_I ν' 203 12 = xe_I ν 203 12) (g2 : xe_I ν' 203 15 = xe_I ν 203 15) (g3 : xe_L ν' 210 = xe_L ν 210) (g4 : xe_L ν' 212 = xe_L ν 212) (g5 : xe_L ν' 241 = va_up (xe_L ν 241) Lc x) (g6 : xe_I ν' 242 = xe_I ν 242) : zNm μ' ν' P S (Lc + 1) true := by
  obtain ⟨h1, h2, h3, h4, h5, h6, h7, h8, h9, h10, h11, h12⟩ := h
  rw [← g1] at h5
  rw [← g2] at h6
  refine ⟨h1, h2, by omega, c4, h5, h6, fun e he => ?_, fun p hp => ?_, fun s hs => ?_, fun e e' he he' hee => ?_, fun l hl => ?_, fun _ l hl1 hl2 => ?_⟩
  · rw [c1, c2, c3, va_up_ne _ _ (by omega), va_up_ne _ _ (by omega), va_up_ne _ _ (by omega), g3, g4]
    exact h7 e he
  · obtain ⟨e, q1, q2, q3, q4⟩ := h8 p hp
    refine ⟨e, q1, ?_⟩
    rw [c1, c2, c3, va_up_ne _ _ (by omega), va_up_ne _ _ (by omega), va_up_ne _ _ (by omega), g3]
    exact ⟨q2, q3, q4⟩
  · obtain ⟨e, q1, q2, q3, q4⟩ := h9 s hs
    refine ⟨e, q1, ?_⟩
    rw [c1, c2, c3, va_up_ne _ _ (by omega), va_up_ne _ _ (by omega), va_up_ne _ _ (by omega), g4]
    exact ⟨q2, q3, q4⟩
  · rw [c1] at hee
    by_cases q1 : e = P + S + Lc
    · by_cases q2 : e' = P + S + Lc
      · omega
      · rw [q1, va_up_self, va_up_ne _ _ q2] at hee
        exact absurd hee.symm (hx e' (by omega))
    · by_cases q2 : e' = P + S + Lc
      · rw [q2, va_up_self, va_up_ne _ _ q1] at hee
        exact absurd hee (hx e (by omega))
      · rw [va_up_ne _ _ q1, va_up_ne _ _ q2] at hee
        exact h10 e e' (by omega) (by omega) hee
  · rw [c1, c2, c3, g5, g6]
    by_cases q : l = Lc
    · subst q
      rw [va_up_self, va_up_self, va_up_self, va_up_self]
      exact ⟨rfl, rfl, rfl, Or.inr ⟨rfl, h12 rfl l (Nat.le_refl _) (by omega)⟩⟩
    · rw [va_up_ne _ _ (by omega), va_up_ne _ _ (by omega), va_up_ne _ _ (by omega), va_up_ne _ _ (by omega)]
      exact h11 l (by omega)
  · rw [g6]
    exact h12 rfl l (by omega) hl2
/-- a local is known from now on -/
theorem zNm_kn {μ ν μ' ν' : xe_Mem} {P S Lc l : Nat} (h : zNm μ ν P S Lc true) (hl : l < Lc) (c1 : xe_L μ' 183 = xe_L μ 183) (c2 : xe_I μ' 184 = va_up (xe_I μ 184) (P + S + l) 4) (c3 : xe_I μ' 185 = xe_I μ 185) (c4 : xe_I μ' 182 3 = xe_I μ 182 3) (g1 : xe_I ν' 203 12 = xe_I ν 203 12) (g2 : xe_I ν' 203 15 = xe_I ν 203 15) (g3 : xe_L ν' 210 = xe_L ν 210) (g4 : xe_L ν' 212 = xe_L ν 212) (g5 : xe_L ν' 241 = xe_L ν 241) (g6 : xe_I ν' 242 = va_up (xe_I ν 242) l 1) : zNm μ' ν' P S Lc true := by
  obtain ⟨h1, h2, h3, h4, h5, h6, h7, h8, h9, h10, h11, h12⟩ := h
  rw [← g1] at h5
  rw [← g2] at h6
  rw [← c4] at h4
  refine ⟨h1, h2, h3, h4, h5, h6, fun e he => ?_, fun p hp => ?_, fun s hs => ?_, fun e e' he he' hee => ?_, fun k hk => ?_, fun _ k hk1 hk2 => ?_⟩
  · rw [c1, c2, c3, va_up_ne _ _ (by omega), g3, g4]
    exact h7 e he
  · obtain ⟨e, q1, q2, q3, q4⟩ := h8 p hp
    refine ⟨e, q1, ?_⟩
    rw [c1, c2, c3, va_up_ne _ _ (by omega), g3]
    exact ⟨q2, q3, q4⟩
  · obtain ⟨e, q1, q2, q3, q4⟩ := h9 s hs
    refine ⟨e, q1, ?_⟩
    rw [c1, c2, c3, va_up_ne _ _ (by omega), g4]
    exact ⟨q2, q3, q4⟩
  · rw [c1] at hee
    exact h10 e e' he he' hee
  · rw [c1, c2, c3, g5, g6]
    obtain ⟨q1, q2, q3, q4⟩ := h11 k hk
    by_cases q : k = l
    · subst q
      rw [va_up_self, va_up_self]
      exact ⟨q1, q2, q3, Or.inl ⟨rfl, rfl⟩⟩
    · rw [va_up_ne _ _ (by omega), va_up_ne _ _ (by omega)]
      exact ⟨q1, q2, q3, q4⟩
  · rw [g6, va_up_ne _ _ (by omega)]
    exact h12 rfl k hk1 hk2
