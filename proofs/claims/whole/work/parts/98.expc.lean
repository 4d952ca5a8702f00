/-! an operand's token: what both do with it -/
/-- the end of readOperand and of operand, from S on: both pass, or both refuse -/
def zOo (N P S Lc t : Nat) (tk : Bool) (off a0 : Nat) (ab : Nat → Bool) (T : Int32) (μ ν : xe_Mem) (p c L dep : Nat) (W : List Nat) (cs : List Bool) (A B : zO) : Prop :=
  (∃ μ' ν' p' c' L' ub' F' g' h', A = some (.inl none, μ') ∧ B = zB T F' g' h' ν' ∧ zEA N P S Lc t tk off a0 ab μ' ν' p' c' L' ub' dep [] W cs ∧ p < p' ∧ c < c' ∧ p' + c = p + c' ∧ L < L' ∧ L' + p ≤ L + p' ∧ zEp P S μ' L L' ∧ zfI (zXc L) μ μ' ∧ zfI (zXr (L + off) t) ν ν' ∧ xe_sh μ' = xe_sh μ ∧ xe_sl μ' = xe_sl μ ∧ 200 ≤ F' + c' ∧ 192 + dep ≤ g' ∧ 192 + dep ≤ h') ∨ zFl N L (L + off) t μ ν A B
section
variable {N P S Lc t : Nat} {tk : Bool} {off a0 : Nat} {ab : Nat → Bool} {T : Int32} {μ ν : xe_Mem} {p c L ub dep : Nat} {W : List Nat} {cs : List Bool} {f56 : Int32 → Int32 → xe_Mem → zO} {f57 : Int32 → xe_Mem → zO} {F f : Nat}
/-- a number or a name -/
theorem z_prim (h : zEA N P S Lc t tk off a0 ab μ ν p c L ub dep [] W cs) (hN : p + 1 < N) {μa νa : xe_Mem} {ub' : Nat} {A : zO} (hF : 200 ≤ F + c) (hA : A = zD57_131 f56 f57 μa) (hB : zD161_0 f T ν = zq_cI (zD162 νa) fun x m => zq_z x (some (.inl (some (.int x)), m))) (hf : zfI (zXc L) μ μa) (hs : xe_sh μa = xe_sh μ) (hl : xe_sl μa = xe_sl μ) (ck : ∀ j, j = 6 ∨ j = 8 → xe_I μa 181 j = xe_I μ 181 j) (c3 : xe_I μa 8 2 = nI (L + 1)) (c4 : xe_I μa 181 9 = nI ub') (hg : zfI (zXr (L + off) t) ν νa) (gk : ∀ a j, (a = 203 ∧ (j = 10 ∨ j = 59 ∨ j = 60 ∨ j = 61 ∨ j = 64)) ∨ a = 248 ∨ a = 249 → xe_I νa a j = xe_I ν a j) (g8 : xe_I νa 203 47 = nI (L + off + 1)) (ho : zOp off (xe_I μa 9 L) (xe_I μa 10 L) (xe_I νa 239 (L + off)) (xe_I νa 240 (L + off))) (hlf : zlf P S (xe_I μa 9 L) (xe_I μa 10 L)) (hub : zUb νa t tk ub' ab) (hub' : ub' < 4096) : zOo N P S Lc t tk off a0 ab T μ ν p c L dep W cs A (zA T F f ν) := by
  obtain ⟨hx, ⟨e1, e2, e3, e4⟩, ⟨r1, r2, -⟩, -⟩ := id h
  have hc60 : c ≤ 60 := h.2.2.2.2.2.2.2.2.1
  have hdep : dep ≤ 8 := h.2.2.2.2.2.2.2.2.2.2.2.2.1
  have k1 : xe_I μa 181 6 = nI p := (ck 6 (Or.inl rfl)).trans e1
  have k2 : xe_I μa 181 8 = nI c := (ck 8 (Or.inr rfl)).trans e2
  have k3 : xe_I νa 203 10 = nI p := (gk 203 10 (Or.inl ⟨rfl, by decide⟩)).trans r1
  have k4 : xe_I νa 203 59 = nI c := (gk 203 59 (Or.inl ⟨rfl, by decide⟩)).trans r2
  by_cases hc : c < 60
  · obtain ⟨q1, q2, q3⟩ := z_fin h hN hc hf hs hl ck c3 c4 hg gk g8 ho hub hub'
    refine Or.inl ⟨ztk μa p c, zrtk νa p c, p + 1, c + 1, L + 1, ub', F, zfu, zfu, ?_, ?_, q1, by omega, by omega, by omega, by omega, by omega, ?_, q2, q3, hs, hl, by omega, ?_, ?_⟩
    · rw [hA]
      unfold zD57_131
      rw [z59 k1 k2 hc, zcV_ok]
    · refine zA_ok ?_
      rw [hB, z162 k3 k4 hc, zcI_ok]
      exact zz_1
    · refine zEp_f (L := L + 1) (zEp_lf hlf) (Nat.le_refl _) ztk_f
    · have : 200 ≤ zfu := by decide
      omega
    · have : 200 ≤ zfu := by decide
      omega
  · have hc' : c = 60 := by omega
    subst hc'
    refine Or.inr ⟨μa, xe_setI νa 203 11 1, p, ?_, ?_, ⟨by omega, ub', hub', c4⟩, k1, ?_, hf, zfI_t (zXf_of hg) (zfI_s rfl), hs, hl⟩
    · rw [hA]
      unfold zD57_131
      rw [z59n k2, zthr (by rw [hs]; exact hx.2.2.2.2.1) (by rw [hl]; exact hx.2.2.2.2.2)]
      rfl
    · refine zA_no ?_
      rw [hB, z162n k4, zcI_ok]
      exact zz_0
    · rw [xu_In (by omega)]
      exact k3
/-- the token at hand -/
theorem z_tok (h : zEA N P S Lc t tk off a0 ab μ ν p c L ub dep [] W cs) : ∃ q pl, q < 29 ∧ (q ≤ 26 ↔ p + 1 < N) ∧ zTk μ ν p q pl ∧ p < 3001 := by
  obtain ⟨hx, -, -, -, -, -, b1, -⟩ := h
  obtain ⟨q, pl, h1, h2, h3⟩ := hx.1.2.2 p b1
  have := hx.1.2.1
  exact ⟨q, pl, h1, h2, h3, by omega⟩
/-- readOperand by its token -/
theorem z57 (hp : xe_I μ 181 6 = nI p) (h3 : p < 3001) {q : Nat} (hk : xe_R μ 4 p = some (1000001 + q)) (hq : q < 29) {a1 : Int32} : zD57 f56 f57 a1 μ = if q = 26 then zq_cI (zD58 1 (xe_L μ 6 p).toInt32 μ) (fun _ m => zD57_131 f56 f57 m) else if q = 25 then zq_cI (zD39 182 (xe_L μ 6 p) μ) (fun x m => if x < 0 then zD57_39 f56 f57 x m else zq_x x 22 fun j => if (xe_I m 184 j) = 0 then zD57_39 f56 f57 x m else zD57_42 f56 f57 x 0 m) else if q = 21 then (if a1 = 8 then zD57_89 f56 f57 a1 1 μ else zD57_89 f56 f57 a1 0 μ) else if q = 16 then (if a1 = 8 then zD57_111 f56 f57 a1 μ else zD57_114 f56 f57 a1 0 μ) else zD57_111 f56 f57 a1 μ := by
  unfold zD57
  rw [show zD35 1000027 μ = _ from z35 hp h3 hk hq (K := 26) (by decide), zcI_ok]
  by_cases h26 : q = 26
  · rw [decide_eq_true h26, if_neg (show ¬ zb01 true = 0 by decide), if_pos h26, hp, zx_nI h3 (by decide)]
  · rw [decide_eq_false h26, if_pos (show zb01 false = 0 by decide), if_neg h26, show zD35 1000026 μ = _ from z35 hp h3 hk hq (K := 25) (by decide), zcI_ok]
    by_cases h25 : q = 25
    · rw [decide_eq_true h25, if_neg (show ¬ zb01 true = 0 by decide), if_pos h25, hp, zx_nI h3 (by decide)]
    · rw [decide_eq_false h25, if_pos (show zb01 false = 0 by decide), if_neg h25, show zD35 1000022 μ = _ from z35 hp h3 hk hq (K := 21) (by decide), zcI_ok]
      by_cases h21 : q = 21
      · rw [decide_eq_true h21, if_neg (show ¬ zb01 true = 0 by decide), if_pos h21]
      · rw [decide_eq_false h21, if_pos (show zb01 false = 0 by decide), if_neg h21, show zD35 1000017 μ = _ from z35 hp h3 hk hq (K := 16) (by decide), zcI_ok]
        by_cases h16 : q = 16
        · rw [decide_eq_true h16, if_neg (show ¬ zb01 true = 0 by decide), if_pos h16]
        · rw [decide_eq_false h16, if_pos (show zb01 false = 0 by decide), if_neg h16]
/-- the reference's operand by its token -/
theorem z161 (hp : xe_I ν 203 10 = nI p) (h3 : p < 3001) {q pl : Nat} (hk : zTk μ ν p q pl) (hq : q < 29) : zD161_0 (f + 1) T ν = if q = 21 then zD161_8 (zD161_0 f) T ν else if q = 16 then zD161_8 (zD161_0 f) T ν else if q = 26 then zq_cV (zD157 1 (xe_L ν 209 p).toInt32 ν) (fun m => zq_cI (zD162 m) fun x m => zq_z x (some (.inl (some (.int x)), m))) else if q = 25 then zq_cI (zD144 (xe_L ν 209 p) ν) (fun x31 m29 => zq_cI (zD145 (xe_L ν 209 p) m29) fun x34 m32 => zD161_107 zfu T (xe_L ν 209 p) x31 x34 (-1) 0 m32) else zint 0 (xe_setI ν 203 11 1) := by
  show zD161_0_b (zD161_0 f) T ν = _
  unfold zD161_0_b
  have hl := zkr_lt q
  have hkr : xe_I ν 207 p = nI (zkr q) := zRk_k hk.2.2.2.2
  rw [show zD147 45 ν = _ from z147 hp h3 hk (K := 21) (by decide) (by decide), zcI_ok]
  by_cases h21 : q = 21
  · rw [decide_eq_true h21, if_neg (show ¬ zb01 true = 0 by decide), if_pos h21]
  · rw [decide_eq_false h21, if_pos (show zb01 false = 0 by decide), if_neg h21, show zD147 40 ν = _ from z147 hp h3 hk (K := 16) (by decide) (by decide), zcI_ok]
    by_cases h16 : q = 16
    · rw [decide_eq_true h16, if_neg (show ¬ zb01 true = 0 by decide), if_pos h16]
    · rw [decide_eq_false h16, if_pos (show zb01 false = 0 by decide), if_neg h16, hp]
      simp only [zx_nI (show p < 3002 by omega) (show 3002 < 2147483648 by decide), zq_vL]
      rw [hkr]
      have c2 : (nI (zkr q) = (2 : Int32)) = (zkr q = 2) := zi_eq (b := 2) (by omega) (by decide)
      have c1 : (nI (zkr q) = (1 : Int32)) = (zkr q = 1) := zi_eq (b := 1) (by omega) (by decide)
      have d2 : zkr q = 2 ↔ q = 26 := by
        unfold zkr
        split
        · omega
        · split
          · omega
          · split
            · omega
            · split
              · omega
              · split <;> omega
      have d1 : zkr q = 1 ↔ q = 25 := by
        unfold zkr
        split
        · omega
        · split
          · omega
          · split
            · omega
            · split
              · omega
              · split <;> omega
      by_cases h26 : q = 26
      · rw [if_pos (c2.mpr (d2.mpr h26)), if_pos h26]
      · rw [if_neg (fun e => h26 (d2.mp (c2.mp e))), if_neg h26]
        by_cases h25 : q = 25
        · rw [if_pos (c1.mpr (d1.mpr h25)), if_pos h25]
        · rw [if_neg (fun e => h25 (d1.mp (c1.mp e))), if_neg h25, z150, zcI_ok]
          exact zz_0
end
