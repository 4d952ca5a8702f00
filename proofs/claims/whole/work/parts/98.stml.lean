/-! statements: by their first token -/
def zst1 (μ : xe_Mem) (st : Nat) : xe_Mem := xe_setI (xe_setI μ 181 7 (nI (st + 1))) 181 8 0
/-- the reference's loop over a task's statements -/
def zRf (m t F : Nat) (ν : xe_Mem) : zO := zD153_196 F (nI m) (nI t) ν
section
variable {μ ν : xe_Mem} {p q pl st t m d F : Nat} {f53 : Int32 → xe_Mem → zO} {a1 : Int32}
theorem zst1_o {a j : Nat} (h : a ≠ 181 ∨ (j ≠ 7 ∧ j ≠ 8)) : xe_I (zst1 μ st) a j = xe_I μ a j := by
  unfold zst1
  rw [xu_In (by omega), xu_In (by omega)]
/-- readStatement -/
theorem z54 (hs : xe_I μ 181 7 = nI st) (hst : st ≤ 150) (hp : xe_I μ 181 6 = nI p) (h : p < 3001) (hk : xe_R μ 4 p = some (1000001 + q)) (hq : q < 29) (h1 : (xe_sh μ).length < xg_CT) (h2 : xe_sl μ + 6 ≤ xg_ST) : zD54 f53 a1 μ = if st = 150 then zq_thr 12 μ else if q = 5 then (zq_cI (zD55 f53 a1 (zst1 μ st)) fun x m => zint x m) else if q = 7 then (zq_cI (zD61 f53 a1 (zst1 μ st)) fun x m => zint x m) else (zq_cV (zD62 (zst1 μ st)) fun m => zint 1 m) := by
  have c : (nI st = (150 : Int32)) = (st = 150) := zi_eq (b := 150) (by omega) (by decide)
  have k1 : xe_I (zst1 μ st) 181 6 = nI p := (zst1_o (Or.inr (by decide))).trans hp
  unfold zD54 zD54_7 zD37
  simp only [zq_m]
  rw [hs]
  by_cases h150 : st = 150
  · rw [if_pos (c.mpr h150), if_pos h150, if_neg (show ¬ (1 : Int32) = 0 by decide), zthr h1 h2, zcV_no]
  · rw [if_neg (fun e => h150 (c.mp e)), if_neg h150, if_pos trivial, zcV_ok, hs, nI_1]
    have e0 : xe_setI (xe_setI μ 181 7 (nI (st + 1))) 181 8 0 = zst1 μ st := rfl
    rw [e0, show zD35 1000006 (zst1 μ st) = _ from z35 k1 h hk hq (K := 5) (by decide), zcI_ok]
    by_cases h5 : q = 5
    · rw [decide_eq_true h5, if_neg (show ¬ zb01 true = 0 by decide), if_pos h5]
    · rw [decide_eq_false h5, if_pos (show zb01 false = 0 by decide), if_neg h5, show zD35 1000008 (zst1 μ st) = _ from z35 k1 h hk hq (K := 7) (by decide), zcI_ok]
      by_cases h7 : q = 7
      · rw [decide_eq_true h7, if_neg (show ¬ zb01 true = 0 by decide), if_pos h7]
      · rw [decide_eq_false h7, if_pos (show zb01 false = 0 by decide), if_neg h7]
/-- an assignment that doesn't begin with a name -/
theorem z62x (hp : xe_I μ 181 6 = nI p) (h : p < 3001) (hk : xe_R μ 4 p = some (1000001 + q)) (hq : q < 29) (h25 : ¬ q = 25) (h1 : (xe_sh μ).length < xg_CT) (h2 : xe_sl μ + 6 ≤ xg_ST) : zD62 μ = zq_thr 12 μ := by
  unfold zD62 zD62_7 zD37
  rw [show zD35 1000026 μ = _ from z35 hp h hk hq (K := 25) (by decide), zcI_ok, decide_eq_false h25, if_pos (show zb01 false = 0 by decide), if_neg (by decide), zthr h1 h2, zcV_no]
/-- the reference's turn at a statement -/
theorem z196 (ho : xe_I ν 203 53 = nI (d + 1)) (hd : d < 8) (hp : xe_I ν 203 10 = nI p) (h : p < 3001) (hk : zTk μ ν p q pl) (h12 : ¬ q = 12) : zRf m t (F + 1) ν = zq_cI (zD159 (nI t) (nI m) ν) fun x m' => if x = 0 then zint 0 m' else zRf m t F m' := by
  show zD153_196_b (zD153_196 F) (nI m) (nI t) ν = _
  unfold zD153_196_b zD153_213
  rw [ho, if_neg (show ¬ nI (d + 1) ≤ (0 : Int32) from nI_ge (a := 0) (by omega) (by omega)), show zD147 125 ν = _ from z147 hp h hk (K := 12) (by decide) (by decide), zcI_ok, decide_eq_false h12, if_pos (show zb01 false = 0 by decide)]
  rfl
/-- the reference's turn at a closing brace -/
theorem z196c (ho : xe_I ν 203 53 = nI (d + 1)) (hd : d < 8) (hp : xe_I ν 203 10 = nI p) (h : p < 3001) (hk : zTk μ ν p 12 pl) : zRf m t (F + 1) ν = zq_cI (zD156 (nI t) ν) fun x m' => if x = 0 then zint 0 m' else zRf m t F m' := by
  show zD153_196_b (zD153_196 F) (nI m) (nI t) ν = _
  unfold zD153_196_b zD153_213
  rw [ho, if_neg (show ¬ nI (d + 1) ≤ (0 : Int32) from nI_ge (a := 0) (by omega) (by omega)), show zD147 125 ν = _ from z147 hp h hk (K := 12) (by decide) (by decide), zcI_ok, decide_eq_true rfl, if_neg (show ¬ zb01 true = 0 by decide)]
  rfl
/-- statement -/
def zrst (ν : xe_Mem) (st : Nat) : xe_Mem := xe_setI ν 203 52 (nI (st + 1))
def zR5 (t : Nat) (ν : xe_Mem) : zO := zq_m (xe_setI ν 203 10 ((xe_I ν 203 10) + 1)) fun m53 => zq_cI (zD160 (nI t) m53) fun x57 m55 => if x57 = 0 then some (.inl (some (.int 0)), m55) else zq_cV (zD157 9 0 m55) fun m58 => zq_x (xe_I m58 203 53) 8 fun j60 => zq_m (xe_setI m58 244 j60 ((xe_I m58 203 47) - 1)) fun m64 => zq_cI (zD158 1 m64) fun x68 m66 => zq_z x68 <| some (.inl (some (.int x68)), m66)
def zR7 (ν : xe_Mem) : zO := zq_m (xe_setI ν 203 10 ((xe_I ν 203 10) + 1)) fun m25 => zq_cI (zD148 1 9 m25) fun x29 m27 => if x29 = 0 then some (.inl (some (.int 0)), m27) else zq_cI (zD149 m27) fun x32 m30 => zq_cV (zD157 11 x32 m30) fun m33 => zq_cI (zD149 m33) fun x37 m35 => zq_x (xe_I m33 203 53) 8 fun j38 => zq_m (xe_setI m35 247 j38 x37) fun m42 => zq_x (xe_I m42 203 53) 8 fun j44 => zq_m (xe_setI m42 244 j44 (xe_I m42 203 47)) fun m48 => zq_cI (zD158 3 m48) fun x52 m50 => zq_z x52 <| some (.inl (some (.int x52)), m50)
theorem z159 (hs : xe_I ν 203 52 = nI st) (hst : st ≤ 150) (hp : xe_I ν 203 10 = nI p) (h : p < 3001) (hk : zTk μ ν p q pl) : zD159 (nI t) (nI m) ν = if st = 150 then zint 0 (xe_setI ν 203 11 1) else if q = 5 then zR5 t (zrst ν st) else if q = 7 then zR7 (zrst ν st) else if q = 25 then (zq_cI (zD166 (nI t) (nI m) (zrst ν st)) fun x m => zq_z x (zint x m)) else zint 0 (xe_setI ν 203 11 1) := by
  have c : (nI st = (150 : Int32)) = (st = 150) := zi_eq (b := 150) (by omega) (by decide)
  have e19 : zD159_19 ν = zint 0 (xe_setI ν 203 11 1) := by
    unfold zD159_19
    rw [z150, zcI_ok]
    exact zz_0
  have k1 : xe_I (zrst ν st) 203 10 = nI p := (xu_In (by omega)).trans hp
  have k2 : zTk μ (zrst ν st) p q pl := zTk_r hk (xu_In (by omega)) (xu_In (by omega)) rfl
  have e22 : zD159_22 (nI t) (nI m) ν = if q = 5 then zR5 t (zrst ν st) else if q = 7 then zR7 (zrst ν st) else (zq_cI (zD166 (nI t) (nI m) (zrst ν st)) fun x m => zq_z x (zint x m)) := by
    unfold zD159_22 zq_m
    rw [hs, nI_1]
    show zq_cI (zD141 5 (zrst ν st)) _ = _
    rw [show zD141 5 (zrst ν st) = _ from z141 k1 h k2 (K := 5) (by decide), zcI_ok]
    by_cases h5 : q = 5
    · rw [decide_eq_true h5, if_neg (show ¬ zb01 true = 0 by decide), if_pos h5]
      rfl
    · rw [decide_eq_false h5, if_pos (show zb01 false = 0 by decide), if_neg h5, show zD141 7 (zrst ν st) = _ from z141 k1 h k2 (K := 7) (by decide), zcI_ok]
      by_cases h7 : q = 7
      · rw [decide_eq_true h7, if_neg (show ¬ zb01 true = 0 by decide), if_pos h7]
        rfl
      · rw [decide_eq_false h7, if_pos (show zb01 false = 0 by decide), if_neg h7]
  have hl := zkr_lt q
  have c1 : (nI (zkr q) = (1 : Int32)) = (zkr q = 1) := zi_eq (b := 1) (by omega) (by decide)
  have d1 : zkr q = 1 ↔ q = 25 := by
    unfold zkr
    split
    · omega
    · split
      · omega
      · split
        · omega
        · split
          · omega
          · split <;> omega
  unfold zD159
  rw [hs, e19, show zD141 5 ν = _ from z141 hp h hk (K := 5) (by decide), zcI_ok, show zD141 7 ν = _ from z141 hp h hk (K := 7) (by decide), zcI_ok, hp, zx_nI (show p < 3002 by omega) (by decide), zRk_k hk.2.2.2.2, e22]
  by_cases h150 : st = 150
  · rw [if_pos (c.mpr h150), if_pos h150]
  · rw [if_neg (fun e => h150 (c.mp e)), if_neg h150]
    by_cases h5 : q = 5
    · rw [decide_eq_true h5, if_neg (show ¬ zb01 true = 0 by decide), if_pos h5, if_pos h5]
    · rw [decide_eq_false h5, if_pos (show zb01 false = 0 by decide), if_neg h5, if_neg h5]
      by_cases h7 : q = 7
      · rw [decide_eq_true h7, if_neg (show ¬ zb01 true = 0 by decide), if_pos h7, if_pos h7]
      · rw [decide_eq_false h7, if_pos (show zb01 false = 0 by decide), if_neg h7, if_neg h7]
        by_cases h25 : q = 25
        · rw [if_pos (c1.mpr (d1.mpr h25)), if_pos h25]
        · rw [if_neg (fun e => h25 (d1.mp (c1.mp e))), if_neg h25]
          exact e19
end
