/-! reading a task: its head -/
def zc47f (b31 : Nat) (x34 : Int32) (m32 : xe_Mem) : zO := zq_o b31 8 <| zq_m (xe_setI m32 b31 4 x34) fun m36 => zq_s (xe_R m36 181 11) fun b38 => zq_o b38 8 <| zq_m (xe_setI m36 b38 9 (xe_I m36 8 2)) fun m40 => zq_s (xe_R m40 181 11) fun b42 => zq_o b42 8 <| zq_m (xe_setI m40 b42 7 (xe_I m40 181 9)) fun m44 => zq_s (xe_R m44 181 10) fun b46 => zq_o b46 2 <| zq_s (xe_R m44 181 11) fun b48 => zq_o b48 8 <| zq_m (xe_setI m44 b46 4 ((xe_I m44 b46 4) ||| (xe_I m44 b48 6))) fun m50 => some (.inl none, m50)
def zc47e (m29 : xe_Mem) : zO := zq_s (xe_R m29 181 11) fun b31 => zq_cI (zE53 0 m29) fun x34 m32 => zc47f b31 x34 m32
def zc47d (b14 : Nat) (x17 x11 : Int32) (m15 : xe_Mem) : zO := zq_cR (zD50 b14 x17 x11 m15) fun x20 m18 => zq_m (xe_setR m18 181 11 (some x20)) fun m21 => zq_cV (zD52 m21) fun m23 => zq_m (xe_setI m23 181 9 0) fun m25 => zq_s (xe_R m25 181 11) fun b27 => zq_o b27 8 <| zq_m (xe_setI m25 b27 8 (xe_I m25 8 2)) fun m29 => zc47e m29
def zc47c (x11 : Int32) (m9 : xe_Mem) : zO := zq_cV (zD41 1000005 m9) fun m12 => zq_s (xe_R m12 181 10) fun b14 => zq_cI (zD42 0 3 m12) fun x17 m15 => zc47d b14 x17 x11 m15
def zc47b (m7 : xe_Mem) : zO := zq_cI (zD48 0 m7) fun x11 m9 => zc47c x11 m9
def zc47a (m5 : xe_Mem) : zO := zq_cV (zD38 190 0 0 m5) fun m7 => zc47b m7
theorem zR_16 : ∀ t, t < 24 → (xv_rt.getD 16 []).lookup t = some (61 + 5 * t) := by decide +kernel
theorem zR_15 : ∀ m, m < 4 → (xv_rt.getD 15 []).lookup m = some (17 + 11 * m) := by decide +kernel
theorem zR_m : ∀ m, m < 4 → (xv_rt.getD (17 + 11 * m) []).lookup 2 = some (18 + 11 * m) ∧ (xv_rt.getD (17 + 11 * m) []).lookup 5 = some (19 + 11 * m) ∧ (xv_rt.getD (17 + 11 * m) []).lookup 7 = some (20 + 11 * m) := by decide +kernel
theorem zR_x : ∀ m, m < 4 → ∀ e, e < 4 → (xv_rt.getD (19 + 11 * m) []).lookup e = some (24 + 11 * m + e) := by decide +kernel
theorem zR_18 : ∀ m, m < 4 → ∀ j, j < 6 → (xv_rt.getD (18 + 11 * m) []).lookup j = none := by decide +kernel
theorem zS_18 : ∀ m, m < 4 → xv_S[18 + 11 * m]? = some (.inr (4, 6)) ∧ xv_S[19 + 11 * m]? = some (.inr (6, 4)) ∧ xv_S[20 + 11 * m]? = some (.inr (3, 120)) := by decide +kernel
theorem zS_x : ∀ m, m < 4 → ∀ e, e < 4 → xv_S[24 + 11 * m + e]? = some (.inl 1) := by decide +kernel
section
variable {N P S m T per y p q pl n nd : Nat} {μ ν : xe_Mem} {x : Int64} {v1 v5 a1 sp : Int32}
theorem z47a (hm : m < 4) (hr : xe_R μ 181 10 = some (17 + 11 * m)) (hs : xe_I μ (17 + 11 * m) 3 = nI n) (hn : n ≤ 6) (hp : xe_I μ 181 6 = nI p) : zD47 μ = if n = 6 then zq_cV (zq_thr 12 μ) (fun m => zc47a (xe_setI m 181 6 (xe_I m 181 6 + 1))) else zc47a (zmv μ p) := by
  unfold zD47
  rw [hr, zs_some, zo_in (zS_mode m hm) (by omega), hs]
  by_cases h : n = 6
  · rw [if_pos (show nI n = 6 by rw [h]; rfl), if_pos h]
    unfold zD47_8
    rw [z37_1]
    rfl
  · rw [if_neg (show ¬ nI n = 6 from fun e => h (by rw [show (6 : Int32) = nI 6 from rfl, zi_eq (by omega) (by omega)] at e; exact e)), if_neg h]
    unfold zD47_8
    rw [z37_0, zcV_ok]
    simp only [zq_m]
    rw [hp, nI_1]
    rfl
theorem znn_o {nm s : Nat} {a b : Int32} {c j : Nat} (h1 : c ≠ nm) (h2 : c ≠ nm + 2) (h3 : c ≠ nm + 3) : xe_I (znn μ nm s x a b) c j = xe_I μ c j := by
  unfold znn
  rw [xu_In (by omega), xu_In (by omega), xu_In (by omega)]
theorem zRt_sI {a j : Nat} {v : Int32} (h : zRt μ) : zRt (xe_setI μ a j v) := h
theorem zRt_sL {a j : Nat} {v : Int64} (h : zRt μ) : zRt (xe_setL μ a j v) := h
theorem zRt_sR {a j : Nat} {v : Option Nat} (h : zRt μ) (hn : (xv_rt.getD a []).lookup j = none) : zRt (xe_setR μ a j v) := fun b i c hb => by
  rw [zu_R, if_neg (fun e => by rw [e.1, e.2, hn] at hb; cases hb)]
  exact h b i c hb
theorem zPo_nn {nm cap s : Nat} {a b : Int32} (hn : zNa nm cap) (h : zPo N μ ν p) : zPo N (znn μ nm s x a b) ν p := by
  have hn81 : nm = 182 ∨ nm = 186 ∨ nm = 190 := by rcases hn with h | h | h <;> omega
  refine zPo_k h (fun c hc => ⟨funext fun j => znn_o (by omega) (by omega) (by omega), ?_, rfl⟩) (fun _ _ => ⟨rfl, rfl⟩) (znn_o (by omega) (by omega) (by omega)) ⟨rfl, rfl⟩ rfl rfl (znn_o (by omega) (by omega) (by omega))
  show xe_L (xe_setL μ (nm + 1) s x) c = _
  rw [zr_LL, if_neg (by omega)]
theorem zW_nn {nm cap s : Nat} {a b : Int32} (hn : zNa nm cap) : zW μ ν (znn μ nm s x a b) ν := by
  have hn81 : nm = 182 ∨ nm = 186 ∨ nm = 190 := by rcases hn with h | h | h <;> omega
  exact zW_t (zW_t (zW_t (zW_L (by omega)) (zW_I (zgI_a (by omega) (by omega)))) (zW_I (zgI_a (by omega) (by omega)))) (zW_I (zgI_a (by omega) (by omega)))
theorem z153c (ht : xe_I ν 203 22 = nI T) (hT : T < 24) (hp : xe_I ν 203 10 = nI p) (hb : xe_I ν 203 11 = 0) (hm : m < 4) (hper : xe_I ν 214 m = nI per) (h120 : per ≤ 120) (h : p + 1 < 3001) (hk : zTk μ ν (p + 1) q pl) (hv : q = 26 → y ≤ 999999 ∧ xe_L ν 209 (p + 1) = nL y) :
    (zPt q per y → zE25 (nI m) x 1 ν = zr86b (nI m) x (nI T) (xe_setI (xe_setI (zrmv (zrmv ν p) (p + 1)) 220 T (nI y)) 221 T (nI (per / y)))) ∧ (¬ zPt q per y → zE25 (nI m) x 1 ν = zint 0 (xe_setI (zrmv ν p) 203 11 1)) := by
  have hkr := zRk_k hk.2.2.2.2
  have h26 : (nI (zkr q) = 2) ↔ q = 26 := by
    rw [show (2 : Int32) = nI 2 from rfl, zi_eq (by have := zkr_lt q; omega) (by omega)]
    unfold zkr
    constructor
    · intro e
      split at e
      · omega
      · split at e
        · omega
        · split at e
          · omega
          · split at e
            · assumption
            · split at e <;> omega
    · intro e
      subst e
      rfl
  have k1 : xe_I (zrmv ν p) 203 22 = nI T := (xu_In (by omega)).trans ht
  have k2 : xe_I (zrmv ν p) 203 10 = nI (p + 1) := xu_I
  have k3 : xe_I (zrmv ν p) 203 11 = 0 := (xu_In (by omega)).trans hb
  have k4 : xe_I (zrmv ν p) 207 (p + 1) = nI (zkr q) := (xu_In (by omega)).trans hkr
  have k5 : xe_I (zrmv ν p) 214 m = nI per := (xu_In (by omega)).trans hper
  have h85 : zD153_85 (nI m) x (nI T) (zrmv ν p) = zint 0 (xe_setI (zrmv ν p) 203 11 1) := by
    unfold zD153_85 zD153_86
    rw [z143f, zcI_ok, if_pos rfl]
  unfold zE25
  rw [z143t hp hb, zcI_ok, if_neg (show ¬ (1 : Int32) = 0 by decide)]
  simp only [zq_vI]
  rw [k1, k2, zx_nI (show p + 1 < 3002 by omega) (by decide), k4]
  by_cases e : q = 26
  · obtain ⟨v1, v2⟩ := hv e
    have v3 : xe_L (zrmv ν p) 209 (p + 1) = nL y := v2
    rw [if_pos (h26.mpr e), zx_nI (show p + 1 < 3002 by omega) (by decide), v3]
    by_cases y0 : y = 0
    · rw [if_pos ((lg_cmp_le _ _).mpr (by rw [y0]; exact Int64.le_refl _))]
      exact ⟨fun w => absurd w.2.1 (by omega), fun _ => h85⟩
    · have c0 : ¬ lg_cmp (nL y) 0 ≤ 0 := fun e => by
        have e2 := (lg_cmp_le _ _).mp e
        rw [show (0 : Int64) = nL 0 from rfl, zL_le (by omega) (by omega)] at e2
        omega
      have y0' : ¬ nL y = 0 := fun e => by
        rw [show (0 : Int64) = nL 0 from rfl, zL_eq (by omega) (by omega)] at e
        omega
      have hlt : per % y ≤ per := Nat.mod_le _ _
      rw [if_neg c0, zx_nI hm (by decide), zx_nI (show p + 1 < 3002 by omega) (by decide), v3, zdL_ok y0', k5, zn_64 (by omega), zL_mod (by omega) (by omega)]
      by_cases hm0 : per % y = 0
      · rw [if_pos ((lg_cmp_eq _ _).mpr (by rw [hm0]; rfl))]
        refine ⟨fun _ => ?_, fun w => absurd ⟨e, by omega, hm0⟩ w⟩
        have k6 : zD149 (zrmv (zrmv ν p) (p + 1)) = zint (nI y) (zrmv (zrmv ν p) (p + 1)) := z149 (p := p + 1) xu_I h v2 v1
        unfold zD153_86
        rw [z143t k2 k3, zcI_ok, if_neg (show ¬ (1 : Int32) = 0 by decide), k6, zcI_ok, zx_nI hT (by decide)]
        simp only [zq_m]
        have k7 : xe_I (xe_setI (zrmv (zrmv ν p) (p + 1)) 220 T (nI y)) 220 T = nI y := xu_I
        have k8 : xe_I (xe_setI (zrmv (zrmv ν p) (p + 1)) 220 T (nI y)) 214 m = nI per := (xu_In (by omega)).trans ((xu_In (by omega)).trans k5)
        rw [zx_nI hm (by decide), zx_nI hT (by decide), zx_nI hT (by decide), k7, k8, zd_ok (nI_ne0 (by omega) (by omega)), zn_div (by omega) (by omega)]
        rfl
      · rw [if_neg (fun w => by
          have e2 := (lg_cmp_eq _ _).mp w
          rw [show (0 : Int64) = nL 0 from rfl, zL_eq (by omega) (by omega)] at e2
          exact hm0 e2)]
        exact ⟨fun w => absurd w.2.2 hm0, fun _ => h85⟩
  · rw [if_neg (fun w => e (h26.mp w))]
    exact ⟨fun w => absurd w.1 e, fun _ => h85⟩
/-- the name and the part -/
theorem z_ta (h : zPo N μ ν p) (hR : zRt μ) (hT : T < 24) (c1 : xe_I μ 190 3 = nI T) (r1 : xe_I ν 203 22 = nI T) (hn : ∀ t, t < T → xe_L μ 191 t = xe_L ν 217 t) (hm : m < 4) (hr : xe_R μ 181 10 = some (17 + 11 * m)) (hp1 : xe_I μ (17 + 11 * m) 1 = nI per) (hp2 : xe_I ν 214 m = nI per) (h120 : per ≤ 120) :
    (∃ x y s, 1 ≤ y ∧ y * s = per ∧ p + 2 < N ∧ zc47a μ = zc47c (nI s) (zmv (zmv (znn μ 190 T x 0 0) p) (p + 1)) ∧ zr53 (nI m) ν = zr86b (nI m) x (nI T) (xe_setI (xe_setI (zrmv (zrmv ν p) (p + 1)) 220 T (nI y)) 221 T (nI s))) ∨ zFx N μ ν (zc47a μ) (zr53 (nI m) ν) := by
  obtain ⟨q, pl, t1, t2, t3, t4⟩ := zPo_tok h
  obtain ⟨hx, e1, f1, b1, b2, b3, b4, b5, b6⟩ := id h
  have hna : zNa 190 24 := Or.inr (Or.inr ⟨rfl, rfl⟩)
  rw [z153b r1 (by omega) f1 t4 t3 b2]
  by_cases hc : q = 25 ∧ (∀ k, k < T → ¬ xe_L ν 217 k = xe_L ν 209 p)
  · have hval := zRk_n t3.2.2.2.2 hc.1
    rw [if_pos hc]
    have hN : p + 1 < N := t2.mp (by omega)
    have ek : zc47a μ = zc47b (zmv (znn μ 190 T (xe_L μ 6 p) 0 0) p) := by
      unfold zc47a
      rw [z38y hna hR e1 t4 (by rw [t3.1, hc.1]) c1 hT (fun e he => by
        rw [hn e he, ← hval]
        exact hc.2 e he), zcV_ok]
    rw [ek, hval]
    have hP := zPo_mv (zPo_nn (s := T) (x := xe_L μ 6 p) (a := 0) (b := 0) hna h) hN
    have hw : zW μ ν (zmv (znn μ 190 T (xe_L μ 6 p) 0 0) p) (zrmv ν p) := zW_t (zW_nn hna) zW_mv
    obtain ⟨q', pl', u1, u2, u3, u4⟩ := zPo_tok hP
    obtain ⟨hx', e1', f1', b1', b2', b3', b4', b5', b6'⟩ := id hP
    obtain ⟨y, hy⟩ := z_num1 u3
    have g1 : xe_R (zmv (znn μ 190 T (xe_L μ 6 p) 0 0) p) 181 10 = some (17 + 11 * m) := hr
    have g2 : xe_I (zmv (znn μ 190 T (xe_L μ 6 p) 0 0) p) (17 + 11 * m) 1 = nI per := (xu_In (by omega)).trans ((znn_o (by omega) (by omega) (by omega)).trans hp1)
    have hz := z153c (x := xe_L μ 6 p) (y := y) (μ := zmv (znn μ 190 T (xe_L μ 6 p) 0 0) p) r1 hT f1 b2 hm hp2 h120 u4 (q := q') (pl := pl') ⟨u3.1, u3.2.1, u3.2.2.1, u3.2.2.2.1, u3.2.2.2.2⟩ (fun e => (hy e).2)
    by_cases hpt : zPt q' per y
    · rw [hz.1 hpt]
      refine Or.inl ⟨xe_L μ 6 p, y, per / y, hpt.2.1, Nat.mul_div_cancel' (Nat.dvd_of_mod_eq_zero hpt.2.2), u2.mp (by have := hpt.1; omega), ?_, rfl⟩
      unfold zc47b
      rw [z48y hm g1 g2 h120 e1' u4 u3.1 (hy hpt.1).1 hpt, if_pos rfl, zcI_ok]
    · rw [hz.2 hpt]
      refine Or.inr (zFx_w hw ?_)
      unfold zc47b
      refine zFx_cI (zPo_no hP ?_ rfl)
      exact z48n (y := y) hm g1 g2 h120 e1' u4 u3.1 u1 (fun e => (hy e).1) (zthr b4' b5') hpt
  · rw [if_neg hc]
    refine Or.inr (zFx_cV (zPo_no h ?_ rfl))
    refine z38n hna hR e1 t4 t3.1 t1 c1 (by omega) (zthr b4 b5) ?_
    by_cases e : q = 25
    · refine Or.inr ?_
      have hval := zRk_n t3.2.2.2.2 e
      by_cases hex : ∃ e, e < T ∧ xe_L μ 191 e = xe_L μ 6 p
      · exact hex
      · refine absurd ⟨e, fun k hk w => hex ⟨k, hk, ?_⟩⟩ hc
        rw [hn k hk, w, hval]
    · exact Or.inl e
/-- 'on' and the node -/
theorem z_tb (h : zPo N μ ν p) (hr : xe_R μ 181 10 = some (17 + 11 * m)) : (∃ nd, nd ≤ 3 ∧ p + 2 < N ∧ zc47c sp μ = zc47d (17 + 11 * m) (nI nd) sp (zmv (zmv μ p) (p + 1)) ∧ zr86b v1 x v5 ν = zr86c v1 x v5 (zrmv (zrmv ν p) (p + 1)) ∧ xe_L ν 209 (p + 1) = nL nd ∧ p + 1 < 3001) ∨ zFx N μ ν (zc47c sp μ) (zr86b v1 x v5 ν) := by
  unfold zc47c zr86b
  rcases zt_word h (K := 4) (by decide) with ⟨hN, a1, a2⟩ | hf
  · have hP := zPo_mv h hN
    have a1' : zD41 1000005 μ = some (.inl none, zmv μ p) := a1
    have a2' : zD154 4 ν = zint 1 (zrmv ν p) := a2
    rw [a1', zcV_ok, show xe_R (zmv μ p) 181 10 = some (17 + 11 * m) from hr, zs_some, a2', zcI_ok, if_neg (show ¬ (1 : Int32) = 0 by decide)]
    rcases zt_num hP (lo := 0) (hi := 3) (by decide) (by decide) with ⟨nd, hN2, -, c2, c3, c4, c5, c6⟩ | hf
    · have c3' : zD42 0 3 (zmv μ p) = zint (nI nd) (zmv (zmv μ p) (p + 1)) := c3
      have c4' : zD148 0 3 (zrmv ν p) = zint 1 (zrmv (zrmv ν p) (p + 1)) := c4
      refine Or.inl ⟨nd, c2, hN2, ?_, ?_, c5, c6⟩
      · rw [c3', zcI_ok]
      · rw [c4', zcI_ok, if_neg (show ¬ (1 : Int32) = 0 by decide)]
    · exact Or.inr (zFx_w zW_mv (zFx_cI (zFx_b hf)))
  · exact Or.inr (zFx_cV (zFx_b hf))
end
