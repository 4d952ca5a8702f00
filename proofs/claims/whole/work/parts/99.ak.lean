/-! reading a switch: its head -/
def zc63f (x11 : Nat) (m28 : xe_Mem) : zO := zq_cV (zD41 1000010 m28) fun m30 => zq_m (xe_setI m30 x11 3 (xe_I m30 181 6)) fun m32 => zq_cV (zD41 1000026 m32) fun m34 => zq_cV (zD41 1000014 m34) fun m36 => some (.inl none, m36)
def zc63e (x11 : Nat) (m16 : xe_Mem) : zO := zq_cV (zD41 1000006 m16) fun m18 => zq_cV (zD52 m18) fun m20 => zq_m (xe_setI m20 181 8 0) fun m22 => zq_m (xe_setI m22 x11 1 (xe_I m22 8 2)) fun m24 => zq_cV (zE56 0 0 m24) fun m26 => zq_m (xe_setI m26 x11 2 (xe_I m26 8 2)) fun m28 => zc63f x11 m28
def zc63d (x11 : Nat) (m9 : xe_Mem) : zO := zq_cI (zD48 1 m9) fun x14 m12 => zq_o x11 1 <| zq_m (xe_setI m12 x11 0 x14) fun m16 => zc63e x11 m16
def zr67e (x17 : Int32) (m41 : xe_Mem) : zO := zq_x (xe_I m41 203 10) 3002 fun j44 => zq_x x17 16 fun j48 => zq_m (xe_setL m41 234 j48 (xe_L m41 209 j44)) fun m52 => zq_x (xe_I m52 203 10) 3002 fun j54 => zq_x x17 16 fun j58 => zq_m (xe_setI m52 235 j58 (xe_I m52 208 j54)) fun m62 => zq_x (xe_I m62 203 10) 3002 fun j64 => if (xe_I m62 207 j64) = 1 then zD167_157 1 m62 else zD167_157 0 m62
def zr67d (x17 : Int32) (m36 : xe_Mem) : zO := zq_cV (zD157 13 0 m36) fun m39 => zq_cI (zD154 9 m39) fun x43 m41 => if x43 = 0 then some (.inl (some (.int 0)), m41) else zr67e x17 m41
def zr67c (v1 v3 : Int32) (m14 : xe_Mem) : zO := zq_vI (xe_I m14 203 37) fun x17 => zq_x x17 16 fun j18 => zq_m (xe_setI m14 231 j18 v1) fun m22 => zq_x x17 16 fun j24 => zq_m (xe_setI m22 232 j24 v3) fun m28 => zq_x x17 16 fun j30 => zq_m (xe_setI m28 233 j30 (xe_I m28 203 47)) fun m34 => zq_cI (zD160 ((-1)) m34) fun x38 m36 => if x38 = 0 then some (.inl (some (.int 0)), m36) else zr67d x17 m36
def zE58 (v1 v2 v3 : Int32) (μ : xe_Mem) : zO := zq_cI (zD143 v2 μ) fun x13 m11 => if x13 = 0 then some (.inl (some (.int 0)), m11) else zq_cI (zD154 5 m11) fun x16 m14 => if x16 = 0 then some (.inl (some (.int 0)), m14) else zr67c v1 v3 m14
def zr67 (a1 : Int32) (m1 : xe_Mem) : zO := zq_x (xe_I m1 203 10) 3002 fun j3 => if (xe_I m1 207 j3) = 2 then zq_x (xe_I m1 203 10) 3002 fun j7 => if (lg_cmp (xe_L m1 209 j7) 0) ≤ 0 then zD167_37 a1 m1 else zq_x a1 4 fun j94 => zq_x (xe_I m1 203 10) 3002 fun j98 => zq_dL (xe_L m1 209 j98) <| if (lg_cmp (((xe_I m1 214 j94).toInt64) - ((xe_I m1 214 j94).toInt64) / (xe_L m1 209 j98) * (xe_L m1 209 j98)) 0) = 0 then zD167_38 a1 1 m1 else zD167_37 a1 m1 else zD167_37 a1 m1
section
variable {N P S m T per y p q pl n f e L : Nat} {μ ν : xe_Mem} {v1 v3 a1 : Int32}
theorem z167a (hp : xe_I ν 203 10 = nI p) : zD167 a1 ν = zr67 a1 (zrmv ν p) := by
  unfold zD167
  simp only [zq_m]
  rw [hp, nI_1]
  rfl
/-- the spans of the mode's tasks go into v -/
theorem z49l {v : Int32} (hR : zRt μ) (hm : m < 4) (hs : xe_I μ (17 + 11 * m) 3 = nI n) (hn : n ≤ 6) (hf : f + n ≤ 24) (hr : ∀ i, i < n → xe_R μ (18 + 11 * m) i = some (61 + 5 * (f + i))) (h0 : ∀ i, i < n → ¬ xe_I μ (61 + 5 * (f + i)) 3 = 0) : ∀ r g i : Nat, i + r = n → r < g → zD49_2 g (17 + 11 * m) v (nI i) μ = zint (zb01 (zall (fun i => decide (v - v / xe_I μ (61 + 5 * (f + i)) 3 * xe_I μ (61 + 5 * (f + i)) 3 = 0)) r i)) μ := by
  intro r
  induction r with
  | zero =>
    intro g i hi hg
    obtain ⟨g, rfl⟩ : ∃ k, g = k + 1 := ⟨g - 1, by omega⟩
    show zD49_2_b (zD49_2 g) (17 + 11 * m) v (nI i) μ = _
    unfold zD49_2_b zall
    rw [zo_in (zS_mode m hm) (by omega), hs, if_pos (nI_le (by omega) (by omega))]
    rfl
  | succ r ih =>
    intro g i hi hg
    obtain ⟨g, rfl⟩ : ∃ k, g = k + 1 := ⟨g - 1, by omega⟩
    show zD49_2_b (zD49_2 g) (17 + 11 * m) v (nI i) μ = _
    unfold zD49_2_b zall
    rw [zo_in (zS_mode m hm) (by omega), hs, if_neg (nI_ge (by omega) (by omega)), hR _ _ _ (zR_m m hm).1, zs_some, za_in (zS_18 m hm).1 (by omega), zx_nI (show i < 6 by omega) (by decide), hr i (by omega), zs_some, zo_in (zS_task (f + i) (by omega)) (by omega), zd_ok (h0 i (by omega)), nI_1]
    by_cases e : v - v / xe_I μ (61 + 5 * (f + i)) 3 * xe_I μ (61 + 5 * (f + i)) 3 = 0
    · rw [if_pos e, decide_eq_true e, Bool.true_and]
      exact ih g (i + 1) (by omega) (by omega)
    · rw [if_neg e, decide_eq_false e, Bool.false_and]
      rfl
theorem z167l (ht : xe_I ν 203 22 = nI T) (ht2 : T ≤ 24) (h0 : ∀ k, k < T → xe_I ν 218 k = v1 → ¬ xe_I ν 221 k = 0) : ∀ (r g k : Nat) (b : Bool), k + r = T → r < g → zD167_58 g v1 (zb01 b) v3 (nI k) ν = zE58 v1 (zb01 (b && zall (fun k => decide (¬ xe_I ν 218 k = v1 ∨ v3 - v3 / xe_I ν 221 k * xe_I ν 221 k = 0)) r k)) v3 ν := by
  intro r
  induction r with
  | zero =>
    intro g k b hk hg
    obtain ⟨g, rfl⟩ : ∃ k, g = k + 1 := ⟨g - 1, by omega⟩
    show zD167_58_b (zD167_58 g) v1 (zb01 b) v3 (nI k) ν = _
    unfold zD167_58_b zall
    rw [ht, if_pos (nI_le (by omega) (by omega)), Bool.and_true]
    rfl
  | succ r ih =>
    intro g k b hk hg
    obtain ⟨g, rfl⟩ : ∃ k, g = k + 1 := ⟨g - 1, by omega⟩
    show zD167_58_b (zD167_58 g) v1 (zb01 b) v3 (nI k) ν = _
    unfold zD167_58_b zD167_79 zD167_77 zD167_80 zall
    rw [ht, if_neg (nI_ge (by omega) (by omega)), nI_1]
    have e0 := ih g (k + 1) false (by omega) (by omega)
    have e1 := ih g (k + 1) true (by omega) (by omega)
    rw [Bool.false_and] at e0
    rw [Bool.true_and] at e1
    cases b
    · rw [if_pos (by decide), Bool.false_and]
      exact e0
    · rw [if_neg (by decide), zx_nI (show k < 24 by omega) (by decide), Bool.true_and]
      by_cases h1 : xe_I ν 218 k = v1
      · rw [if_pos h1, zx_nI (show k < 24 by omega) (by decide), zd_ok (h0 k (by omega) h1)]
        by_cases h2 : v3 - v3 / xe_I ν 221 k * xe_I ν 221 k = 0
        · rw [if_pos h2, decide_eq_true (Or.inr h2), Bool.true_and]
          exact e1
        · rw [if_neg h2, decide_eq_false (show ¬ (¬ xe_I ν 218 k = v1 ∨ v3 - v3 / xe_I ν 221 k * xe_I ν 221 k = 0) from fun w => w.elim (fun w => w h1) h2), Bool.false_and]
          exact e0
      · rw [if_neg h1, decide_eq_true (Or.inl h1), Bool.true_and]
        exact e1
/-- the head of a switch: a part of the period into which the spans go -/
theorem z167b (ht : xe_I ν 203 22 = nI T) (hT : T ≤ 24) (hp : xe_I ν 203 10 = nI p) (hm : m < 4) (hper : xe_I ν 214 m = nI per) (h120 : per ≤ 120) (h : p < 3001) (hk : zTk μ ν p q pl) (hv : q = 26 → y ≤ 999999 ∧ xe_L ν 209 p = nL y) (h0 : ∀ k, k < T → xe_I ν 218 k = nI m → ¬ xe_I ν 221 k = 0) :
    (zPt q per y → zr67 (nI m) ν = zE58 (nI m) (zb01 (zall (fun k => decide (¬ xe_I ν 218 k = nI m ∨ nI (per / y) - nI (per / y) / xe_I ν 221 k * xe_I ν 221 k = 0)) T 0)) (nI (per / y)) ν) ∧ (¬ zPt q per y → zr67 (nI m) ν = zint 0 (xe_setI ν 203 11 1)) := by
  have hkr := zRk_k hk.2.2.2.2
  have h26 : (nI (zkr q) = 2) ↔ q = 26 := by
    rw [show (2 : Int32) = nI 2 from rfl, zi_eq (by have := zkr_lt q; omega) (by omega)]
    unfold zkr
    constructor
    · intro e
      split at e
      · omega
      · split at e
        · omega
        · split at e
          · omega
          · split at e
            · assumption
            · split at e <;> omega
    · intro e
      subst e
      rfl
  have h37 : zD167_37 (nI m) ν = zint 0 (xe_setI ν 203 11 1) := by
    unfold zD167_37 zD167_38 zD167_55
    rw [if_pos rfl, show zD167_58 zfu (nI m) 0 1 0 ν = _ from z167l ht hT h0 T zfu 0 false (by omega) (zfu_lt (by omega)), Bool.false_and]
    unfold zE58
    rw [show zD143 (zb01 false) ν = zint 0 (xe_setI ν 203 11 1) from z143f, zcI_ok, if_pos rfl]
  unfold zr67
  rw [hp, zx_nI (show p < 3002 by omega) (by decide), hkr]
  by_cases e : q = 26
  · obtain ⟨w1, w2⟩ := hv e
    rw [if_pos (h26.mpr e), zx_nI (show p < 3002 by omega) (by decide), w2]
    by_cases y0 : y = 0
    · rw [if_pos ((lg_cmp_le _ _).mpr (by rw [y0]; exact Int64.le_refl _))]
      exact ⟨fun w => absurd w.2.1 (by omega), fun _ => h37⟩
    · have c0 : ¬ lg_cmp (nL y) 0 ≤ 0 := fun e => by
        have e2 := (lg_cmp_le _ _).mp e
        rw [show (0 : Int64) = nL 0 from rfl, zL_le (by omega) (by omega)] at e2
        omega
      have y0' : ¬ nL y = 0 := fun e => by
        rw [show (0 : Int64) = nL 0 from rfl, zL_eq (by omega) (by omega)] at e
        omega
      have hlt : per % y ≤ per := Nat.mod_le _ _
      have hlt2 : per / y ≤ per := Nat.div_le_self _ _
      rw [if_neg c0, zx_nI hm (by decide), zx_nI (show p < 3002 by omega) (by decide), w2, zdL_ok y0', hper, zn_64 (by omega), zL_mod (by omega) (by omega)]
      by_cases hm0 : per % y = 0
      · rw [if_pos ((lg_cmp_eq _ _).mpr (by rw [hm0]; rfl))]
        refine ⟨fun _ => ?_, fun w => absurd ⟨e, by omega, hm0⟩ w⟩
        unfold zD167_38 zD167_55
        rw [if_neg (show ¬ (1 : Int32) = 0 by decide), zx_nI hm (by decide), hp, zx_nI (show p < 3002 by omega) (by decide), w2, zdL_ok y0', hper, zn_64 (by omega), zL_div (by omega) (by omega), zn_32 (by omega), show zD167_58 zfu (nI m) 1 (nI (per / y)) 0 ν = _ from z167l ht hT h0 T zfu 0 true (by omega) (zfu_lt (by omega)), Bool.true_and]
      · rw [if_neg (fun w => by
          have e2 := (lg_cmp_eq _ _).mp w
          rw [show (0 : Int64) = nL 0 from rfl, zL_eq (by omega) (by omega)] at e2
          exact hm0 e2)]
        exact ⟨fun w => absurd w.2.2 hm0, fun _ => h37⟩
  · rw [if_neg (fun w => e (h26.mp w))]
    exact ⟨fun w => absurd w.1 e, fun _ => h37⟩
/-- the class's begin of a switch -/
theorem z63a (hR : zRt μ) (hm : m < 4) (hr : xe_R μ 181 10 = some (17 + 11 * m)) (hs : xe_I μ (17 + 11 * m) 6 = nI e) (he : e ≤ 4) (hp : xe_I μ 181 6 = nI p) : zD63 μ = if e = 4 then zq_cV (zq_thr 12 μ) (fun m3 => zq_m (xe_setI m3 181 6 ((xe_I m3 181 6) + 1)) fun m5 => zq_s (xe_R m5 181 10) fun b7 => zq_o b7 2 <| zq_cR (zD64 b7 m5) fun x11 m9 => zc63d x11 m9) else zc63d (24 + 11 * m + e) (xe_setI (zmv μ p) (17 + 11 * m) 6 (nI (e + 1))) := by
  unfold zD63
  rw [hr, zs_some, zo_in (zS_mode m hm) (by omega), hs]
  by_cases h : e = 4
  · rw [if_pos (show nI e = 4 by rw [h]; rfl), if_pos h]
    unfold zD63_8
    rw [z37_1]
    rfl
  · rw [if_neg (show ¬ nI e = 4 from fun w => h (by rw [show (4 : Int32) = nI 4 from rfl, zi_eq (by omega) (by omega)] at w; exact w)), if_neg h]
    have k1 : xe_I (zmv μ p) (17 + 11 * m) 6 = nI e := (xu_In (by omega)).trans hs
    unfold zD63_8
    rw [z37_0, zcV_ok]
    simp only [zq_m]
    rw [hp, nI_1, show xe_R (xe_setI μ 181 6 (nI (p + 1))) 181 10 = some (17 + 11 * m) from hr, zs_some, zo_in (zS_mode m hm) (by omega)]
    unfold zD64
    rw [zo_in (zS_mode m hm) (by omega), show xe_R (xe_setI μ 181 6 (nI (p + 1))) (17 + 11 * m) 5 = some (19 + 11 * m) from hR _ _ _ (zR_m m hm).2.1, zs_some, za_in (zS_18 m hm).2.1 (by omega), show xe_I (xe_setI μ 181 6 (nI (p + 1))) (17 + 11 * m) 6 = nI e from k1, zx_nI (show e < 4 by omega) (by decide), show xe_R (xe_setI μ 181 6 (nI (p + 1))) (19 + 11 * m) e = some (24 + 11 * m + e) from hR _ _ _ (zR_x m hm e (by omega)), zs_some]
    simp only [zq_m]
    rw [nI_1, zcR_ok]
    rfl
end
