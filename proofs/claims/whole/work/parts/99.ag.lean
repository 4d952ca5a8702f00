/-! reading a task: its block -/
def zc9 (μ : xe_Mem) (T m w L ub v : Nat) : xe_Mem := xe_setI (xe_setI (xe_setI (xe_setI μ (61 + 5 * T) 4 (nI w)) (61 + 5 * T) 9 (nI L)) (61 + 5 * T) 7 (nI ub)) (17 + 11 * m) 4 (nI v)
def zr9 (ν : xe_Mem) (T p w U : Nat) : xe_Mem := xe_setI (zrad (zcl (xe_setI ν 222 T (nI w)) p 0) U 13 0) 203 22 (nI (T + 1))
/-- the reference as it begins a task's block -/
def zr0 (ν : xe_Mem) (p : Nat) : xe_Mem := zopb (xe_setI (zrmv ν p) 203 53 0) 0 0
/-- both at the begin of a task's block -/
def zTb (P S m T L st mb off n nd tm sp : Nat) (x : Int64) (μ ν : xe_Mem) : Prop := zRt μ ∧ zNp μ ν P S ∧
  (xe_I μ 182 3 = nI (P + S) ∧ xe_I μ 181 9 = 0 ∧ xe_I μ 8 2 = nI L ∧ xe_I μ 181 7 = nI st ∧ xe_R μ 181 11 = some (61 + 5 * T) ∧ xe_R μ 181 10 = some (17 + 11 * m) ∧ xe_I μ (17 + 11 * m) 4 = nI mb) ∧
  (xe_L μ 191 T = x ∧ xe_I μ 190 3 = nI (T + 1) ∧ xe_I μ 7 7 = nI (T + 1) ∧ xe_I μ (17 + 11 * m) 3 = nI (n + 1) ∧ xe_R μ (18 + 11 * m) n = some (61 + 5 * T)) ∧
  (xe_I μ (61 + 5 * T) 1 = nI m ∧ xe_I μ (61 + 5 * T) 2 = nI nd ∧ xe_I μ (61 + 5 * T) 3 = nI sp ∧ xe_I μ (61 + 5 * T) 5 = 0 ∧ xe_I μ (61 + 5 * T) 6 = 0 ∧ xe_I μ (61 + 5 * T) 8 = nI L ∧ xe_I μ (61 + 5 * T) 11 = 0 ∧ xe_I μ (61 + 5 * T) 13 = nI sp) ∧
  (xe_I ν 203 47 = nI (L + off) ∧ xe_I ν 203 52 = nI st ∧ xe_I ν 203 22 = nI T) ∧
  (xe_L ν 217 T = x ∧ xe_I ν 218 T = nI m ∧ xe_I ν 219 T = nI nd ∧ xe_I ν 220 T = nI tm ∧ xe_I ν 221 T = nI sp ∧ xe_I ν 223 T = 0 ∧ xe_I ν 224 T = nI (L + off)) ∧
  (∀ p, p < 12 → xe_I ν 226 (12 * T + p) = 0 ∧ xe_I ν 227 (12 * T + p) = 0) ∧ (∀ l, l < 6 → xe_I ν 242 l = 0) ∧
  (∀ p, p < 12 → ((∃ k, k < T ∧ xe_I ν 218 k = nI m ∧ ¬ xe_I ν 227 (12 * k + p) = 0) ↔ Nat.testBit mb p = true))
section
variable {N P S m T p n nd tm sp L L' st mb off w ub abn pl U : Nat} {μ ν : xe_Mem} {x : Int64} {f53 : Int32 → xe_Mem → zO} {c j : Nat}
theorem z53e (hp : xe_I μ 181 6 = nI p) (h : p < 3001) (hk : xe_R μ 4 p = some (1000001 + 12)) (h1 : (xe_sh μ).length < xg_CT) (h2 : xe_sl μ + 6 ≤ xg_ST) (hw : w < 2147483648) : zD53_29 f53 (nI 0) (nI w) μ = if w ≤ 200 then zint (nI w) (zmv μ p) else zq_thr 12 μ := by
  unfold zD53_29 zD53_36 zD53_37
  rw [if_pos (show nI 0 = 0 from rfl)]
  by_cases h200 : w ≤ 200
  · rw [if_pos (show nI w ≤ (200 : Int32) from nI_le (b := 200) h200 (by decide)), if_pos h200, z37_0, zcV_ok, show zD41 1000013 μ = _ from z41 hp h hk (by decide) (K := 12) (by decide), if_pos rfl, zcV_ok]
  · rw [if_neg (show ¬ nI w ≤ (200 : Int32) from nI_ge (a := 200) (by omega) hw), if_neg h200, z37_1, zthr h1 h2, zcV_no]
theorem z47f (hT : T < 24) (hm : m < 4) (r11 : xe_R μ 181 11 = some (61 + 5 * T)) (r10 : xe_R μ 181 10 = some (17 + 11 * m)) (h8 : xe_I μ 8 2 = nI L) (h9 : xe_I μ 181 9 = nI ub) (h4 : xe_I μ (17 + 11 * m) 4 = nI mb) (h6 : xe_I μ (61 + 5 * T) 6 = nI abn) : zc47f (61 + 5 * T) (nI w) μ = some (.inl none, zc9 μ T m w L ub (mb ||| abn)) := by
  unfold zc47f
  rw [zo_in (zS_task T hT) (by omega)]
  simp only [zq_m]
  rw [show xe_R (xe_setI μ (61 + 5 * T) 4 (nI w)) 181 11 = some (61 + 5 * T) from r11, zs_some, zo_in (zS_task T hT) (by omega), show xe_I (xe_setI μ (61 + 5 * T) 4 (nI w)) 8 2 = nI L from (xu_In (by omega)).trans h8]
  rw [show xe_R (xe_setI (xe_setI μ (61 + 5 * T) 4 (nI w)) (61 + 5 * T) 9 (nI L)) 181 11 = some (61 + 5 * T) from r11, zs_some, zo_in (zS_task T hT) (by omega), show xe_I (xe_setI (xe_setI μ (61 + 5 * T) 4 (nI w)) (61 + 5 * T) 9 (nI L)) 181 9 = nI ub from (xu_In (by omega)).trans ((xu_In (by omega)).trans h9)]
  rw [show xe_R (xe_setI (xe_setI (xe_setI μ (61 + 5 * T) 4 (nI w)) (61 + 5 * T) 9 (nI L)) (61 + 5 * T) 7 (nI ub)) 181 10 = some (17 + 11 * m) from r10, zs_some, zo_in (zS_mode m hm) (by omega), show xe_R (xe_setI (xe_setI (xe_setI μ (61 + 5 * T) 4 (nI w)) (61 + 5 * T) 9 (nI L)) (61 + 5 * T) 7 (nI ub)) 181 11 = some (61 + 5 * T) from r11, zs_some, zo_in (zS_task T hT) (by omega)]
  rw [show xe_I (xe_setI (xe_setI (xe_setI μ (61 + 5 * T) 4 (nI w)) (61 + 5 * T) 9 (nI L)) (61 + 5 * T) 7 (nI ub)) (17 + 11 * m) 4 = nI mb from (xu_In (by omega)).trans ((xu_In (by omega)).trans ((xu_In (by omega)).trans h4)), show xe_I (xe_setI (xe_setI (xe_setI μ (61 + 5 * T) 4 (nI w)) (61 + 5 * T) 9 (nI L)) (61 + 5 * T) 7 (nI ub)) (61 + 5 * T) 6 = nI abn from (xu_In (by omega)).trans ((xu_In (by omega)).trans ((xu_In (by omega)).trans h6)), zn_or]
  rfl
/-- the end of a task, for the reference -/
theorem z196e {F : Nat} (ho : xe_I ν 203 53 = 0) (hU : xe_I ν 203 47 = nI U) (hU2 : U < 6000) (hT : xe_I ν 203 22 = nI T) : zRf m T (F + 1) ν = zint 1 (xe_setI (zrad ν U 13 0) 203 22 (nI (T + 1))) := by
  show zD153_196_b (zD153_196 F) (nI m) (nI T) ν = _
  unfold zD153_196_b
  rw [ho, if_pos (by decide), z157 hU hU2, zcV_ok]
  simp only [zq_m]
  rw [show xe_I (zrad ν U 13 0) 203 22 = nI T from (zrad_o (by omega) (by omega) (by omega)).trans hT, nI_1]
theorem zr0_o (h : c ≠ 203 ∨ (j ≠ 10 ∧ j ≠ 53)) (h2 : c ≠ 243 ∨ j ≠ 0) (h3 : c ≠ 245 ∨ j ≠ 0) : xe_I (zr0 ν p) c j = xe_I ν c j := by
  unfold zr0 zopb zrmv
  rw [xu_In (by omega), xu_In (by omega), xu_In (by omega), xu_In (by omega), xu_In (by omega)]
theorem zr0_v : xe_I (zr0 ν p) 203 10 = nI (p + 1) ∧ xe_I (zr0 ν p) 203 53 = nI 1 ∧ xe_I (zr0 ν p) 243 0 = 0 ∧ xe_I (zr0 ν p) 245 0 = 0 := by
  unfold zr0 zopb zrmv
  refine ⟨?_, xu_I, ?_, ?_⟩
  · rw [xu_In (by omega), xu_In (by omega), xu_In (by omega), xu_In (by omega)]
    exact xu_I
  · rw [xu_In (by omega), xu_In (by omega)]
    exact xu_I
  · rw [xu_In (by omega)]
    exact xu_I
theorem zW_0 : zW μ ν (zmv μ p) (zr0 ν p) := zW_t (zW_t (zW_t (zW_t zW_mv (zW_rI ⟨by omega, by omega⟩)) (zW_rI ⟨by omega, by omega⟩)) (zW_rI ⟨by omega, by omega⟩)) (zW_rI ⟨by omega, by omega⟩)
theorem zTb_0 (hP : zPo N μ ν p) (hN : p + 1 < N) (h : zTb P S m T L st mb off n nd tm sp x μ ν) (hT : T < 24) (hm : m < 4) (hmb : mb < 4096) (hst : st ≤ 150) (hL : L ≤ p) (hof : off ≤ 40) : zBb N P S T m mb off L (zmv μ p) (zr0 ν p) (p + 1) L 0 0 0 st 0 0 := by
  obtain ⟨hR, hNp, ⟨a1, a2, a3, a4, a5, a6, a7⟩, -, ⟨-, -, -, c5, c6, -, -, -⟩, ⟨r1, r2, r3⟩, ⟨-, d1, -, -, -, d5, -⟩, hz, h242, hmbi⟩ := h
  obtain ⟨hx, e1, f1, b1, b2, b3, b4, b5, b6⟩ := zPo_mv hP hN
  have k : ∀ c j, (c ≠ 203 ∨ (j ≠ 10 ∧ j ≠ 53)) → (c ≠ 243 ∨ j ≠ 0) → (c ≠ 245 ∨ j ≠ 0) → xe_I (zr0 ν p) c j = xe_I ν c j := fun c j q1 q2 q3 => zr0_o q1 q2 q3
  have hp12 : 0 < 2 ^ P := Nat.pow_pos (by decide)
  have hNp' : zNp (zmv μ p) (zr0 ν p) P S := zNp_k hNp (fun e _ => ⟨xu_In (by omega), xu_In (by omega), rfl⟩) ⟨rfl, rfl⟩ ⟨k 203 12 (by omega) (by omega) (by omega), k 203 15 (by omega) (by omega) (by omega)⟩
  have hTE : zTE (zmv μ p) (zr0 ν p) N := zTE_k hP.1 (fun a ha => ⟨funext fun j => xu_In (by omega), rfl, rfl⟩) (fun a ha => ⟨funext fun j => k a j (by omega) (by omega) (by omega), rfl⟩)
  refine ⟨⟨⟨hTE, zNp_m hNp' ((xu_In (by omega)).trans a1) (fun _ l hl => (k 242 l (by omega) (by omega) (by omega)).trans (h242 l hl)), hR 182 0 183 rfl, ⟨b3, ?_⟩, b4, b5⟩, e1, (xu_In (by omega)).trans a3, (xu_In (by omega)).trans a2, zr0_v.1, (k 203 47 (by omega) (by omega) (by omega)).trans r1, fun i h1 h2 => absurd h1 (by omega), ?_, hN, by omega, Nat.le_refl _, hof, hT, by decide⟩, hR, ?_, (xu_In (by omega)).trans a4, (k 203 52 (by omega) (by omega) (by omega)).trans r2, ⟨hst, hp12, fun q hq => by rw [Nat.zero_testBit] at hq; cases hq⟩, zr0_v.2.1, by decide, zr0_v.2.2.2⟩
  · exact (k 203 11 (by omega) (by omega) (by omega)).trans hP.2.2.2.2.1
  · intro _ q hq
    rw [k 226 _ (by omega) (by omega) (by omega), (hz q hq).1, Nat.zero_testBit]
    rfl
  · refine ⟨hT, hm, a5, a6, (xu_In (by omega)).trans c5, (k 223 T (by omega) (by omega) (by omega)).trans d5, (xu_In (by omega)).trans c6, by decide, fun q hq => ?_, (xu_In (by omega)).trans a7, hmb, (k 203 22 (by omega) (by omega) (by omega)).trans r3, fun q hq => ?_⟩
    · rw [k 227 _ (by omega) (by omega) (by omega), (hz q hq).2, Nat.zero_testBit]
      rfl
    · rw [← hmbi q hq]
      constructor
      · rintro ⟨i, h1, h2, h3⟩
        rw [k 218 i (by omega) (by omega) (by omega)] at h2
        rw [k 227 _ (by omega) (by omega) (by omega)] at h3
        exact ⟨i, h1, h2, h3⟩
      · rintro ⟨i, h1, h2, h3⟩
        refine ⟨i, h1, ?_, ?_⟩
        · rw [k 218 i (by omega) (by omega) (by omega)]
          exact h2
        · rw [k 227 _ (by omega) (by omega) (by omega)]
          exact h3
theorem z_tblk (hP : zPo N μ ν p) (h : zTb P S m T L st mb off n nd tm sp x μ ν) (hT : T < 24) (hm : m < 4) (hmb : mb < 4096) (hst : st ≤ 150) (hL : L ≤ p) (hof : off ≤ 40) :
    (∃ μ' ν' p' L' ub Lc abn st' w, zc47e μ = some (.inl none, zc9 (zmv μ' p') T m w L' ub (mb ||| abn)) ∧ zr174 (nI m) (nI T) ν = zint 1 (zr9 ν' T p' w (L' + off)) ∧ zBb N P S T m mb off L μ' ν' p' L' ub Lc abn st' 0 w ∧ p' + 1 < N ∧ p < p' ∧ L ≤ L' ∧ w ≤ 200 ∧ zRw P S 0 μ' L L' w ∧ zfJ (zXcb T L) 183 (zmv μ p) μ' ∧ zfJ (zXrb T (L + off) 0) 241 (zr0 ν p) ν' ∧ xe_sh μ' = xe_sh μ ∧ xe_sl μ' = xe_sl μ) ∨ zFx N μ ν (zc47e μ) (zr174 (nI m) (nI T) ν) := by
  unfold zc47e zr174
  obtain ⟨q, pl, t1, t2, t3, t4⟩ := zPo_tok hP
  obtain ⟨hx, e1, f1, b1, b2, b3, b4, b5, b6⟩ := id hP
  have hN2 := hx.2.1
  rw [h.2.2.1.2.2.2.2.1, zs_some, show zE53 0 μ = _ from z53h (f53 := zKB 9) (d := 0) e1 t4 t3.1 t1 b4 b5 (by decide), show zD146 123 ν = _ from z146 f1 t4 t3 b2 (K := 11) (by decide) (by decide)]
  by_cases h11 : q = 11
  · have hN : p + 1 < N := t2.mp (by omega)
    rw [if_pos ⟨h11, by decide⟩, if_pos h11, zcI_ok, if_neg (show ¬ (1 : Int32) = 0 by decide)]
    simp only [zq_m]
    rw [show zD155 0 (xe_setI (zrmv ν p) 203 53 0) = some (.inl none, zr0 ν p) from z155 (o := 0) (kd := 0) xu_I (by decide), zcV_ok]
    have h0 := zTb_0 hP hN h hT hm hmb hst hL hof
    have hzf : 4000 ≤ zfu := by decide
    rcases z_blk (N := N) (P := P) (S := S) (t := T) (m := m) (mb := mb) (off := off) (a0 := L) (d := 0) (f53 := zKB 9) (z_hs 9 0 (by decide)) N (zmv μ p) (zr0 ν p) (p + 1) L 0 0 0 st 0 0 zfu zfu (by omega) h0 (by omega) (by omega) (by omega) with ⟨μ', ν', p', L', ub', Lc', abn', st', w', F', pl', c1, c2, c3, c4, c5, c6, c7, c8, c9, c10, c11, c12, c13, c14, c15, c16⟩ | hfx
    · rw [show zD53_14 (zKB 9) zfu (nI 0) 0 0 (zmv μ p) = _ from c1, show zD153_196 zfu (nI m) (nI T) (zr0 ν p) = _ from c2]
      obtain ⟨hq, hR, ha, s1, s2, s3, s4, s5, s6⟩ := id c3
      obtain ⟨hx', e1', e2', e3', r1', r2', hcd', hub', b1', b2', b3', b4', b5', b6'⟩ := id hq
      obtain ⟨y1, y2, y3, y4, y5, y6, y7, y8, y9, y10, y11, y12, y13⟩ := id ha
      have hw : w' < 2147483648 := by
        have : (st' - st) * 10 ^ (6 - 0) ≤ 150 * 10 ^ 6 := Nat.mul_le_mul (by omega) (by decide)
        omega
      obtain ⟨q', pl'', u1, u2, u3, u4⟩ := zQ_tok hq
      have hq12 : q' = 12 := by
        have := u3.1.symm.trans c4.1
        injection this with this
        omega
      have hN' : p' + 1 < N := u2.mp (by omega)
      obtain ⟨F2, rfl⟩ : ∃ g, F' = g + 1 + 1 := ⟨F' - 2, by omega⟩
      have h243 : xe_I ν' 243 0 = 0 := ((c13 243 (by decide)).1 0 rfl).trans zr0_v.2.2.1
      rw [z53e e1' u4 c4.1 hx'.2.2.2.2.1 hx'.2.2.2.2.2 hw, z196c s4 (by decide) r1' u4 c4, z156a r1' s4 (by decide) hT s6 hw h243]
      have hW : zW μ ν μ' ν' := zW_t zW_0 ⟨zG_b c12, zGr_b c13, c14, c15⟩
      by_cases h200 : w' ≤ 200
      · rw [if_pos h200, if_pos h200, zcI_ok, zcI_ok, if_neg (show ¬ (1 : Int32) = 0 by decide)]
        refine Or.inl ⟨μ', ν', p', L', ub', Lc', abn', st', w', ?_, ?_, c3, hN', by omega, c6, h200, c11 L (Nat.le_refl _) zRw_0, c12, c13, c14, c15⟩
        · exact z47f hT hm y3 y4 ((xu_In (by omega)).trans e2') ((xu_In (by omega)).trans e3') ((xu_In (by omega)).trans y10) ((xu_In (by omega)).trans y7)
        · refine z196e (F := F2) (U := L' + off) ?_ ?_ (by omega) ?_
          · exact xu_I
          · exact (zcl_o (by omega)).trans ((xu_In (by omega)).trans r2')
          · exact (zcl_o (by omega)).trans ((xu_In (by omega)).trans y12)
      · rw [if_neg h200, if_neg h200, zcI_ok, if_pos rfl]
        exact Or.inr (zFx_w hW (zFx_cI (zFx_l (zQ_no hq rfl rfl))))
    · exact Or.inr (zFx_w zW_0 (zFx_cI hfx))
  · rw [if_neg (fun e => h11 e.1), if_neg h11, zcI_ok, if_pos rfl]
    exact Or.inr (zFx_cI (zPo_no hP rfl rfl))
end
