/-! from two memories to the law's one -/
def zAns (ok : Nat → Int32 → Prop) (A B : zO) (μ : xe_Mem) : Prop := (∃ v μ' ν', A = zint v μ' ∧ B = zint v ν' ∧ xe_I ν' 203 0 = 0 ∧ zJJ μ' ν') ∨ ∃ ci kk b ν', ok ci kk ∧ A = some (.inr (xe_sh μ).length, xe_add μ (.inl ci) 6) ∧ B = zint b ν' ∧ xe_I ν' 203 0 = kk ∧ zJJ μ ν'
def zAnv (ok : Nat → Int32 → Prop) (A B : zO) (μ : xe_Mem) : Prop := (∃ μ' ν', A = some (.inl none, μ') ∧ B = some (.inl none, ν') ∧ xe_I ν' 203 0 = 0 ∧ zJJ μ' ν') ∨ ∃ ci kk ν', ok ci kk ∧ A = some (.inr (xe_sh μ).length, xe_add μ (.inl ci) 6) ∧ B = some (.inl none, ν') ∧ xe_I ν' 203 0 = kk ∧ zJJ μ ν'
def zThr (μ : xe_Mem) : Prop := ∀ ci, zq_thr ci μ = some (.inr (xe_sh μ).length, xe_add μ (.inl ci) 6)
section
variable {δ : xe_Dy} {y z c d : Nat} {asC asR : List Value} {σ σ1 σ2 μ μ' ν ν' : xe_Mem} {Dc Dr : xe_Mem → zO} {ok : Nat → Int32 → Prop} {P : Nat → Bool}
theorem zThr_F (hF : xF c σ) (hc : c ≤ 512) : zThr σ := fun _ => if_pos ⟨xF_len hF hc, xF_sl hF hc⟩
theorem xF_T (hF : xF c σ) (h : zT P σ σ1) : xF c σ1 := ⟨h.2.2.1, h.2.2.2.1, by rw [h.1]; exact hF.2.2.1, by rw [h.2.1]; exact hF.2.2.2⟩
theorem xF_1 (hF : xF c σ) : xF (c + 1) σ := ⟨hF.1, hF.2.1, by have := hF.2.2.1; omega, by have := hF.2.2.2; omega⟩
theorem zPc_t {a : Nat} (h : 203 ≤ a) : zPc a = true := Nat.ble_eq_true_of_le h
theorem zPr_t {a : Nat} (h : a ≤ 202 ∨ a = 264) : zPr a = true := by
  unfold zPr
  rcases h with h | h
  · rw [Nat.ble_eq_true_of_le h]
    rfl
  · subst h
    rfl
theorem zint_inj {v v' : Int32} (h : zint v μ = zint v' μ') : v = v' ∧ μ = μ' := by
  cases h
  exact ⟨rfl, rfl⟩
theorem zvoid_inj (h : (some (.inl none, μ) : zO) = some (.inl none, μ')) : μ = μ' := by
  cases h
  rfl
/-- the class has run: the reference's cells are as they were -/
theorem zeR_T (h : zT zPc σ σ1) : zeR σ σ1 := fun a h1 h2 j => by
  obtain ⟨w1, w2, w3⟩ := h.2.2.2.2 a (by omega) (zPc_t h1) j
  exact ⟨fun _ => w1, w2, w3⟩
theorem zeC_T (h : zT zPr σ σ1) : zeC σ σ1 := ⟨fun a h1 j => h.2.2.2.2 a (by omega) (zPr_t (Or.inl (by omega))) j, h.2.2.2.1, h.2.2.1⟩
theorem zeR_t (h1 : zeR σ σ1) (h2 : zeR σ1 σ2) : zeR σ σ2 := fun a w1 w2 j => ⟨fun w => ((h2 a w1 w2 j).1 w).trans ((h1 a w1 w2 j).1 w), ((h2 a w1 w2 j).2.1).trans (h1 a w1 w2 j).2.1, ((h2 a w1 w2 j).2.2).trans (h1 a w1 w2 j).2.2⟩
theorem zeC_t (h1 : zeC σ σ1) (h2 : zeC σ1 σ2) : zeC σ σ2 := ⟨fun a w j => ⟨((h2.1 a w j).1).trans (h1.1 a w j).1, ((h2.1 a w j).2.1).trans (h1.1 a w j).2.1, ((h2.1 a w j).2.2).trans (h1.1 a w j).2.2⟩, h2.2⟩
theorem zeR_out {x : Int64} : zeR σ (xe_setL σ 264 0 x) := fun a h1 h2 j => ⟨fun _ => rfl, by rw [zu_L, if_neg (by omega)], rfl⟩
theorem zeC_out {x : Int64} (hR : zRt σ) (hs : ∃ g, xe_sh σ = xv_S ++ g) : zeC σ (xe_setL σ 264 0 x) := ⟨fun a h1 j => ⟨rfl, by rw [zu_L, if_neg (by omega)], rfl⟩, hR, hs⟩
theorem ze_add {ci : Nat} (hF : xF c σ) : zeC σ (xe_add σ (.inl ci) 6) ∧ zeR σ (xe_add σ (.inl ci) 6) := by
  have hx := xF_exc (ci := ci) hF
  have hlen : 265 ≤ σ.1.length := by
    obtain ⟨⟨g, hg⟩, -⟩ := hF
    rw [show σ.1 = _ from hg, List.length_append, xv_Sl]
    omega
  have k : ∀ a, a < 265 → ∀ j, xe_I (xe_add σ (.inl ci) 6) a j = xe_I σ a j ∧ xe_L (xe_add σ (.inl ci) 6) a j = xe_L σ a j ∧ xe_R (xe_add σ (.inl ci) 6) a j = xe_R σ a j := fun a ha j => by
    refine ⟨?_, ?_, ?_⟩
    · show xe_w σ.2.1 σ.1.length (fun _ => 0) a j = _
      rw [xe_w_ne _ _ (by omega)]
    · show xe_w σ.2.2.1 σ.1.length (fun _ => 0) a j = _
      rw [xe_w_ne _ _ (by omega)]
    · show xe_w σ.2.2.2.1 σ.1.length (fun _ => none) a j = _
      rw [xe_w_ne _ _ (by omega)]
  exact ⟨⟨fun a h1 j => k a (by omega) j, hx.2.1, hx.1⟩, fun a h1 h2 j => ⟨fun _ => (k a (by omega) j).1, (k a (by omega) j).2.1, (k a (by omega) j).2.2⟩⟩
theorem zJ_rt (h : zJJ σ ν) : zeC σ σ := zeC_r h.2.1.1.1 h.2.1.1.2
/-- a call that answers a number, or throws -/
theorem z_lawv (hF : xF c σ) (hc : c ≤ 511) (hJ : zJJ σ σ) (hC : ∀ μ, zT zPc σ μ → zK zPc σ δ 998 y 0 (xe_init asC (xM_L y)) [] μ (Dc μ)) (hR : ∀ μ0 μ, zT zPr μ0 μ → zK zPr μ0 δ 999 z 0 (xe_init asR (xM_L z)) [] μ (Dr μ)) (hT : ∀ μ ν, zJJ μ ν → zThr μ → zAns ok (Dc μ) (Dr ν) μ) :
    (∃ v σ1 σ2, xs_M δ 998 y asC σ (.inl (some (.int v))) σ1 ∧ xs_M δ 999 z asR (xe_setL σ1 264 0 v.toInt64) (.inl (some (.int v))) σ2 ∧ xe_I σ2 203 0 = 0 ∧ xe_L σ2 264 0 = v.toInt64 ∧ zJJ σ2 σ2 ∧ xF (c + 1) σ1 ∧ xF (c + 1) σ2) ∨ (∃ ci kk a b σ1 σ2, ok ci kk ∧ xs_M δ 998 y asC σ (.inr a) σ1 ∧ xe_ci σ1 a = some ci ∧ xs_M δ 999 z asR σ1 (.inl (some (.int b))) σ2 ∧ xe_I σ2 203 0 = kk ∧ zJJ σ2 σ2 ∧ xF (c + 1) σ1 ∧ xF (c + 1) σ2) := by
  have hth := zThr_F hF (by omega)
  rcases hT σ σ hJ hth with ⟨v, σ1, ν, e1, -, -, -⟩ | ⟨ci, kk, b, ν, o1, e1, -, -, -⟩
  · obtain ⟨g1, t1⟩ := hC σ (zT_F hF) _ _ e1
    have t1' : zT zPc σ σ1 := t1
    have hF1 := xF_T hF t1'
    have hF1' : xF c (xe_setL σ1 264 0 v.toInt64) := hF1
    rcases hT σ (xe_setL σ1 264 0 v.toInt64) (zJ_e hJ (zJ_rt hJ) (zeR_t (zeR_T t1') zeR_out)) hth with ⟨v', μ', σ2, e2, e3, e4, e5⟩ | ⟨ci, kk, b, ν', -, e2, -⟩
    · obtain ⟨hv, hm⟩ := zint_inj (e1.symm.trans e2)
      subst hv
      subst hm
      obtain ⟨g2, t2⟩ := hR _ _ (zT_F hF1') _ _ e3
      have t2' : zT zPr (xe_setL σ1 264 0 v.toInt64) σ2 := t2
      refine Or.inl ⟨v, σ1, σ2, g1, g2, e4, ?_, zJ_e e5 (zeC_t (zeC_out hF1.2.1 hF1.1) (zeC_T t2')) zeR_r, xF_1 hF1, xF_1 (xF_T hF1' t2')⟩
      rw [(t2'.2.2.2.2 264 (by decide) (zPr_t (Or.inr rfl)) 0).2.1, zu_L, if_pos ⟨rfl, rfl⟩]
    · have := e1.symm.trans e2
      cases this
  · obtain ⟨g1, -⟩ := hC σ (zT_F hF) _ _ e1
    have hF1 := xF_exc (ci := ci) hF
    obtain ⟨q1, q2⟩ := ze_add (ci := ci) hF
    rcases hT σ (xe_add σ (.inl ci) 6) (zJ_e hJ (zJ_rt hJ) q2) hth with ⟨v', μ', σ2, e2, -⟩ | ⟨ci', kk', b', σ2, o2, e2, e3, e4, e5⟩
    · have := e1.symm.trans e2
      cases this
    · have hci : xe_add σ (.inl ci) 6 = xe_add σ (.inl ci') 6 := (Prod.mk.inj (Option.some.inj (e1.symm.trans e2))).2
      have hx : xe_ci (xe_add σ (.inl ci) 6) (xe_sh σ).length = some ci' := by rw [hci]; exact xe_ci_add
      obtain ⟨g2, t2⟩ := hR _ _ (zT_F hF1) _ _ e3
      have t2' : zT zPr (xe_add σ (.inl ci) 6) σ2 := t2
      exact Or.inr ⟨ci', kk', _, b', _, σ2, o2, g1, hx, g2, e4, zJ_e e5 (zeC_t q1 (zeC_T t2')) zeR_r, hF1, xF_T hF1 t2'⟩
/-- a call that answers nothing, or throws -/
theorem z_lawn (hF : xF c σ) (hc : c ≤ 511) (hJ : zJJ σ σ) (hC : ∀ μ, zT zPc σ μ → zK zPc σ δ 998 y 0 (xe_init asC (xM_L y)) [] μ (Dc μ)) (hR : ∀ μ0 μ, zT zPr μ0 μ → zK zPr μ0 δ 999 z 0 (xe_init asR (xM_L z)) [] μ (Dr μ)) (hT : ∀ μ ν, zJJ μ ν → zThr μ → zAnv ok (Dc μ) (Dr ν) μ) :
    (∃ σ1 σ2, xs_M δ 998 y asC σ (.inl none) σ1 ∧ xs_M δ 999 z asR σ1 (.inl none) σ2 ∧ xe_I σ2 203 0 = 0 ∧ zJJ σ2 σ2 ∧ xF (c + 1) σ1 ∧ xF (c + 1) σ2) ∨ (∃ ci kk a σ1 σ2, ok ci kk ∧ xs_M δ 998 y asC σ (.inr a) σ1 ∧ xe_ci σ1 a = some ci ∧ xs_M δ 999 z asR σ1 (.inl none) σ2 ∧ xe_I σ2 203 0 = kk ∧ zJJ σ2 σ2 ∧ xF (c + 1) σ1 ∧ xF (c + 1) σ2) := by
  have hth := zThr_F hF (by omega)
  rcases hT σ σ hJ hth with ⟨σ1, ν, e1, -, -, -⟩ | ⟨ci, kk, ν, o1, e1, -, -, -⟩
  · obtain ⟨g1, t1⟩ := hC σ (zT_F hF) _ _ e1
    have t1' : zT zPc σ σ1 := t1
    have hF1 := xF_T hF t1'
    rcases hT σ σ1 (zJ_e hJ (zJ_rt hJ) (zeR_T t1')) hth with ⟨μ', σ2, e2, e3, e4, e5⟩ | ⟨ci, kk, ν', -, e2, -⟩
    · have hm := zvoid_inj (e1.symm.trans e2)
      subst hm
      obtain ⟨g2, t2⟩ := hR _ _ (zT_F hF1) _ _ e3
      have t2' : zT zPr σ1 σ2 := t2
      exact Or.inl ⟨σ1, σ2, g1, g2, e4, zJ_e e5 (zeC_T t2') zeR_r, xF_1 hF1, xF_1 (xF_T hF1 t2')⟩
    · have := e1.symm.trans e2
      cases this
  · obtain ⟨g1, -⟩ := hC σ (zT_F hF) _ _ e1
    have hF1 := xF_exc (ci := ci) hF
    obtain ⟨q1, q2⟩ := ze_add (ci := ci) hF
    rcases hT σ (xe_add σ (.inl ci) 6) (zJ_e hJ (zJ_rt hJ) q2) hth with ⟨μ', σ2, e2, -⟩ | ⟨ci', kk', σ2, o2, e2, e3, e4, e5⟩
    · have := e1.symm.trans e2
      cases this
    · have hci : xe_add σ (.inl ci) 6 = xe_add σ (.inl ci') 6 := (Prod.mk.inj (Option.some.inj (e1.symm.trans e2))).2
      have hx : xe_ci (xe_add σ (.inl ci) 6) (xe_sh σ).length = some ci' := by rw [hci]; exact xe_ci_add
      obtain ⟨g2, t2⟩ := hR _ _ (zT_F hF1) _ _ e3
      have t2' : zT zPr (xe_add σ (.inl ci) 6) σ2 := t2
      exact Or.inr ⟨ci', kk', _, _, σ2, o2, g1, hx, g2, e4, zJ_e e5 (zeC_t q1 (zeC_T t2')) zeR_r, hF1, xF_T hF1 t2'⟩
/-- a call that throws nothing -/
theorem z_lawd (hF : xF c σ) (hJ : zJJ σ σ) (hC : ∀ μ, zT zPc σ μ → zK zPc σ δ 999 y 0 (xe_init asC (xM_L y)) [] μ (Dc μ)) (hR : ∀ μ0 μ, zT zPr μ0 μ → zK zPr μ0 δ 999 z 0 (xe_init asR (xM_L z)) [] μ (Dr μ)) (hT : ∀ μ ν, zJJ μ ν → ∃ v μ' ν', Dc μ = zint v μ' ∧ Dr ν = zint v ν' ∧ ((∃ g, xe_sh μ' = xv_S ++ g) → zJJ μ' ν')) :
    ∃ v σ1 σ2, xs_M δ 999 y asC σ (.inl (some (.int v))) σ1 ∧ xs_M δ 999 z asR σ1 (.inl (some (.int v))) σ2 ∧ zJJ σ2 σ2 ∧ xF (c + 1) σ1 ∧ xF (c + 1) σ2 := by
  obtain ⟨v, σ1, ν, e1, -, -⟩ := hT σ σ hJ
  obtain ⟨g1, t1⟩ := hC σ (zT_F hF) _ _ e1
  have t1' : zT zPc σ σ1 := t1
  have hF1 := xF_T hF t1'
  obtain ⟨v', μ', σ2, e2, e3, e5⟩ := hT σ σ1 (zJ_e hJ (zJ_rt hJ) (zeR_T t1'))
  obtain ⟨hv, hm⟩ := zint_inj (e1.symm.trans e2)
  subst hv
  subst hm
  obtain ⟨g2, t2⟩ := hR _ _ (zT_F hF1) _ _ e3
  have t2' : zT zPr σ1 σ2 := t2
  exact ⟨v, σ1, σ2, g1, g2, zJ_e (e5 hF1.1) (zeC_T t2') zeR_r, xF_1 hF1, xF_1 (xF_T hF1 t2')⟩
end
