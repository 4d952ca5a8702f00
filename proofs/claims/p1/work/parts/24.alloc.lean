/-! the operations that make cells; Object's constructor; arraycopy -/
theorem xe_ws_add (δ : xe_Dy) (μ : xe_Mem) (z : xe_Sh) (n : Nat) : xe_ws δ (xe_add μ z n) = xe_ws δ μ ++ [(xe_ro δ (xe_sh μ).length, xe_ce δ (xe_add μ z n) (xe_sh μ).length z)] := by
  apply List.ext_getElem?
  intro b
  rw [xe_ws_get]
  show ((xe_sh μ ++ [z])[b]?).map _ = _
  by_cases hb : b < (xe_sh μ).length
  · rw [List.getElem?_append_left hb, List.getElem?_append_left (by rw [xe_ws_len]; exact hb), xe_ws_get]
    have hne : b ≠ (xe_sh μ).length := Nat.ne_of_lt hb
    cases (xe_sh μ)[b]? with
    | none => rfl
    | some w => simp only [Option.map_some]; rw [xe_ce_congr w (xe_w_ne _ _ hne) (xe_w_ne _ _ hne) (xe_w_ne _ _ hne)]
  · rw [List.getElem?_append_right (by omega), List.getElem?_append_right (by rw [xe_ws_len]; omega), xe_ws_len]
    by_cases he : b = (xe_sh μ).length
    · subst he
      simp
    · rw [List.getElem?_eq_none (by simp; omega), List.getElem?_eq_none (by simp; omega)]
      rfl
theorem xe_new_at {δ : xe_Dy} {μ : xe_Mem} {H1 : Heap} {q : Nat} {z : va_E} (hP : va_P (xd_D δ) xg_cl (xe_ws δ μ ++ [(q, z)]) H1) (hD : va_D (xe_A δ) (xe_ws δ μ ++ [(q, z)])) (hz : H1.size ≤ xd_b δ + (xe_sh μ).length + 1) (hl : (xe_sh μ).length ≤ 1000000) : q = xd_b δ + (xe_sh μ).length := by
  have hlast : (xe_ws δ μ ++ [(q, z)])[(xe_sh μ).length]? = some (q, z) := by
    rw [List.getElem?_append_right (by rw [xe_ws_len]; omega), xe_ws_len]; simp
  have h1 : q < H1.size := (hP _ _ hlast).lt
  have h2 : xd_b δ ≤ q := hD.2 _ _ hlast
  by_cases h3 : q < xd_b δ + (xe_sh μ).length
  · exfalso
    have hi : q - xd_b δ < (xe_sh μ).length := by omega
    have h4 : (xe_ws δ μ ++ [(q, z)])[q - xd_b δ]? = some (xe_ro δ (q - xd_b δ), xe_ce δ μ (q - xd_b δ) (xe_sh μ)[q - xd_b δ]) := by
      rw [List.getElem?_append_left (by rw [xe_ws_len]; exact hi)]
      exact xe_ws_at (List.getElem?_eq_getElem hi)
    have h5 := hD.1 _ _ _ _ h4 hlast (by rw [xe_ro_own δ (by omega)]; show xd_b δ + (q - xd_b δ) = q; omega)
    omega
  · omega
theorem xe_fv_0 {δ : xe_Dy} {μ : xe_Mem} {a k : Nat} {ty : FieldType} (hI : xe_I μ a = fun _ => 0) (hL : xe_L μ a = fun _ => 0) (hR : xe_R μ a = fun _ => none) (h3 : xe_k ty ≠ 3) : xe_fv δ μ a k ty = defaultValue ty := by
  cases ty <;> first | (simp [xe_fv, hI, hL, hR, defaultValue, va_rf]; done) | (exact absurd rfl h3)
def xe_new (ci N : Nat) : xe_F := fun k ls st μ => if (xe_sh μ).length < xg_CT ∧ xe_sl μ + N ≤ xg_ST then some (k + 1, ls, .ref (xe_sh μ).length :: st, xe_add μ (.inl ci) N) else none
theorem xo_new {δ : xe_Dy} {Y : xe_Y} {k pc : Nat} (hk : xe_pc Y k = pc) (hk1 : xe_pc Y (k + 1) = pc + 3) {ci index N : Nat} {C : String} {T : u_T} (hM : xg_CT ≤ 1000000) (hc : xg_ok ci C T N) (h3 : ∀ j, j < N → xe_k (xg_ft ci j) ≠ 3) (w1 : Cond.classLink (xy_n Y).cls index C ∈ xg_tb) (w2 : Cond.instantiable C N ∈ xg_tb) (w3 : Cond.initialized C ∈ xg_tb) (hd : decode (xy_b Y) pc = .ok (.new index, 3)) : xe_OKL δ Y k (xe_new ci N) := by
  intro p l e R s m args below meth c n0 s0 H locs cells slots Q lsJ ls st μ k' ls' st' μ' hC hfr hlo hR hl hf kk
  obtain ⟨hx, hb, hml, hown, hnm, hret, hlk, hts, hK, hE, hhd⟩ := hC
  unfold xe_new at hf
  split at hf
  · rename_i hq
    obtain ⟨hq1, hq2⟩ := hq
    cases hf
    rw [hk]
    obtain ⟨hP, hD, hS, hsz, hCT, hST, hcl, hsl, hRc, hRs⟩ := id hR
    have hfs : ∀ j, j < N → defaultValue (xg_ft ci j) = vp_V (xe_fs δ (xe_add μ (.inl ci) N) (xe_sh μ).length ci) j := by
      intro j hj
      unfold vp_V
      rw [List.getD_eq_getElem?_getD, xe_fs_get _ _ _ _ _ (by rw [xg_ok_N hc]; exact hj), xe_fv_0 (xe_w_self _ _ _) (xe_w_self _ _ _) (xe_w_self _ _ _) (h3 j hj)]
      rfl
    refine va_new hx hb hts hc.2.1 (xg_ft ci) hc.2.2.1 hown (hts _ w1) (hts _ w2) (hts _ w3) hK hP hD hS (fun q hq => by show xd_b δ ≤ q; omega) hc.1 hfs (by omega) (by omega) hd (fun q H1 hP1 hD1 hS1 => ?_)
    refine xe_Wz (fun hz => ?_)
    have hqe : q = xd_b δ + (xe_sh μ).length := xe_new_at hP1 hD1 (by omega) (by omega)
    have hw := xe_ws_add δ μ (.inl ci) N
    rw [xe_ro_own δ (a := (xe_sh μ).length) (by omega), ← hqe] at hw
    have kk := kk H1 locs (cells + 1) (slots + N) lsJ ⟨by rw [hw]; exact hP1, by rw [hw]; exact hD1, hS1, hsz, by show (xe_sh μ ++ [_]).length ≤ _; simp; omega, by show xe_sl μ + _ ≤ _; omega, by show _ = (xe_sh μ ++ [_]).length; simp; omega, by show slots + N + s0 = xe_sl μ + N; omega, hRc, hRs⟩ hl
    rw [hk1, List.map_cons] at kk
    have e1 : xe_v δ (.ref (xe_sh μ).length) = .ref q := by rw [hqe, xe_v, xe_ro_own δ (by omega)]
    rw [e1] at kk
    exact kk
  · cases hf
theorem xe_RA_eq {s : State} {c1 c2 : ClassId} {ty : FieldType} (h1 : va_RA s c1 ty) (h2 : va_RA s c2 ty) : c1 = c2 := by
  cases ty with
  | object C =>
    obtain ⟨_, _, -, -, -, e1⟩ := h1
    obtain ⟨_, _, -, -, -, e2⟩ := h2
    exact Option.some.inj (e1.symm.trans e2)
  | _ => exact Option.some.inj (Eq.trans (Eq.symm h1) h2)
def xe_nwa (t : Nat) : xe_F := fun k ls st μ => match st with
  | .int n :: r => if ¬ n < 0 ∧ (xe_sh μ).length < xg_CT ∧ xe_sl μ + n.toNatClampNeg ≤ xg_ST ∧ n.toNatClampNeg ≤ 60000000 then some (k + 1, ls, .ref (xe_sh μ).length :: r, xe_add μ (.inr (t, n.toNatClampNeg)) n.toNatClampNeg) else none
  | _ => none
theorem xe_last_ty {δ : xe_Dy} {s : State} {cA : ClassId} {t : Nat} {ty : FieldType} (hK : va_K (xd_D δ) xg_cl (xe_tys δ) s) (ht : xg_tl[t]? = some ty) (h : va_K (xd_D δ) xg_cl (xe_tys δ ++ [(cA, ty)]) s) : cA = xd_A δ t := by
  have h1 := (h.2 (xe_tys δ).length (cA, ty) (by rw [List.getElem?_append_right (Nat.le_refl _)]; simp)).2
  have h2 := (hK.2 t _ (xe_tys_get δ ht)).2
  exact xe_RA_eq h1 h2
theorem xo_newarray {δ : xe_Dy} {Y : xe_Y} {k pc t : Nat} {atype : ArrayType} {ty : FieldType} (hk : xe_pc Y k = pc) (hk1 : xe_pc Y (k + 1) = pc + 2) (hM : xg_CT ≤ 1000000) (hty : newarray.typeOf atype = ty) (ht : xg_tl[t]? = some ty) (h8 : componentBytes ty ≤ 8) (hw : Cond.arrayClass (newarray.typeOf atype) ∈ xg_tb)
    (hz : ∀ (μ : xe_Mem) (a n : Nat) (cA : ClassId), xe_I μ a = (fun _ => 0) → xe_L μ a = (fun _ => 0) → vp_cell cA (n, xe_ar δ μ a t) = arrV cA n (fun _ => defaultValue ty)) (hd : decode (xy_b Y) pc = .ok (.newarray atype, 2)) : xe_OKL δ Y k (xe_nwa t) := by
  intro p l e R s m args below meth c n0 s0 H locs cells slots Q lsJ ls st μ k' ls' st' μ' hC hfr hlo hR hl hf kk
  obtain ⟨hx, hb, hml, hown, hnm, hret, hlk, hts, hK, hE, hhd⟩ := hC
  unfold xe_nwa at hf
  split at hf
  · rename_i n r
    split at hf
    · rename_i hq
      obtain ⟨hq0, hq1, hq2, hq3⟩ := hq
      cases hf
      rw [hk]
      obtain ⟨hP, hD, hS, hsz, hCT, hST, hcl, hsl, hRc, hRs⟩ := id hR
      refine va_newa (a0 := (n.toNatClampNeg, xe_ar δ (xe_add μ (.inr (t, n.toNatClampNeg)) n.toNatClampNeg) (xe_sh μ).length t)) hx hb (hts _ hw) hty hK hP hD hS (fun q hq => by show xd_b δ ≤ q; omega) (fun cA => hz _ _ _ cA (xe_w_self _ _ _) (xe_w_self _ _ _)) hq0 rfl (Nat.le_trans (Nat.mul_le_mul hq3 h8) (by decide)) (by omega) (by omega) hd (fun q cA H1 hK1 hP1 hD1 hS1 => ?_)
      have hcA := xe_last_ty hK ht hK1
      subst hcA
      refine xe_Wz (fun hz => ?_)
      have hqe : q = xd_b δ + (xe_sh μ).length := xe_new_at hP1 hD1 (by omega) (by omega)
      have hw := xe_ws_add δ μ (.inr (t, n.toNatClampNeg)) n.toNatClampNeg
      rw [xe_ro_own δ (a := (xe_sh μ).length) (by omega), ← hqe] at hw
      have kk := kk H1 locs (cells + 1) (slots + n.toNatClampNeg) lsJ ⟨by rw [hw]; exact hP1, by rw [hw]; exact hD1, hS1, hsz, by show (xe_sh μ ++ [_]).length ≤ _; simp; omega, by show xe_sl μ + _ ≤ _; omega, by show _ = (xe_sh μ ++ [_]).length; simp; omega, by show slots + _ + s0 = xe_sl μ + _; omega, hRc, hRs⟩ hl
      rw [hk1, List.map_cons] at kk
      have e1 : xe_v δ (.ref (xe_sh μ).length) = .ref q := by rw [hqe, xe_v, xe_ro_own δ (by omega)]
      rw [e1] at kk
      exact kk
    · cases hf
  · cases hf
theorem xo_anewarray {δ : xe_Dy} {Y : xe_Y} {k pc t index : Nat} {C : String} (hk : xe_pc Y k = pc) (hk1 : xe_pc Y (k + 1) = pc + 3) (hM : xg_CT ≤ 1000000) (ht : xg_tl[t]? = some (.object C)) (h4 : 4 ≤ t) (w1 : Cond.classLink (xy_n Y).cls index C ∈ xg_tb) (w2 : Cond.arrayOver (.object C) ∈ xg_tb) (hd : decode (xy_b Y) pc = .ok (.anewarray index, 3)) : xe_OKL δ Y k (xe_nwa t) := by
  intro p l e R s m args below meth c n0 s0 H locs cells slots Q lsJ ls st μ k' ls' st' μ' hC hfr hlo hR hl hf kk
  obtain ⟨hx, hb, hml, hown, hnm, hret, hlk, hts, hK, hE, hhd⟩ := hC
  unfold xe_nwa at hf
  split at hf
  · rename_i n r
    split at hf
    · rename_i hq
      obtain ⟨hq0, hq1, hq2, hq3⟩ := hq
      cases hf
      rw [hk]
      obtain ⟨hP, hD, hS, hsz, hCT, hST, hcl, hsl, hRc, hRs⟩ := id hR
      refine va_newq hx hb hown (hts _ w1) (va_AO.of (hts _ w2)) hK hP hD hS (fun q hq => by show xd_b δ ≤ q; omega) hq0 rfl (by omega) (by omega) (by omega) hd (fun q cA H1 hK1 hP1 hD1 hS1 => ?_)
      have hcA := xe_last_ty hK ht hK1
      subst hcA
      refine xe_Wz (fun hz => ?_)
      have hqe : q = xd_b δ + (xe_sh μ).length := xe_new_at hP1 hD1 (by omega) (by omega)
      have hw := xe_ws_add δ μ (.inr (t, n.toNatClampNeg)) n.toNatClampNeg
      have e0 : xe_ce δ (xe_add μ (.inr (t, n.toNatClampNeg)) n.toNatClampNeg) (xe_sh μ).length (.inr (t, n.toNatClampNeg)) = .inl (xd_A δ t, n.toNatClampNeg, .inr (.inr (.inr (.inr (fun _ => none))))) := by
        rw [xe_ce, xe_ar_R h4]
        have hR0 : xe_R (xe_add μ (.inr (t, n.toNatClampNeg)) n.toNatClampNeg) (xe_sh μ).length = fun _ => none := xe_w_self _ _ _
        rw [hR0]
        rfl
      rw [e0, xe_ro_own δ (a := (xe_sh μ).length) (by omega), ← hqe] at hw
      have kk := kk H1 locs (cells + 1) (slots + n.toNatClampNeg) lsJ ⟨by rw [hw]; exact hP1, by rw [hw]; exact hD1, hS1, hsz, by show (xe_sh μ ++ [_]).length ≤ _; simp; omega, by show xe_sl μ + _ ≤ _; omega, by show _ = (xe_sh μ ++ [_]).length; simp; omega, by show slots + _ + s0 = xe_sl μ + _; omega, hRc, hRs⟩ hl
      rw [hk1, List.map_cons] at kk
      have e1 : xe_v δ (.ref (xe_sh μ).length) = .ref q := by rw [hqe, xe_v, xe_ro_own δ (by omega)]
      rw [e1] at kk
      exact kk
    · cases hf
  · cases hf
theorem xe_sum_v (δ : xe_Dy) (st : List Value) : ((st.map (xe_v δ)).map fun v => v.category).sum = (st.map fun v => v.category).sum := by
  rw [List.map_map]
  congr 1
  exact List.map_congr_left (fun v _ => xe_v_cat δ v)
/-- Object's own constructor: nothing but the receiver goes -/
def xe_oin : xe_F := fun k ls st μ => match st with
  | .ref _ :: r => if (r.map fun v => v.category).sum ≤ 40 then some (k + 1, ls, r, μ) else none
  | _ => none
theorem xo_oin {δ : xe_Dy} {Y : xe_Y} {k pc index : Nat} (hk : xe_pc Y k = pc) (hk1 : xe_pc Y (k + 1) = pc + 3) (w1 : Cond.methodLink (xy_n Y).cls index objectInit ∈ xg_tb) (w2 : Cond.instanceMethod objectInit ∈ xg_tb) (w3 : Cond.code objectInit ⟨#[0xb1]⟩ 1 none ∈ xg_tb) (hd : decode (xy_b Y) pc = .ok (.invokespecial index, 3)) : xe_OKL δ Y k xe_oin := by
  intro p l e R s m args below meth c n0 s0 H locs cells slots Q lsJ ls st μ k' ls' st' μ' hC hfr hlo hR hl hf kk
  obtain ⟨hx, hb, hml, hown, hnm, hret, hlk, hts, hK, hE, hhd⟩ := hC
  unfold xe_oin at hf
  split at hf
  · rename_i a r
    split at hf
    · rename_i hq
      cases hf
      rw [hk]
      have kk := kk H locs cells slots lsJ hR hl
      rw [hk1] at kk
      refine W.objInit (rest := st'.map (xe_v δ)) hx hb hown (hts _ w1) (hts _ w2) (hts _ w3) rfl (by rw [hml]; exact hl.1) rfl hd hfr (by rw [xe_sum_v]; show 2 * 0 + _ + 12 ≤ _; omega) kk
    · cases hf
  · cases hf
/-- System.arraycopy of ints or bytes, from one array to another or itself -/
def xe_acp (t : Nat) (ok : Int32 → Bool) : xe_F := fun k ls st μ => match st with
  | .int n :: .int dp :: .ref a :: .int sp :: .ref b :: r => match (xe_sh μ)[a]?, (xe_sh μ)[b]? with
    | some (.inr q), some (.inr w) => if q.1 = t ∧ w.1 = t ∧ ¬ sp < 0 ∧ ¬ dp < 0 ∧ ¬ n < 0 ∧ sp.toNatClampNeg + n.toNatClampNeg ≤ w.2 ∧ dp.toNatClampNeg + n.toNatClampNeg ≤ q.2 ∧ (∀ i, i < n.toNatClampNeg → ok (xe_I μ b (sp.toNatClampNeg + i)) = true) ∧ (r.map fun v => v.category).sum ≤ 20 then some (k + 1, ls, r, (μ.1, xe_w μ.2.1 a (va_cpy (xe_I μ b) (xe_I μ a) sp.toNatClampNeg dp.toNatClampNeg n.toNatClampNeg), μ.2.2.1, μ.2.2.2.1, μ.2.2.2.2)) else none
    | _, _ => none
  | _ => none
theorem xo_acp {δ : xe_Dy} {Y : xe_Y} {k pc index t : Nat} {ty : FieldType} {ok : Int32 → Bool} (hk : xe_pc Y k = pc) (hk1 : xe_pc Y (k + 1) = pc + 3) (ht : xg_tl[t]? = some ty) (h1 : t ≠ 1) (h4 : t < 4) (hprim : refKind ty = false) (hok : ∀ x, ok x = true → fits ty (.int x) = true) (w1 : Cond.methodLink (xy_n Y).cls index arraycopyName ∈ xg_tb) (w2 : Cond.native arraycopyName ∈ xg_tb) (w3 : Cond.static arraycopyName ∈ xg_tb) (w4 : Cond.initialized "java/lang/System" ∈ xg_tb) (hnf : nativeFrameWords "java/lang/System" "arraycopy" 5 + 31 ≤ 64) (hd : decode (xy_b Y) pc = .ok (.invokestatic index, 3)) : xe_OKL δ Y k (xe_acp t ok) := by
  intro p l e R s m args below meth c n0 s0 H locs cells slots Q lsJ ls st μ k' ls' st' μ' hC hfr hlo hR hl hf kk
  obtain ⟨hx, hb, hml, hown, hnm, hret, hlk, hts, hK, hE, hhd⟩ := hC
  unfold xe_acp at hf
  split at hf
  · rename_i n dp a sp b r
    split at hf
    · rename_i q w hsa hsb
      split at hf
      · rename_i hq
        obtain ⟨t1, n1⟩ := q
        obtain ⟨t2, n2⟩ := w
        obtain ⟨rfl, hw2, g1, g2, g3, g4, g5, g6, g7⟩ := hq
        dsimp only at hw2 g4 g5 h1 h4 ht
        subst hw2
        cases hf
        rw [hk]
        refine va_copyi hx hb (hml.trans hl.1.symm) hown (hts _ w1) (hts _ w2) (hts _ w3) (hts _ w4) hK hR.1 hR.2.1 hR.2.2.1 b a _ _ (xe_at_I hsb h1 h4) (xe_at_I hsa h1 h4) (xe_tys_get δ ht) (xe_tys_get δ ht) hprim g1 g2 g3 g4 g5 (fun i hi => hok _ (g6 i hi)) hfr (by rw [xe_sum_v]; omega) hd (fun H1 locs1 hP1 hD1 hS1 => ?_)
        have hw : xe_ws δ (μ.1, xe_w μ.2.1 a (va_cpy (xe_I μ b) (xe_I μ a) sp.toNatClampNeg dp.toNatClampNeg n.toNatClampNeg), μ.2.2.1, μ.2.2.2.1, μ.2.2.2.2) = (xe_ws δ μ).set a (xe_ro δ a, .inl (xd_A δ t2, n1, .inl (va_cpy (xe_I μ b) (xe_I μ a) sp.toNatClampNeg dp.toNatClampNeg n.toNatClampNeg))) := by
          refine xe_ws_set rfl hsa ?_ (fun c z hc => xe_ce_congr z (xe_w_ne _ _ hc) rfl rfl)
          rw [xe_ce, xe_ar_I h1 h4]
          show Sum.inl (_, _, Sum.inl (xe_w μ.2.1 a _ a)) = _
          rw [xe_w_self]
        have kk := kk H1 locs1 cells slots lsJ (xe_Rl_set hR hw rfl rfl hP1 hD1 hS1) hl
        rw [hk1] at kk
        exact kk
      · cases hf
    · cases hf
  · cases hf
