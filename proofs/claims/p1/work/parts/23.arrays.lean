/-! the operations on arrays -/
theorem xe_ar_I {δ : xe_Dy} {μ : xe_Mem} {a t : Nat} (h1 : t ≠ 1) (h4 : t < 4) : xe_ar δ μ a t = .inl (xe_I μ a) := by simp [xe_ar, h1, h4]
theorem xe_ar_R {δ : xe_Dy} {μ : xe_Mem} {a t : Nat} (h4 : 4 ≤ t) : xe_ar δ μ a t = .inr (.inr (.inr (.inr (fun i => (xe_R μ a i).map (xe_ro δ))))) := by
  have h1 : t ≠ 1 := by omega
  have h2 : ¬ t < 4 := by omega
  simp [xe_ar, h1, h2]
theorem xe_at_I {δ : xe_Dy} {μ : xe_Mem} {a t n : Nat} (h : (xe_sh μ)[a]? = some (.inr (t, n))) (h1 : t ≠ 1) (h4 : t < 4) : (xe_ws δ μ)[a]? = some (xe_ro δ a, .inl (xd_A δ t, n, .inl (xe_I μ a))) := by
  rw [xe_ws_at h, xe_ce, xe_ar_I h1 h4]
theorem xe_at_L {δ : xe_Dy} {μ : xe_Mem} {a n : Nat} (h : (xe_sh μ)[a]? = some (.inr (1, n))) : (xe_ws δ μ)[a]? = some (xe_ro δ a, .inl (xd_A δ 1, n, .inr (.inl (xe_L μ a)))) := by
  rw [xe_ws_at h, xe_ce]; rfl
theorem xe_at_R {δ : xe_Dy} {μ : xe_Mem} {a t n : Nat} (h : (xe_sh μ)[a]? = some (.inr (t, n))) (h4 : 4 ≤ t) : (xe_ws δ μ)[a]? = some (xe_ro δ a, .inl (xd_A δ t, n, .inr (.inr (.inr (.inr (fun i => (xe_R μ a i).map (xe_ro δ))))))) := by
  rw [xe_ws_at h, xe_ce, xe_ar_R h4]
theorem xe_ws_aI {δ : xe_Dy} {μ : xe_Mem} {a t n i : Nat} (v : Int32) (h : (xe_sh μ)[a]? = some (.inr (t, n))) (h1 : t ≠ 1) (h4 : t < 4) : xe_ws δ (xe_setI μ a i v) = (xe_ws δ μ).set a (xe_ro δ a, .inl (xd_A δ t, n, .inl (upd (xe_I μ a) i v))) := by
  refine xe_ws_set rfl h ?_ (fun b z hb => xe_ce_congr z (xe_u_ne _ _ _ hb) rfl rfl)
  rw [xe_ce, xe_ar_I h1 h4]
  show Sum.inl (xd_A δ t, n, Sum.inl (xe_u (xe_I μ) a i v a)) = _
  rw [xe_u_self]
  rfl
theorem xe_ws_aL {δ : xe_Dy} {μ : xe_Mem} {a n i : Nat} (v : Int64) (h : (xe_sh μ)[a]? = some (.inr (1, n))) : xe_ws δ (xe_setL μ a i v) = (xe_ws δ μ).set a (xe_ro δ a, .inl (xd_A δ 1, n, .inr (.inl (vp_updL (xe_L μ a) i v)))) := by
  refine xe_ws_set rfl h ?_ (fun b z hb => xe_ce_congr z rfl (xe_u_ne _ _ _ hb) rfl)
  show Sum.inl (xd_A δ 1, n, Sum.inr (Sum.inl (xe_u (xe_L μ) a i v a))) = _
  rw [xe_u_self]
  rfl
theorem xe_ws_aR {δ : xe_Dy} {μ : xe_Mem} {a t n i : Nat} (v : Option Nat) (h : (xe_sh μ)[a]? = some (.inr (t, n))) (h4 : 4 ≤ t) : xe_ws δ (xe_setR μ a i v) = (xe_ws δ μ).set a (xe_ro δ a, .inl (xd_A δ t, n, .inr (.inr (.inr (.inr (va_up (fun j => (xe_R μ a j).map (xe_ro δ)) i (v.map (xe_ro δ)))))))) := by
  refine xe_ws_set rfl h ?_ (fun b z hb => xe_ce_congr z rfl rfl (xe_u_ne _ _ _ hb))
  rw [xe_ce, xe_ar_R h4]
  have e : (fun j => (xe_u (xe_R μ) a i v a j).map (xe_ro δ)) = va_up (fun j => (xe_R μ a j).map (xe_ro δ)) i (v.map (xe_ro δ)) := by
    funext j
    by_cases hj : j = i
    · subst hj; simp [xe_u, va_up]
    · simp [xe_u, va_up, hj]
  show Sum.inl (xd_A δ t, n, Sum.inr (Sum.inr (Sum.inr (Sum.inr (fun j => (xe_u (xe_R μ) a i v a j).map (xe_ro δ)))))) = _
  rw [e]
def xe_aldI (t : Nat) : xe_F := fun k ls st μ => match st with
  | .int i :: .ref a :: r => match (xe_sh μ)[a]? with
    | some (.inr q) => if q.1 = t ∧ ¬ (i < 0 ∨ q.2 ≤ i.toNatClampNeg) then some (k + 1, ls, .int (xe_I μ a i.toNatClampNeg) :: r, μ) else none
    | _ => none
  | _ => none
def xe_aldL : xe_F := fun k ls st μ => match st with
  | .int i :: .ref a :: r => match (xe_sh μ)[a]? with
    | some (.inr q) => if q.1 = 1 ∧ ¬ (i < 0 ∨ q.2 ≤ i.toNatClampNeg) then some (k + 1, ls, .long (xe_L μ a i.toNatClampNeg) :: r, μ) else none
    | _ => none
  | _ => none
def xe_aldR (t : Nat) : xe_F := fun k ls st μ => match st with
  | .int i :: .ref a :: r => match (xe_sh μ)[a]? with
    | some (.inr q) => if q.1 = t ∧ ¬ (i < 0 ∨ q.2 ≤ i.toNatClampNeg) then some (k + 1, ls, va_rf (xe_R μ a i.toNatClampNeg) :: r, μ) else none
    | _ => none
  | _ => none
def xe_astI (t : Nat) (g : Int32 → Int32) : xe_F := fun k ls st μ => match st with
  | .int x :: .int i :: .ref a :: r => match (xe_sh μ)[a]? with
    | some (.inr q) => if q.1 = t ∧ ¬ (i < 0 ∨ q.2 ≤ i.toNatClampNeg) then some (k + 1, ls, r, xe_setI μ a i.toNatClampNeg (g x)) else none
    | _ => none
  | _ => none
def xe_astL : xe_F := fun k ls st μ => match st with
  | .long x :: .int i :: .ref a :: r => match (xe_sh μ)[a]? with
    | some (.inr q) => if q.1 = 1 ∧ ¬ (i < 0 ∨ q.2 ≤ i.toNatClampNeg) then some (k + 1, ls, r, xe_setL μ a i.toNatClampNeg x) else none
    | _ => none
  | _ => none
/-- a reference to an object of the class ci, or null, into an array of them -/
def xe_astR (t ci : Nat) : xe_F := fun k ls st μ => match st with
  | .ref v :: .int i :: .ref a :: r => match (xe_sh μ)[a]? with
    | some (.inr q) => if q.1 = t ∧ ¬ (i < 0 ∨ q.2 ≤ i.toNatClampNeg) ∧ (xe_sh μ)[v]? = some (.inl ci) then some (k + 1, ls, r, xe_setR μ a i.toNatClampNeg (some v)) else none
    | _ => none
  | .null :: .int i :: .ref a :: r => match (xe_sh μ)[a]? with
    | some (.inr q) => if q.1 = t ∧ ¬ (i < 0 ∨ q.2 ≤ i.toNatClampNeg) then some (k + 1, ls, r, xe_setR μ a i.toNatClampNeg none) else none
    | _ => none
  | _ => none
def xe_alen : xe_F := fun k ls st μ => match st with
  | .ref a :: r => match (xe_sh μ)[a]? with
    | some (.inr q) => if q.1 < xg_tl.length then some (k + 1, ls, .int (Int32.ofNat q.2) :: r, μ) else none
    | _ => none
  | _ => none
theorem xe_aldI_ok {δ : xe_Dy} {Y : xe_Y} {k pc t : Nat} {ins : Instr} (hk : xe_pc Y k = pc) (hk1 : xe_pc Y (k + 1) = pc + 1) (h1 : t ≠ 1) (h4 : t < 4)
    (row : ∀ {p : Program} {l : Launch} {e : Env} {R : Room} {s : State} {m : MethodId} {args : Array Value} {below : List Frame} {meth : Method} {c : Code} {H : Heap} {locs : List Loc} {cells slots : Nat} {Q : State → Prop} {ls : Array Slot} {rest : List Value} {ws : va_W} {q0 a n : Nat} {f : Nat → Int32} {i : Int32}, p.tables.exec = Jvm.exec → c.code = xy_b Y → va_K (xd_D δ) xg_cl (xe_tys δ) s → va_P (xd_D δ) xg_cl ws H → ws[q0]? = some (a, .inl (xd_A δ t, n, .inl f)) → vp_in i n → W p l e R s m args below meth c H locs cells slots Q (F0 m (pc + 1) ls (.int (f i.toNatClampNeg) :: rest)) → W p l e R s m args below meth c H locs cells slots Q (F0 m pc ls (.int i :: .ref a :: rest))) : xe_OKL δ Y k (xe_aldI t) := by
  intro p l e R s m args below meth c n0 s0 H locs cells slots Q lsJ ls st μ k' ls' st' μ' hC hfr hlo hR hl hf kk
  obtain ⟨hx, hb, hml, hown, hnm, hret, hlk, hts, hK, hE, hhd⟩ := hC
  unfold xe_aldI at hf
  split at hf
  · rename_i i a r
    split at hf
    · rename_i q hsh
      split at hf
      · rename_i hc
        obtain ⟨t', n⟩ := q
        obtain ⟨rfl, hin⟩ := hc
        cases hf
        rw [hk]
        have kk := kk H locs cells slots lsJ hR hl
        rw [hk1] at kk
        exact row hx hb hK hR.1 (xe_at_I hsh h1 h4) hin kk
      · cases hf
    · cases hf
  · cases hf
theorem xo_iaload {δ : xe_Dy} {Y : xe_Y} {k pc t : Nat} (hk : xe_pc Y k = pc) (hk1 : xe_pc Y (k + 1) = pc + 1) (ht : xg_tl[t]? = some .int) (h1 : t ≠ 1) (h4 : t < 4) (hd : decode (xy_b Y) pc = .ok (.iaload, 1)) : xe_OKL δ Y k (xe_aldI t) :=
  xe_aldI_ok (ins := .iaload) hk hk1 h1 h4 (fun hx hb hK hP ha hin kk => va_iald hx hb hK hP _ t ha (xe_tys_get δ ht) hin hd kk)
theorem xo_baload {δ : xe_Dy} {Y : xe_Y} {k pc t : Nat} (hk : xe_pc Y k = pc) (hk1 : xe_pc Y (k + 1) = pc + 1) (ht : xg_tl[t]? = some .byte) (h1 : t ≠ 1) (h4 : t < 4) (hd : decode (xy_b Y) pc = .ok (.baload, 1)) : xe_OKL δ Y k (xe_aldI t) :=
  xe_aldI_ok (ins := .iaload) hk hk1 h1 h4 (fun hx hb hK hP ha hin kk => va_bald hx hb hK hP _ t ha (xe_tys_get δ ht) hin hd kk)
theorem xo_zaload {δ : xe_Dy} {Y : xe_Y} {k pc t : Nat} (hk : xe_pc Y k = pc) (hk1 : xe_pc Y (k + 1) = pc + 1) (ht : xg_tl[t]? = some .boolean) (h1 : t ≠ 1) (h4 : t < 4) (hd : decode (xy_b Y) pc = .ok (.baload, 1)) : xe_OKL δ Y k (xe_aldI t) :=
  xe_aldI_ok (ins := .iaload) hk hk1 h1 h4 (fun hx hb hK hP ha hin kk => va_zald hx hb hK hP _ t ha (xe_tys_get δ ht) hin hd kk)
theorem xo_laload {δ : xe_Dy} {Y : xe_Y} {k pc : Nat} (hk : xe_pc Y k = pc) (hk1 : xe_pc Y (k + 1) = pc + 1) (ht : xg_tl[1]? = some .long) (hd : decode (xy_b Y) pc = .ok (.laload, 1)) : xe_OKL δ Y k xe_aldL := by
  intro p l e R s m args below meth c n0 s0 H locs cells slots Q lsJ ls st μ k' ls' st' μ' hC hfr hlo hR hl hf kk
  obtain ⟨hx, hb, hml, hown, hnm, hret, hlk, hts, hK, hE, hhd⟩ := hC
  unfold xe_aldL at hf
  split at hf
  · rename_i i a r
    split at hf
    · rename_i q hsh
      split at hf
      · rename_i hc
        obtain ⟨t', n⟩ := q
        obtain ⟨rfl, hin⟩ := hc
        cases hf
        rw [hk]
        have kk := kk H locs cells slots lsJ hR hl
        rw [hk1] at kk
        exact va_lald hx hb hK hR.1 a 1 (xe_at_L hsh) (xe_tys_get δ ht) hin hd kk
      · cases hf
    · cases hf
  · cases hf
theorem xo_aaload {δ : xe_Dy} {Y : xe_Y} {k pc t : Nat} {ty : FieldType} (hk : xe_pc Y k = pc) (hk1 : xe_pc Y (k + 1) = pc + 1) (ht : xg_tl[t]? = some ty) (hty : ty.isReference = true) (h4 : 4 ≤ t) (hd : decode (xy_b Y) pc = .ok (.aaload, 1)) : xe_OKL δ Y k (xe_aldR t) := by
  intro p l e R s m args below meth c n0 s0 H locs cells slots Q lsJ ls st μ k' ls' st' μ' hC hfr hlo hR hl hf kk
  obtain ⟨hx, hb, hml, hown, hnm, hret, hlk, hts, hK, hE, hhd⟩ := hC
  unfold xe_aldR at hf
  split at hf
  · rename_i i a r
    split at hf
    · rename_i q hsh
      split at hf
      · rename_i hc
        obtain ⟨t', n⟩ := q
        obtain ⟨rfl, hin⟩ := hc
        cases hf
        rw [hk]
        have kk := kk H locs cells slots lsJ hR hl
        rw [hk1, List.map_cons, xe_v_rf] at kk
        have hlt : i.toNatClampNeg < n := Nat.not_le.mp fun q => hin (Or.inr q)
        exact W.aald (v := va_rf ((xe_R μ a i.toNatClampNeg).map (xe_ro δ))) (ty := ty) hx hb (hR.1 a _ (xe_at_R hsh h4)) ((hK.2 _ _ (xe_tys_get δ ht)).1 n (fun j => va_rf ((xe_R μ a j).map (xe_ro δ)))) hty (fun q => by cases q) (by show ¬ (i < 0 ∨ (arrV _ _ _).slots.size ≤ _); rw [arrV_size]; exact hin) (by show (arrV _ _ _).slots[_]? = _; rw [arrV_read _ _ hlt]) rfl rfl hd kk
      · cases hf
    · cases hf
  · cases hf
theorem xe_Rl_set {δ : xe_Dy} {R : Room} {s : State} {n0 s0 cells slots : Nat} {μ μ' : xe_Mem} {H H' : Heap} {locs locs' : List Loc} {a : Nat} {q : Nat × va_E} (hR : xe_Rl δ R s n0 s0 μ H locs cells slots) (hw : xe_ws δ μ' = (xe_ws δ μ).set a q) (h1 : xe_sh μ' = xe_sh μ) (h2 : xe_sl μ' = xe_sl μ) (hP : va_P (xd_D δ) xg_cl ((xe_ws δ μ).set a q) H') (hD : va_D (xe_A δ) ((xe_ws δ μ).set a q)) (hS : va_S (xe_A δ) s.heap H' locs') : xe_Rl δ R s n0 s0 μ' H' locs' cells slots := by
  obtain ⟨-, -, -, hsz, hCT, hST, hcl, hsl, hRc, hRs⟩ := hR
  rw [← hw] at hP hD
  exact ⟨hP, hD, hS, hsz, by rw [h1]; exact hCT, by rw [h2]; exact hST, by rw [h1]; exact hcl, by rw [h2]; exact hsl, hRc, hRs⟩
theorem xe_astI_ok {δ : xe_Dy} {Y : xe_Y} {k pc t : Nat} {g : Int32 → Int32} (hk : xe_pc Y k = pc) (hk1 : xe_pc Y (k + 1) = pc + 1) (h1 : t ≠ 1) (h4 : t < 4)
    (row : ∀ {p : Program} {l : Launch} {e : Env} {R : Room} {s : State} {m : MethodId} {args : Array Value} {below : List Frame} {meth : Method} {c : Code} {H : Heap} {locs : List Loc} {cells slots : Nat} {Q : State → Prop} {ls : Array Slot} {rest : List Value} {ws : va_W} {q0 a n : Nat} {f : Nat → Int32} {i x : Int32}, p.tables.exec = Jvm.exec → c.code = xy_b Y → va_K (xd_D δ) xg_cl (xe_tys δ) s → va_P (xd_D δ) xg_cl ws H → va_D (xe_A δ) ws → va_S (xe_A δ) s.heap H locs → ws[q0]? = some (a, .inl (xd_A δ t, n, .inl f)) → vp_in i n →
      (∀ (H1 : Heap) (locs1 : List Loc), va_P (xd_D δ) xg_cl (ws.set q0 (a, .inl (xd_A δ t, n, .inl (upd f i.toNatClampNeg (g x))))) H1 → va_D (xe_A δ) (ws.set q0 (a, .inl (xd_A δ t, n, .inl (upd f i.toNatClampNeg (g x))))) → va_S (xe_A δ) s.heap H1 locs1 → W p l e R s m args below meth c H1 locs1 cells slots Q (F0 m (pc + 1) ls rest)) → W p l e R s m args below meth c H locs cells slots Q (F0 m pc ls (.int x :: .int i :: .ref a :: rest))) : xe_OKL δ Y k (xe_astI t g) := by
  intro p l e R s m args below meth c n0 s0 H locs cells slots Q lsJ ls st μ k' ls' st' μ' hC hfr hlo hR hl hf kk
  obtain ⟨hx, hb, hml, hown, hnm, hret, hlk, hts, hK, hE, hhd⟩ := hC
  unfold xe_astI at hf
  split at hf
  · rename_i x i a r
    split at hf
    · rename_i q hsh
      split at hf
      · rename_i hc
        obtain ⟨t', n⟩ := q
        obtain ⟨rfl, hin⟩ := hc
        cases hf
        rw [hk]
        refine row hx hb hK hR.1 hR.2.1 hR.2.2.1 (xe_at_I hsh h1 h4) hin (fun H1 locs1 hP1 hD1 hS1 => ?_)
        have kk := kk H1 locs1 cells slots lsJ (xe_Rl_set hR (xe_ws_aI (g x) hsh h1 h4) rfl rfl hP1 hD1 hS1) hl
        rw [hk1] at kk
        exact kk
      · cases hf
    · cases hf
  · cases hf
theorem xo_iastore {δ : xe_Dy} {Y : xe_Y} {k pc t : Nat} (hk : xe_pc Y k = pc) (hk1 : xe_pc Y (k + 1) = pc + 1) (ht : xg_tl[t]? = some .int) (h1 : t ≠ 1) (h4 : t < 4) (hd : decode (xy_b Y) pc = .ok (.iastore, 1)) : xe_OKL δ Y k (xe_astI t (fun x => x)) :=
  xe_astI_ok hk hk1 h1 h4 (fun hx hb hK hP hD hS ha hin kk => va_iast hx hb hK hP hD hS _ t ha (xe_tys_get δ ht) hin hd kk)
theorem xo_bastore {δ : xe_Dy} {Y : xe_Y} {k pc t : Nat} (hk : xe_pc Y k = pc) (hk1 : xe_pc Y (k + 1) = pc + 1) (ht : xg_tl[t]? = some .byte) (h1 : t ≠ 1) (h4 : t < 4) (hd : decode (xy_b Y) pc = .ok (.bastore, 1)) : xe_OKL δ Y k (xe_astI t (vp_nar .byte)) :=
  xe_astI_ok hk hk1 h1 h4 (fun hx hb hK hP hD hS ha hin kk => va_bast hx hb hK hP hD hS _ t ha (xe_tys_get δ ht) hin hd kk)
theorem xo_zastore {δ : xe_Dy} {Y : xe_Y} {k pc t : Nat} (hk : xe_pc Y k = pc) (hk1 : xe_pc Y (k + 1) = pc + 1) (ht : xg_tl[t]? = some .boolean) (h1 : t ≠ 1) (h4 : t < 4) (hd : decode (xy_b Y) pc = .ok (.bastore, 1)) : xe_OKL δ Y k (xe_astI t (vp_nar .boolean)) :=
  xe_astI_ok hk hk1 h1 h4 (fun hx hb hK hP hD hS ha hin kk => va_zast hx hb hK hP hD hS _ t ha (xe_tys_get δ ht) hin hd kk)
theorem xo_lastore {δ : xe_Dy} {Y : xe_Y} {k pc : Nat} (hk : xe_pc Y k = pc) (hk1 : xe_pc Y (k + 1) = pc + 1) (ht : xg_tl[1]? = some .long) (hd : decode (xy_b Y) pc = .ok (.lastore, 1)) : xe_OKL δ Y k xe_astL := by
  intro p l e R s m args below meth c n0 s0 H locs cells slots Q lsJ ls st μ k' ls' st' μ' hC hfr hlo hR hl hf kk
  obtain ⟨hx, hb, hml, hown, hnm, hret, hlk, hts, hK, hE, hhd⟩ := hC
  unfold xe_astL at hf
  split at hf
  · rename_i x i a r
    split at hf
    · rename_i q hsh
      split at hf
      · rename_i hc
        obtain ⟨t', n⟩ := q
        obtain ⟨rfl, hin⟩ := hc
        cases hf
        rw [hk]
        refine va_last hx hb hK hR.1 hR.2.1 hR.2.2.1 a 1 (xe_at_L hsh) (xe_tys_get δ ht) hin hd (fun H1 locs1 hP1 hD1 hS1 => ?_)
        have kk := kk H1 locs1 cells slots lsJ (xe_Rl_set hR (xe_ws_aL x hsh) rfl rfl hP1 hD1 hS1) hl
        rw [hk1] at kk
        exact kk
      · cases hf
    · cases hf
  · cases hf
theorem xo_aastore {δ : xe_Dy} {Y : xe_Y} {k pc t ci : Nat} {C : String} {T : u_T} {N : Nat} (hk : xe_pc Y k = pc) (hk1 : xe_pc Y (k + 1) = pc + 1) (hc : xg_cl[ci]? = some (C, T, N)) (ht : xg_tl[t]? = some (.object C)) (h4 : 4 ≤ t) (hd : decode (xy_b Y) pc = .ok (.aastore, 1)) : xe_OKL δ Y k (xe_astR t ci) := by
  intro p l e R s m args below meth c n0 s0 H locs cells slots Q lsJ ls st μ k' ls' st' μ' hC hfr hlo hR hl hf kk
  obtain ⟨hx, hb, hml, hown, hnm, hret, hlk, hts, hK, hE, hhd⟩ := hC
  unfold xe_astR at hf
  split at hf
  · rename_i v i a r
    split at hf
    · rename_i q hsh
      split at hf
      · rename_i hq
        obtain ⟨t', n⟩ := q
        obtain ⟨rfl, hin, hv⟩ := hq
        cases hf
        rw [hk]
        refine va_astq (r := (C, T, N)) hx hb hK hR.1 hR.2.1 hR.2.2.1 a _ v ci (xe_at_R hsh h4) (xe_tys_get δ ht) (xe_ws_at hv) hc hin hd (fun H1 locs1 hP1 hD1 hS1 => ?_)
        have kk := kk H1 locs1 cells slots lsJ (xe_Rl_set hR (xe_ws_aR (some v) hsh h4) rfl rfl hP1 hD1 hS1) hl
        rw [hk1] at kk
        exact kk
      · cases hf
    · cases hf
  · rename_i i a r
    split at hf
    · rename_i q hsh
      split at hf
      · rename_i hq
        obtain ⟨t', n⟩ := q
        obtain ⟨rfl, hin⟩ := hq
        cases hf
        rw [hk]
        refine va_astqN hx hb hK hR.1 hR.2.1 hR.2.2.1 a _ (xe_at_R hsh h4) (xe_tys_get δ ht) hin hd (fun H1 locs1 hP1 hD1 hS1 => ?_)
        have kk := kk H1 locs1 cells slots lsJ (xe_Rl_set hR (xe_ws_aR none hsh h4) rfl rfl hP1 hD1 hS1) hl
        rw [hk1] at kk
        exact kk
      · cases hf
    · cases hf
  · cases hf
theorem xo_alen {δ : xe_Dy} {Y : xe_Y} {k pc : Nat} (hk : xe_pc Y k = pc) (hk1 : xe_pc Y (k + 1) = pc + 1) (hd : decode (xy_b Y) pc = .ok (.arraylength, 1)) : xe_OKL δ Y k xe_alen := by
  intro p l e R s m args below meth c n0 s0 H locs cells slots Q lsJ ls st μ k' ls' st' μ' hC hfr hlo hR hl hf kk
  obtain ⟨hx, hb, hml, hown, hnm, hret, hlk, hts, hK, hE, hhd⟩ := hC
  unfold xe_alen at hf
  split at hf
  · rename_i a r
    split at hf
    · rename_i q hsh
      split at hf
      · rename_i hq
        cases hf
        rw [hk]
        have kk := kk H locs cells slots lsJ hR hl
        rw [hk1] at kk
        have ht : xg_tl[q.1]? = some xg_tl[q.1] := List.getElem?_eq_getElem hq
        exact va_alen (x := (q.2, xe_ar δ μ a q.1)) hx hb hK hR.1 a q.1 (xe_ws_at hsh) (xe_tys_get δ ht) rfl hd kk
      · cases hf
    · cases hf
  · cases hf
