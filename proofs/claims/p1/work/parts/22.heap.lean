/-! the operations on the heap -/
theorem xe_Wz {p : Program} {l : Launch} {e : Env} {R : Room} {s : State} {m : MethodId} {args : Array Value} {below : List Frame} {meth : Method} {c : Code} {H : Heap} {locs : List Loc} {cells slots : Nat} {Q : State → Prop} {g : JFrame} (h : H.size ≤ s.heap.size + cells → W p l e R s m args below meth c H locs cells slots Q g) : W p l e R s m args below meth c H locs cells slots Q g :=
  fun T hT X => h (by rw [← hT]; exact X.heapSize) T hT X
theorem xe_ro_own (δ : xe_Dy) {a : Nat} (h : a < 1000000) : xe_ro δ a = xd_b δ + a := if_pos h
def xg_ok (ci : Nat) (C : String) (T : u_T) (N : Nat) : Prop := xg_cl[ci]? = some (C, T, N) ∧ (∀ w ∈ u_ws C T N, w ∈ xg_tb) ∧ (∀ k, k < N → parseFieldDescriptor (T k).2.2.1 = some (xg_ft ci k)) ∧ (∀ a, a < N → ∀ b, b < N → a ≠ b → (T a).2.1 ≠ (T b).2.1)
theorem xg_ok_N {ci : Nat} {C : String} {T : u_T} {N : Nat} (h : xg_ok ci C T N) : xe_N ci = N := by simp [xe_N, h.1]
/-- 0 an int or what the stack holds as one, 1 a long, 2 a reference -/
def xe_k : FieldType → Nat
  | .long => 1
  | .object _ => 2
  | .array _ => 2
  | .float => 3
  | .double => 3
  | _ => 0
theorem xe_fv_I {δ : xe_Dy} {μ : xe_Mem} {a k : Nat} {ty : FieldType} (h : xe_k ty = 0) : xe_fv δ μ a k ty = .int (xe_I μ a k) := by
  cases ty <;> first | rfl | cases h
theorem xe_fv_R {δ : xe_Dy} {μ : xe_Mem} {a k : Nat} {ty : FieldType} (h : xe_k ty = 2) : xe_fv δ μ a k ty = va_rf ((xe_R μ a k).map (xe_ro δ)) := by
  cases ty <;> first | rfl | cases h
def xe_gtI (ci j : Nat) : xe_F := fun k ls st μ => match st with
  | .ref a :: r => if (xe_sh μ)[a]? = some (.inl ci) then some (k + 1, ls, .int (xe_I μ a j) :: r, μ) else none
  | _ => none
def xe_gtR (ci j : Nat) : xe_F := fun k ls st μ => match st with
  | .ref a :: r => if (xe_sh μ)[a]? = some (.inl ci) then some (k + 1, ls, va_rf (xe_R μ a j) :: r, μ) else none
  | _ => none
/-- how a field is linked: as any, or as a nest mate's private one -/
def xe_link (own : String) (index : Nat) (q : String × String × String × Bool) : Option String → Cond
  | none => .fieldLink own index q.1 q.2.1 q.2.2.1
  | some host => .fieldLinkNest own index q.1 q.2.1 q.2.2.1 host
theorem xo_gtI {δ : xe_Dy} {Y : xe_Y} {k pc : Nat} (hk : xe_pc Y k = pc) (hk1 : xe_pc Y (k + 1) = pc + 3) {ci j index N : Nat} {C : String} {T : u_T} {nest : Option String} (hc : xg_ok ci C T N) (hj : j < N) (hty : xe_k (xg_ft ci j) = 0) (hlink : xe_link (xy_n Y).cls index (T j) nest ∈ xg_tb) (hd : decode (xy_b Y) pc = .ok (.getfield index, 3)) : xe_OKL δ Y k (xe_gtI ci j) := by
  intro p l e R s m args below meth c n0 s0 H locs cells slots Q lsJ ls st μ k' ls' st' μ' hC hfr hlo hR hl hf kk
  obtain ⟨hx, hb, hml, hown, hnm, hret, hlk, hts, hK, hE, hhd⟩ := hC
  unfold xe_gtI at hf
  split at hf
  · rename_i a r
    split at hf
    · rename_i hsh
      cases hf
      rw [hk]
      have kk := kk H locs cells slots lsJ hR hl
      rw [hk1] at kk
      have hv : (xe_fs δ μ a ci)[j]? = some (Value.int (xe_I μ a j)) := by
        rw [xe_fs_get δ μ a ci j (by rw [xg_ok_N hc]; exact hj), xe_fv_I hty]
      cases nest with
      | none => exact va_get hx hb hts hc.2.1 hown hK hR.1 a (xe_ws_at hsh) hc.1 j hj (hts _ hlink) (fun _ h => h) hv hd kk
      | some host => exact va_getN hx hb hts hc.2.1 hown hK hR.1 a (xe_ws_at hsh) hc.1 j hj (hts _ hlink) (fun _ h => h) hv hd kk
    · cases hf
  · cases hf
theorem xo_gtR {δ : xe_Dy} {Y : xe_Y} {k pc : Nat} (hk : xe_pc Y k = pc) (hk1 : xe_pc Y (k + 1) = pc + 3) {ci j index N : Nat} {C : String} {T : u_T} {nest : Option String} (hc : xg_ok ci C T N) (hj : j < N) (hty : xe_k (xg_ft ci j) = 2) (hlink : xe_link (xy_n Y).cls index (T j) nest ∈ xg_tb) (hd : decode (xy_b Y) pc = .ok (.getfield index, 3)) : xe_OKL δ Y k (xe_gtR ci j) := by
  intro p l e R s m args below meth c n0 s0 H locs cells slots Q lsJ ls st μ k' ls' st' μ' hC hfr hlo hR hl hf kk
  obtain ⟨hx, hb, hml, hown, hnm, hret, hlk, hts, hK, hE, hhd⟩ := hC
  unfold xe_gtR at hf
  split at hf
  · rename_i a r
    split at hf
    · rename_i hsh
      cases hf
      rw [hk]
      have kk := kk H locs cells slots lsJ hR hl
      rw [hk1, List.map_cons, xe_v_rf] at kk
      have hv : (xe_fs δ μ a ci)[j]? = some (va_rf ((xe_R μ a j).map (xe_ro δ))) := by
        rw [xe_fs_get δ μ a ci j (by rw [xg_ok_N hc]; exact hj), xe_fv_R hty]
      cases nest with
      | none => exact va_get hx hb hts hc.2.1 hown hK hR.1 a (xe_ws_at hsh) hc.1 j hj (hts _ hlink) (fun _ h => h) hv hd kk
      | some host => exact va_getN hx hb hts hc.2.1 hown hK hR.1 a (xe_ws_at hsh) hc.1 j hj (hts _ hlink) (fun _ h => h) hv hd kk
    · cases hf
  · cases hf
/-- what a put of an int, of a reference leaves of the cells -/
theorem xe_ws_I {δ : xe_Dy} {μ : xe_Mem} {a ci j : Nat} (v : Int32) (hsh : (xe_sh μ)[a]? = some (.inl ci)) (hty : xe_k (xg_ft ci j) = 0) : xe_ws δ (xe_setI μ a j v) = (xe_ws δ μ).set a (xe_ro δ a, .inr (ci, (xe_fs δ μ a ci).set j (.int v))) := by
  refine xe_ws_set rfl hsh ?_ (fun b z hb => xe_ce_congr z (xe_u_ne _ _ _ hb) rfl rfl)
  show Sum.inr (ci, xe_fs δ (xe_setI μ a j v) a ci) = _
  rw [xe_fs_set (μ := μ) (k := j) (v := .int v)]
  · rw [xe_fv_I hty]; simp [xe_u, xe_I, xe_setI]
  · intro i ty hi
    cases ty <;> simp [xe_fv, xe_u, hi, xe_I, xe_L, xe_R, xe_setI]
theorem xe_ws_R {δ : xe_Dy} {μ : xe_Mem} {a ci j : Nat} (v : Option Nat) (hsh : (xe_sh μ)[a]? = some (.inl ci)) (hty : xe_k (xg_ft ci j) = 2) : xe_ws δ (xe_setR μ a j v) = (xe_ws δ μ).set a (xe_ro δ a, .inr (ci, (xe_fs δ μ a ci).set j (va_rf (v.map (xe_ro δ))))) := by
  refine xe_ws_set rfl hsh ?_ (fun b z hb => xe_ce_congr z rfl rfl (xe_u_ne _ _ _ hb))
  show Sum.inr (ci, xe_fs δ (xe_setR μ a j v) a ci) = _
  rw [xe_fs_set (μ := μ) (k := j) (v := va_rf (v.map (xe_ro δ)))]
  · rw [xe_fv_R hty]; simp [xe_u, xe_R, xe_setR]
  · intro i ty hi
    cases ty <;> simp [xe_fv, xe_u, hi, xe_I, xe_L, xe_R, xe_setR]
def xe_ptI (ci j : Nat) : xe_F := fun k ls st μ => match st with
  | .int v :: .ref a :: r => if (xe_sh μ)[a]? = some (.inl ci) then some (k + 1, ls, r, xe_setI μ a j v) else none
  | _ => none
def xe_ptZ (ci j : Nat) : xe_F := fun k ls st μ => match st with
  | .int v :: .ref a :: r => if (xe_sh μ)[a]? = some (.inl ci) ∧ (v = 0 ∨ v = 1) then some (k + 1, ls, r, xe_setI μ a j v) else none
  | _ => none
def xe_ptR (ci j : Nat) : xe_F := fun k ls st μ => match st with
  | .ref v :: .ref a :: r => if (xe_sh μ)[a]? = some (.inl ci) then some (k + 1, ls, r, xe_setR μ a j (some v)) else none
  | .null :: .ref a :: r => if (xe_sh μ)[a]? = some (.inl ci) then some (k + 1, ls, r, xe_setR μ a j none) else none
  | _ => none
/-- how a field may be written: as any, as a nest mate's private one, as a final one in its own constructor -/
def xe_may (Y : xe_Y) (index : Nat) (q : String × String × String × Bool) (nest : Option String) : Prop :=
  xe_link (xy_n Y).cls index q nest ∈ xg_tb ∧ (q.2.2.2 = false ∨ (nest = none ∧ q.2.2.2 = true ∧ (xy_n Y).name = "<init>" ∧ q.1 = (xy_n Y).cls))
section
variable {δ : xe_Dy} {Y : xe_Y} {p : Program} {l : Launch} {e : Env} {R : Room} {s : State} {m : MethodId} {args : Array Value} {below : List Frame} {meth : Method} {c : Code} {n0 s0 : Nat} {H : Heap} {locs : List Loc} {cells slots : Nat} {Q : State → Prop} {lsJ : Array Slot} {μ : xe_Mem}
theorem xe_put {pc ci j index N a : Nat} {C : String} {T : u_T} {nest : Option String} {rest : List Value} {v : Value} {μ' : xe_Mem} (hC : xe_Cx δ Y p s m args meth c) (hR : xe_Rl δ R s n0 s0 μ H locs cells slots) (hc : xg_ok ci C T N) (hj : j < N) (hm : xe_may Y index (T j) nest) (hd : decode (xy_b Y) pc = .ok (.putfield index, 3)) (hsh : (xe_sh μ)[a]? = some (.inl ci)) (hn : narrow (xg_ft ci j) v = v) (hfit : fits (xg_ft ci j) v = true) (hw : xe_ws δ μ' = (xe_ws δ μ).set a (xe_ro δ a, .inr (ci, (xe_fs δ μ a ci).set j v))) (h1 : xe_sh μ' = xe_sh μ) (h2 : xe_sl μ' = xe_sl μ)
    (kk : ∀ (H' : Heap) (locs' : List Loc), xe_Rl δ R s n0 s0 μ' H' locs' cells slots → W p l e R s m args below meth c H' locs' cells slots Q (F0 m (pc + 3) lsJ rest)) : W p l e R s m args below meth c H locs cells slots Q (F0 m pc lsJ (v :: .ref (xe_ro δ a) :: rest)) := by
  obtain ⟨hx, hb, hml, hown, hnm, hret, hlk, hts, hK, hE, hhd⟩ := hC
  obtain ⟨hP, hD, hS, hsz, hCT, hST, hcl, hsl, hRc, hRs⟩ := hR
  have hlen : j < (xe_fs δ μ a ci).length := by rw [xe_fs_len, xg_ok_N hc]; exact hj
  have go : ∀ (H1 : Heap) (locs1 : List Loc), va_P (xd_D δ) xg_cl ((xe_ws δ μ).set a (xe_ro δ a, .inr (ci, (xe_fs δ μ a ci).set j v))) H1 → va_D (xe_A δ) ((xe_ws δ μ).set a (xe_ro δ a, .inr (ci, (xe_fs δ μ a ci).set j v))) → va_S (xe_A δ) s.heap H1 locs1 → W p l e R s m args below meth c H1 locs1 cells slots Q (F0 m (pc + 3) lsJ rest) := by
    intro H1 locs1 hP1 hD1 hS1
    rw [← hw] at hP1 hD1
    exact kk H1 locs1 ⟨hP1, hD1, hS1, hsz, by rw [h1]; exact hCT, by rw [h2]; exact hST, by rw [h1]; exact hcl, by rw [h2]; exact hsl, hRc, hRs⟩
  rcases hm with ⟨hlink, hfin | ⟨rfl, hfin, hini, hdecl⟩⟩
  · cases nest with
    | none => exact va_put hx hb hts hc.2.1 (xg_ft ci) hc.2.2.1 hc.2.2.2 hown hK hP hD hS a (xe_ws_at hsh) hc.1 j hj (hts _ hlink) (fun _ h => h) hfin (hc.2.2.1 j hj) hn hfit hlen hd go
    | some host => exact va_putN hx hb hts hc.2.1 (xg_ft ci) hc.2.2.1 hc.2.2.2 hown hK hP hD hS a (xe_ws_at hsh) hc.1 j hj (hts _ hlink) (fun _ h => h) hfin (hc.2.2.1 j hj) hn hfit hlen hd go
  · exact va_putF hx hb hts hc.2.1 (xg_ft ci) hc.2.2.1 hc.2.2.2 hown hK hP hD hS a (xe_ws_at hsh) hc.1 j hj (hts _ hlink) (fun _ h => h) hfin (hnm.trans hini) hdecl (hc.2.2.1 j hj) hn hfit hlen hd go
end
theorem xo_ptI {δ : xe_Dy} {Y : xe_Y} {k pc : Nat} (hk : xe_pc Y k = pc) (hk1 : xe_pc Y (k + 1) = pc + 3) {ci j index N : Nat} {C : String} {T : u_T} {nest : Option String} (hc : xg_ok ci C T N) (hj : j < N) (hty : xg_ft ci j = .int) (hm : xe_may Y index (T j) nest) (hd : decode (xy_b Y) pc = .ok (.putfield index, 3)) : xe_OKL δ Y k (xe_ptI ci j) := by
  intro p l e R s m args below meth c n0 s0 H locs cells slots Q lsJ ls st μ k' ls' st' μ' hC hfr hlo hR hl hf kk
  unfold xe_ptI at hf
  split at hf
  · rename_i v a r
    split at hf
    · rename_i hsh
      cases hf
      rw [hk]
      refine xe_put hC hR hc hj hm hd hsh (by rw [hty]; rfl) (by rw [hty]; rfl) (xe_ws_I v hsh (by rw [hty]; rfl)) rfl rfl (fun H' locs' hR' => ?_)
      have kk := kk H' locs' cells slots lsJ hR' hl
      rw [hk1] at kk
      exact kk
    · cases hf
  · cases hf
theorem xo_ptZ {δ : xe_Dy} {Y : xe_Y} {k pc : Nat} (hk : xe_pc Y k = pc) (hk1 : xe_pc Y (k + 1) = pc + 3) {ci j index N : Nat} {C : String} {T : u_T} {nest : Option String} (hc : xg_ok ci C T N) (hj : j < N) (hty : xg_ft ci j = .boolean) (hm : xe_may Y index (T j) nest) (hd : decode (xy_b Y) pc = .ok (.putfield index, 3)) : xe_OKL δ Y k (xe_ptZ ci j) := by
  intro p l e R s m args below meth c n0 s0 H locs cells slots Q lsJ ls st μ k' ls' st' μ' hC hfr hlo hR hl hf kk
  unfold xe_ptZ at hf
  split at hf
  · rename_i v a r
    split at hf
    · rename_i hsh
      obtain ⟨hsh, hv⟩ := hsh
      cases hf
      rw [hk]
      refine xe_put (v := .int v) hC hR hc hj hm hd hsh (by rw [hty]; rcases hv with rfl | rfl <;> decide) (by rw [hty]; rcases hv with rfl | rfl <;> decide) (xe_ws_I v hsh (by rw [hty]; rfl)) rfl rfl (fun H' locs' hR' => ?_)
      have kk := kk H' locs' cells slots lsJ hR' hl
      rw [hk1] at kk
      exact kk
    · cases hf
  · cases hf
theorem xe_fitR {ty : FieldType} (h : xe_k ty = 2) (r : Option Nat) : narrow ty (va_rf r) = va_rf r ∧ fits ty (va_rf r) = true := by
  cases ty <;> cases r <;> first | exact ⟨rfl, rfl⟩ | cases h
theorem xo_ptR {δ : xe_Dy} {Y : xe_Y} {k pc : Nat} (hk : xe_pc Y k = pc) (hk1 : xe_pc Y (k + 1) = pc + 3) {ci j index N : Nat} {C : String} {T : u_T} {nest : Option String} (hc : xg_ok ci C T N) (hj : j < N) (hty : xe_k (xg_ft ci j) = 2) (hm : xe_may Y index (T j) nest) (hd : decode (xy_b Y) pc = .ok (.putfield index, 3)) : xe_OKL δ Y k (xe_ptR ci j) := by
  intro p l e R s m args below meth c n0 s0 H locs cells slots Q lsJ ls st μ k' ls' st' μ' hC hfr hlo hR hl hf kk
  unfold xe_ptR at hf
  split at hf
  · rename_i v a r
    split at hf
    · rename_i hsh
      cases hf
      rw [hk]
      have hq := xe_fitR hty (some (xe_ro δ v))
      refine xe_put (v := va_rf (some (xe_ro δ v))) hC hR hc hj hm hd hsh hq.1 hq.2 (xe_ws_R (some v) hsh hty) rfl rfl (fun H' locs' hR' => ?_)
      have kk := kk H' locs' cells slots lsJ hR' hl
      rw [hk1] at kk
      exact kk
    · cases hf
  · rename_i a r
    split at hf
    · rename_i hsh
      cases hf
      rw [hk]
      have hq := xe_fitR hty none
      refine xe_put (v := va_rf none) hC hR hc hj hm hd hsh hq.1 hq.2 (xe_ws_R none hsh hty) rfl rfl (fun H' locs' hR' => ?_)
      have kk := kk H' locs' cells slots lsJ hR' hl
      rw [hk1] at kk
      exact kk
    · cases hf
  · cases hf
