/-! the calls' own instructions -/
theorem xe_kp_F (a : String) (i : Nat) (b n d h : String) : xe_kp (.fieldLinkNest a i b n d h) := fun _ _ _ _ hW hb => va_Nw.use rfl (va_Nw.warmF hW (va_Nw.of rfl hb))
theorem xe_kp_M (a : String) (i : Nat) (x : MethodName) (h : String) : xe_kp (.methodLinkNest a i x h) := fun _ _ _ _ hW hb => va_Nw.use rfl (va_Nw.warmM hW (va_Nw.of rfl hb))
def xe_mlink (own : String) (index : Nat) (x : MethodName) : Option String → Cond
  | none => .methodLink own index x
  | some host => .methodLinkNest own index x host
def xe_plain (x : MethodName) : Prop := x.cls ≠ "java/lang/invoke/MethodHandle" ∧ x.cls ≠ "java/lang/invoke/VarHandle"
theorem xe_rcv_ref {μ : xe_Mem} {ci : Nat} {as : List Value} (h : xe_rcv μ (ci + 1) as = true) (hci : ci < 100) : ∃ a as', as = .ref a :: as' ∧ (xe_sh μ)[a]? = some (.inl ci) := by
  unfold xe_rcv at h
  split at h
  · rename_i h0
    cases h0
  · rename_i z h0
    cases h0
    split at h
    · rename_i a as'
      rw [if_neg (by omega), if_neg (by omega)] at h
      exact ⟨a, as', rfl, of_decide_eq_true h⟩
    · cases h
theorem xe_rcv_K {μ : xe_Mem} {as : List Value} (h : xe_rcv μ 101 as = true) : ∃ a as', as = .ref a :: as' ∧ 1000001 ≤ a ∧ a < 1000030 := by
  unfold xe_rcv at h
  split at h
  · rename_i h0
    cases h0
  · rename_i z h0
    cases h0
    split at h
    · rename_i a as'
      rw [if_pos rfl] at h
      exact ⟨a, as', rfl, of_decide_eq_true h⟩
    · cases h
theorem xe_rcv_S {μ : xe_Mem} {as : List Value} (h : xe_rcv μ 102 as = true) : ∃ a as', as = .ref a :: as' ∧ 1000031 ≤ a ∧ a < 1000060 := by
  unfold xe_rcv at h
  split at h
  · rename_i h0
    cases h0
  · rename_i z h0
    cases h0
    split at h
    · rename_i a as'
      rw [if_neg (by decide), if_pos rfl] at h
      exact ⟨a, as', rfl, of_decide_eq_true h⟩
    · cases h
theorem xg_cl_lt {ci : Nat} {q : vw_C} (h : xg_cl[ci]? = some q) : ci < 100 := by
  have h1 := (List.getElem?_eq_some_iff.mp h).1
  have h2 : xg_cl.length = 15 := rfl
  omega
theorem xc_virtualG {δ : xe_Dy} {Y Z : xe_Y} {k pc index na : Nat} {C : String} {z rc : Nat} {nest : Option String} (hk : xe_pc Y k = pc) (hk1 : xe_pc Y (k + 1) = pc + 3) (hd : decode (xy_b Y) pc = .ok (.invokevirtual index, 3)) (hrc : ∀ (s : State) (R : Room) (n0 s0 : Nat) (locs : List Loc) (cells slots : Nat) (μ : xe_Mem) (H : Heap) (as : List Value), va_K (xd_D δ) xg_cl (xe_tys δ) s → xg_EX δ s s.heap → xe_Rl δ R s n0 s0 μ H locs cells slots → xe_rcv μ rc as = true → ∃ a as' cell, as = .ref a :: as' ∧ H[xe_ro δ a]? = some cell ∧ cell.vm.isStatics = false ∧ s.vm.findClass C = some cell.cls) (w1 : xe_mlink (xy_n Y).cls index (xy_n Z) nest ∈ xg_tb) (w2 : Cond.instanceMethod (xy_n Z) ∈ xg_tb) (w3 : Cond.selects C (xy_n Z) (xy_n Z) ∈ xg_tb) (w4 : xe_cw Z ∈ xg_tb) (hy : xe_plain (xy_n Z)) (hn : (parseMethodDescriptor (xy_n Z).desc).map (fun d => d.parameters.length) = some na) : xe_OKC δ Y k Z (z, na + 1, rc) := by
  refine ⟨by rw [hk, hk1], ?_⟩
  intro p l e R s m args below meth c n0 s0 T locs cells slots μ g as rest X hC hR hg hpc hsize hstack hlen hrcv
  obtain ⟨hx, hb, hml, hown, hnm, hret, hlk, hts, hK, hE, hhd⟩ := hC
  obtain ⟨a, as', cellB, rfl, hcB, hoB, hclB⟩ := hrc s R n0 s0 locs cells slots μ T.heap as hK hE hR hrcv
  obtain ⟨mk, methM, hnamed, hmethM, hstM, habM⟩ := Cond.instanceMethod_spec (hts _ w2)
  obtain ⟨m9, methM', cM, hn9, hmethM', -, -, -, -, -, -, hsigM⟩ := xe_cw_spec (hts _ w4)
  cases hnamed.symm.trans hn9
  cases hmethM.symm.trans hmethM'
  obtain ⟨c2, r2, m2, q1, q2, q3, q4, kP, hkP, hkPi⟩ := Cond.selects_spec (hts _ w3)
  cases hclB.symm.trans q1
  cases (State.methodFound?_of_named hnamed hy).symm.trans q2
  cases hnamed.symm.trans q3
  have hselP : selectMethod e.platform s.vm cellB.cls mk = .method mk := by rw [Launch.admits_selectMethod X.admits]; exact q4
  have hpl : as'.length = methM.sig.parameters.length := by
    rw [hsigM] at hn
    have h1 : methM.sig.parameters.length = na := Option.some.inj hn
    have h2 : (Value.ref a :: as').length = na + 1 := hlen
    simp at h2
    rw [h1]; exact h2
  have hst : g.stack = (as'.map (xe_v δ)).reverse ++ .ref (xe_ro δ a) :: rest := by
    rw [hstack, List.map_cons, List.reverse_cons, List.append_assoc]; rfl
  have hdg : decode c.code g.pc = .ok (.invokevirtual index, 3) := by rw [hb, hpc, hk]; exact hd
  cases nest with
  | none =>
    obtain ⟨vm₁, X₁, hstep₁⟩ := X.invokevirtual hx hown (hts _ w1) hnamed hmethM hstM hkP hkPi hy (a := xe_ro δ a) (cell := cellB) hcB (fun z h => by rw [h] at hoB; cases hoB) hselP hmethM habM hkP hkPi (g := g) hg (argsL := as'.map (xe_v δ)) (rest := rest) (by rw [List.length_map]; exact hpl) hst hdg
    exact ⟨vm₁, mk, .invokevirtual index, X₁.warmed, hnamed, hdg, fun target h => hstep₁ _ fun acts => by rw [doInvoke_state]; exact h⟩
  | some host =>
    obtain ⟨vm₁, X₁, hstep₁⟩ := X.invokevirtualNest hx hown (hts _ w1) hnamed hmethM hstM hkP hkPi hy (a := xe_ro δ a) (cell := cellB) hcB (fun z h => by rw [h] at hoB; cases hoB) hselP hmethM habM hkP hkPi (g := g) hg (argsL := as'.map (xe_v δ)) (rest := rest) (by rw [List.length_map]; exact hpl) hst hdg
    exact ⟨vm₁, mk, .invokevirtual index, X₁.warmed, hnamed, hdg, fun target h => hstep₁ _ fun acts => by rw [doInvoke_state]; exact h⟩
theorem xc_virtual {δ : xe_Dy} {Y Z : xe_Y} {k pc index ci na : Nat} {C : String} {T0 : u_T} {N z : Nat} {nest : Option String} (hk : xe_pc Y k = pc) (hk1 : xe_pc Y (k + 1) = pc + 3) (hd : decode (xy_b Y) pc = .ok (.invokevirtual index, 3)) (hc : xg_cl[ci]? = some (C, T0, N)) (w1 : xe_mlink (xy_n Y).cls index (xy_n Z) nest ∈ xg_tb) (w2 : Cond.instanceMethod (xy_n Z) ∈ xg_tb) (w3 : Cond.selects C (xy_n Z) (xy_n Z) ∈ xg_tb) (w4 : xe_cw Z ∈ xg_tb) (hy : xe_plain (xy_n Z)) (hn : (parseMethodDescriptor (xy_n Z).desc).map (fun d => d.parameters.length) = some na) : xe_OKC δ Y k Z (z, na + 1, ci + 1) :=
  xc_virtualG hk hk1 hd (fun s R n0 s0 locs cells slots μ H as hK hE hR hrcv => by
    obtain ⟨a, as', rfl, hsh⟩ := xe_rcv_ref hrcv (xg_cl_lt hc)
    obtain ⟨cellB, hcB, hoB, hclB⟩ := va_recv hK hR.1 hc (xe_ws_at hsh)
    exact ⟨a, as', cellB, rfl, hcB, hoB, hclB⟩) w1 w2 w3 w4 hy hn
theorem xc_static {δ : xe_Dy} {Y Z : xe_Y} {k pc index na z : Nat} {nest : Option String} (hk : xe_pc Y k = pc) (hk1 : xe_pc Y (k + 1) = pc + 3) (hd : decode (xy_b Y) pc = .ok (.invokestatic index, 3)) (w1 : xe_mlink (xy_n Y).cls index (xy_n Z) nest ∈ xg_tb) (w2 : Cond.static (xy_n Z) ∈ xg_tb) (w3 : Cond.initialized (xy_n Z).cls ∈ xg_tb) (w4 : xe_cw Z ∈ xg_tb) (hy : xe_plain (xy_n Z)) (hn : (parseMethodDescriptor (xy_n Z).desc).map (fun d => d.parameters.length) = some na) : xe_OKC δ Y k Z (z, na, 0) := by
  refine ⟨by rw [hk, hk1], ?_⟩
  intro p l e R s m args below meth c n0 s0 T locs cells slots μ g as rest X hC hR hg hpc hsize hstack hlen hrcv
  obtain ⟨hx, hb, hml, hown, hnm, hret, hlk, hts, hK, hE, hhd⟩ := hC
  obtain ⟨mk, methM, cM, hnamed, hmethM, -, -, -, -, -, -, hsigM⟩ := xe_cw_spec (hts _ w4)
  have hstatic : methM.isStatic = true := Cond.static_spec hnamed hmethM (hts _ w2)
  obtain ⟨kP, hkP, -⟩ := className_of_methodNamed hnamed
  have hinitP : kP.init = .initialized := Cond.initialized_spec (findClass_of_methodNamed hnamed) hkP (hts _ w3)
  have hpl : as.length = methM.sig.parameters.length := by
    rw [hsigM] at hn
    have h1 : methM.sig.parameters.length = na := Option.some.inj hn
    rw [h1]; exact hlen
  have hdg : decode c.code g.pc = .ok (.invokestatic index, 3) := by rw [hb, hpc, hk]; exact hd
  cases nest with
  | none =>
    obtain ⟨vm₁, X₁, hstep₁⟩ := X.invokestatic hx hown (hts _ w1) hnamed hmethM hstatic hkP hinitP hy (g := g) hg (argsL := as.map (xe_v δ)) (rest := rest) (by rw [List.length_map]; exact hpl) hstack hdg
    exact ⟨vm₁, mk, .invokestatic index, X₁.warmed, hnamed, hdg, fun target h => hstep₁ _ fun acts => by rw [doInvoke_state]; exact h⟩
  | some host =>
    obtain ⟨vm₁, X₁, hstep₁⟩ := X.invokestaticNest hx hown (hts _ w1) hnamed hmethM hstatic hkP hinitP hy (g := g) hg (argsL := as.map (xe_v δ)) (rest := rest) (by rw [List.length_map]; exact hpl) hstack hdg
    exact ⟨vm₁, mk, .invokestatic index, X₁.warmed, hnamed, hdg, fun target h => hstep₁ _ fun acts => by rw [doInvoke_state]; exact h⟩
theorem xc_init {δ : xe_Dy} {Y Z : xe_Y} {k pc index ci na z : Nat} {nest : Option String} (hk : xe_pc Y k = pc) (hk1 : xe_pc Y (k + 1) = pc + 3) (hd : decode (xy_b Y) pc = .ok (.invokespecial index, 3)) (w1 : xe_mlink (xy_n Y).cls index (xy_n Z) nest ∈ xg_tb) (w2 : Cond.instanceMethod (xy_n Z) ∈ xg_tb) (w4 : Cond.code (xy_n Z) (xy_b Z) (xy_l Z) none ∈ xg_tb) (hy : xe_plain (xy_n Z)) (hi : (xy_n Z).name = "<init>") (hn : (parseMethodDescriptor (xy_n Z).desc).map (fun d => d.parameters.length) = some na) (hci : ci < 100 := by decide) : xe_OKC δ Y k Z (z, na + 1, ci + 1) := by
  refine ⟨by rw [hk, hk1], ?_⟩
  intro p l e R s m args below meth c n0 s0 T locs cells slots μ g as rest X hC hR hg hpc hsize hstack hlen hrcv
  obtain ⟨hx, hb, hml, hown, hnm, hret, hlk, hts, hK, hE, hhd⟩ := hC
  obtain ⟨a, as', rfl, hsh⟩ := xe_rcv_ref hrcv hci
  have hst : g.stack = (as'.map (xe_v δ)).reverse ++ .ref (xe_ro δ a) :: rest := by
    rw [hstack, List.map_cons, List.reverse_cons, List.append_assoc]; rfl
  have hdg : decode c.code g.pc = .ok (.invokespecial index, 3) := by rw [hb, hpc, hk]; exact hd
  have hpl2 : e.platform.magicAccessors = ({} : Platform).magicAccessors := by rw [X.admits.platform]
  have hl2 : ∀ sig, parseMethodDescriptor (xy_n Z).desc = some sig → (as'.map (xe_v δ)).length = sig.parameters.length := by
    intro sig hs
    rw [hs] at hn
    have h1 : sig.parameters.length = na := Option.some.inj hn
    have h2 : (Value.ref a :: as').length = na + 1 := hlen
    simp at h2
    rw [List.length_map, h1]; exact h2
  subst hg
  cases nest with
  | none =>
    obtain ⟨mk, methM, cM, kP, vm₁, hnamed, hmethM, hcodeM, -, hlocalsM, -, hkP, -, hW₁, hstep₁⟩ := Steps.initColdArgs (e := e) X.here hx X.warmed hpl2 hown hi hy (hts _ w1) (hts _ w2) (hts _ w4) (f := g) rfl hl2 hst hdg
    exact ⟨vm₁, mk, .invokespecial index, hW₁, hnamed, hdg, fun target h => hstep₁ _ fun acts => by rw [doInvoke_state]; exact h⟩
  | some host =>
    obtain ⟨mk, methM, cM, kP, vm₁, hnamed, hmethM, hcodeM, -, hlocalsM, -, hkP, -, hW₁, hstep₁⟩ := Steps.initColdArgsNest (e := e) X.here hx X.warmed hpl2 hown hi hy (hts _ w1) (hts _ w2) (hts _ w4) (f := g) rfl hl2 hst hdg
    exact ⟨vm₁, mk, .invokespecial index, hW₁, hnamed, hdg, fun target h => hstep₁ _ fun acts => by rw [doInvoke_state]; exact h⟩
