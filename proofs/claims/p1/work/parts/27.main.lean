/-! soundness: the tables' conditions, and the theorem -/
theorem xe_fin {δ : xe_Dy} {R : Room} {s t : State} {n0 s0 cells slots : Nat} {μ : xe_Mem} {H : Heap} {locs L : List Loc} {o : xe_Out} {oc : Outcome} (hR : xe_Rl δ R s n0 s0 μ H locs cells slots) (ho : oc = xe_cv δ o) (ht : t.heap = H) (hW : s.WarmedH t.vm) (hs : s.sameButNew ({ t with vm := s.vm } : State) L cells slots) (hL : ∀ q ∈ L, xe_A δ q.base) : xe_Qx δ n0 s0 o μ s oc t := by
  obtain ⟨hP, hD, hS, hsz, hCT, hST, hcl, hsl, hRc, hRs⟩ := hR
  refine ⟨ho, by rw [ht]; exact hP, hD, hS.F ht, by omega, by omega, hCT, hST, hW, L, ?_, hL⟩
  rw [show (xe_sh μ).length - n0 = cells by omega, show xe_sl μ - s0 = slots by omega]
  exact hs
/-- a launch without stack traces -/
def xg_NT (l : Launch) : Prop := ∀ e, l.admits e → e.platform.stackTraces = false
/-- an exception of the class ci is made and thrown -/
def xe_OKT (δ : xe_Dy) (Y : xe_Y) (k ci : Nat) : Prop :=
  ∀ (p : Program) (l : Launch) (e : Env) (R : Room) (s : State) (m : MethodId) (args : Array Value) (below : List Frame) (meth : Method) (c : Code) (n0 s0 : Nat) (H : Heap) (locs : List Loc) (cells slots : Nat) (lsJ : Array Slot) (st : List Value) (μ : xe_Mem),
    xg_NT l → xe_Cx δ Y p s m args meth c → 8 ≤ R.frames → 256 ≤ R.locals → xe_Rl δ R s n0 s0 μ H locs cells slots → lsJ.size = xy_l Y → (xe_sh μ).length < xg_CT → xe_sl μ + 6 ≤ xg_ST → (st.map fun v => v.category).sum ≤ 20 → (∀ q ∈ xy_h Y, ¬ (q.1 ≤ xe_pc Y k ∧ xe_pc Y k < q.2.1)) →
    W p l e R s m args below meth c H locs cells slots (xe_End δ n0 s0 (.inr (xe_sh μ).length) (xe_add μ (.inl ci) 6) s below) (F0 m (xe_pc Y k) lsJ (st.map (xe_v δ)))
/-- an end of a method, at its place -/
def xe_OKE (δ : xe_Dy) (Y : xe_Y) (k : Nat) : Nat → Prop
  | 0 => xy_r Y = none ∧ decode (xy_b Y) (xe_pc Y k) = .ok (.return_, 1)
  | 1 => xy_r Y = some .int ∧ decode (xy_b Y) (xe_pc Y k) = .ok (.ireturn, 1)
  | 2 => decode (xy_b Y) (xe_pc Y k) = .ok (.athrow, 1)
  | 3 => xy_r Y = some .boolean ∧ decode (xy_b Y) (xe_pc Y k) = .ok (.ireturn, 1)
  | 4 => (∃ rt, xy_r Y = some rt ∧ ((∃ n, rt = .object n) ∨ ∃ t, rt = .array t)) ∧ decode (xy_b Y) (xe_pc Y k) = .ok (.areturn, 1)
  | 5 => (xy_r Y = some .byte ∨ xy_r Y = some .char) ∧ decode (xy_b Y) (xe_pc Y k) = .ok (.ireturn, 1)
  | ci + 6 => xe_OKT δ Y k ci
theorem xe_nar {v : Int32} (h0 : 0 ≤ v) (h1 : v < 128) : narrow .byte (.int v) = .int v ∧ narrow .char (.int v) = .int v := by
  have key : ∀ n : Nat, n < 128 → narrow .byte (.int (Int32.ofNat n)) = .int (Int32.ofNat n) ∧ narrow .char (.int (Int32.ofNat n)) = .int (Int32.ofNat n) := by decide +kernel
  obtain ⟨n, hn, rfl⟩ : ∃ n : Nat, n < 128 ∧ v = Int32.ofNat n := by
    rw [Int32.le_iff_toInt_le] at h0
    rw [Int32.lt_iff_toInt_lt] at h1
    have e0 : (0 : Int32).toInt = 0 := rfl
    have e1 : (128 : Int32).toInt = 128 := rfl
    refine ⟨v.toInt.toNat, by omega, ?_⟩
    apply Int32.toInt_inj.mp
    rw [Int32.toInt_ofNat_of_lt (by omega)]
    omega
  exact key n hn
/-- a call's own instruction: it comes to the invocation of Z -/
def xe_OKC (δ : xe_Dy) (Y : xe_Y) (k : Nat) (Z : xe_Y) (q : xe_Cll) : Prop :=
  xe_pc Y (k + 1) = xe_pc Y k + 3 ∧ ∀ (p : Program) (l : Launch) (e : Env) (R : Room) (s : State) (m : MethodId) (args : Array Value) (below : List Frame) (meth : Method) (c : Code) (n0 s0 : Nat) (T : State) (locs : List Loc) (cells slots : Nat) (μ : xe_Mem) (g : JFrame) (as rest : List Value),
    Stand p l e R s m args below meth c T locs cells slots → xe_Cx δ Y p s m args meth c → xe_Rl δ R s n0 s0 μ T.heap locs cells slots → g.method = m → g.pc = xe_pc Y k → g.locals.size = c.maxLocals → g.stack = (as.map (xe_v δ)).reverse ++ rest → as.length = q.2.1 → xe_rcv μ q.2.2 as = true →
    ∃ (vm₁ : Vm) (mk : MethodId) (ig : Instr), s.WarmedH vm₁ ∧ s.methodNamed? (xy_n Z) = some mk ∧ decode c.code g.pc = .ok (ig, 3) ∧
      ∀ target, Steps p.tables e below (doInvoke e ((T.setVm vm₁).setTop { g with stack := rest }) [] mk (as.map (xe_v δ)).toArray).1 target → Steps p.tables e below (T.setTop g) target
/-- an exception of the class ci that comes out of the call at k is caught at h -/
def xe_OKH (δ : xe_Dy) (Y : xe_Y) (k ci h : Nat) : Prop :=
  ∀ (p : Program) (l : Launch) (e : Env) (R : Room) (s : State) (m : MethodId) (args : Array Value) (below : List Frame) (meth : Method) (c : Code) (n0 s0 : Nat) (T : State) (locs : List Loc) (cells slots : Nat) (μ : xe_Mem) (g : JFrame) (a : Nat),
    Stand p l e R s m args below meth c T locs cells slots → xe_Cx δ Y p s m args meth c → xe_Rl δ R s n0 s0 μ T.heap locs cells slots → g.method = m → g.pc = xe_pc Y k → (xe_sh μ)[a]? = some (.inl ci) →
    ∃ vm₁ : Vm, s.WarmedH vm₁ ∧ ∀ target, Steps p.tables e below ((T.setVm vm₁).setTop { g with pc := xe_pc Y h, stack := [.ref (xe_ro δ a)] }) target → Steps p.tables e below ((T.setTop g).pushFrame (.throwing (xe_ro δ a))) target
/-- a method that is called -/
def xe_OKM (Z : xe_Y) : Prop := xe_cw Z ∈ xg_tb ∧ Cond.initialized (xy_n Z).cls ∈ xg_tb ∧ plainName (xy_n Z).cls = true ∧ xe_pc Z 0 = 0
/-- the tables are right -/
def xe_Tb (δ : xe_Dy) (MY : Nat → Option xe_Y) (MC : Nat → List xe_In) (ML : Nat → Nat) (MH : Nat → Nat → Nat → Option (Option Nat)) : Prop :=
  (∀ y Y k f, MY y = some Y → (MC y)[k]? = some (.inl f) → xe_OKL δ Y k f) ∧
  (∀ y Y k q, MY y = some Y → (MC y)[k]? = some (.inr (.inl q)) → ∃ Z, MY q.1 = some Z ∧ xy_l Z = ML q.1 ∧ xe_OKM Z ∧ xe_OKC δ Y k Z q) ∧
  (∀ y Y k z, MY y = some Y → (MC y)[k]? = some (.inr (.inr z)) → xe_OKE δ Y k z) ∧
  (∀ y Y k ci h, MY y = some Y → MH y k ci = some (some h) → xe_OKH δ Y k ci h) ∧
  (∀ y Y k ci, MY y = some Y → MH y k ci = some none → ∀ q ∈ xy_h Y, ¬ (q.1 ≤ xe_pc Y k ∧ xe_pc Y k < q.2.1)) ∧
  (∀ w ∈ xg_tb, xe_kp w) ∧
  (∀ s t : State, xg_EX δ s s.heap → s.vm.Alike t.vm → va_F (xe_A δ) s t → xg_EX δ t t.heap)
theorem xe_noH {Y : xe_Y} {c : Code} {pc : Nat} (hh : c.exceptionTable.toList.map (fun h => (h.startPc, h.endPc, h.handlerPc, h.catchType)) = xy_h Y) (hn : ∀ q ∈ xy_h Y, ¬ (q.1 ≤ pc ∧ pc < q.2.1)) : ∀ x ∈ c.exceptionTable.toList, covers x pc = false := by
  intro x hx
  have := hn (x.startPc, x.endPc, x.handlerPc, x.catchType) (by rw [← hh]; exact List.mem_map.mpr ⟨x, hx, rfl⟩)
  simp only [covers, Bool.and_eq_false_iff, decide_eq_false_iff_not]
  by_cases h1 : x.startPc ≤ pc
  · exact Or.inr (fun h2 => this ⟨h1, h2⟩)
  · exact Or.inl h1
section
variable {δ : xe_Dy} {MY : Nat → Option xe_Y} {MC : Nat → List xe_In} {ML : Nat → Nat} {MH : Nat → Nat → Nat → Option (Option Nat)}
/-- what a run from a place says -/
def xe_Snd (δ : xe_Dy) (MY : Nat → Option xe_Y) (MC : Nat → List xe_In) (ML : Nat → Nat) (MH : Nat → Nat → Nat → Option (Option Nat)) (n : Nat) : Prop :=
  ∀ (d y k : Nat) (ls : xe_Ls) (st : List Value) (μ : xe_Mem) (o : xe_Out) (μ' : xe_Mem), xe_run MC ML MH n d y k ls st μ = some (o, μ') → ∀ Y, MY y = some Y →
    ∀ (p : Program) (l : Launch) (e : Env) (s : State) (m : MethodId) (args : Array Value) (below : List Frame) (meth : Method) (c : Code) (n0 s0 : Nat) (H : Heap) (locs : List Loc) (cells slots : Nat) (lsJ : Array Slot),
      xg_NT l → xe_Cx δ Y p s m args meth c → n0 ≤ xg_CT → s0 ≤ xg_ST → xe_Rl δ (xe_rm d n0 s0) s n0 s0 μ H locs cells slots → lv_has lsJ (xy_l Y) (xe_lv δ ls) →
      W p l e (xe_rm d n0 s0) s m args below meth c H locs cells slots (xe_End δ n0 s0 o μ' s below) (F0 m (xe_pc Y k) lsJ (st.map (xe_v δ)))
theorem xe_met {n d z : Nat} {as : List Value} {μ μ' : xe_Mem} {o : xe_Out} {Z : xe_Y} {l : Launch} (hNT : xg_NT l) (hS : xe_Snd δ MY MC ML MH n) (hZ : MY z = some Z) (hZM : xe_OKM Z) (hr : xe_run MC ML MH n d z 0 (xe_init as (xy_l Z)) [] μ = some (o, μ')) (hlen : (xe_l0 as).length ≤ xy_l Z) (hc1 : (xe_sh μ).length ≤ xg_CT) (hc2 : xe_sl μ ≤ xg_ST) : xe_Met δ l Z d as μ o μ' := by
  obtain ⟨hcw, hini, hpl, hp0⟩ := hZM
  refine MetFree.of_bodyS (code := xy_b Z) (maxLocals := xy_l Z) (ret := xy_r Z) hpl ?_ ?_
  · intro args s m h hn
    obtain ⟨m9, meth, c, hn9, q1, q2, q3, q4, q5, q6, q7, -⟩ := xe_cw_spec (atoms_spec (ws := xg_tb) h _ hcw)
    cases hn.symm.trans hn9
    exact ⟨meth, c, q1, q2, q3, q4, q6, q7⟩
  · intro p e s m args below meth c s₁ B hml hP _
    obtain ⟨rfl, hsz, hP, hD, hK, hE⟩ := hP
    have hts := atoms_spec (ws := xg_tb) B.pre
    obtain ⟨m9, meth9, c9, hn9, q1, q2, q3, q4, q5, q6, q7, -⟩ := xe_cw_spec (hts _ hcw)
    cases B.named.symm.trans hn9
    cases B.method.symm.trans q1
    cases (Stand.of_body B).code.symm.trans q2
    have hC : xe_Cx δ Z p s m (as.map (xe_v δ)).toArray meth c := ⟨B.exec, B.bytes, hml, findClass_of_methodNamed B.named, (name_of_methodNamed B.named B.method).1, B.returns, B.notSynchronized, hts, hK, hE, q5⟩
    have hRl : xe_Rl δ (xe_rm d (xe_sh μ).length (xe_sl μ)) s (xe_sh μ).length (xe_sl μ) μ s.heap [] 0 0 :=
      ⟨hP, hD, va_S.rf, hsz, hc1, hc2, by omega, by omega, by show xg_CT - _ + _ = _; omega, by show xg_ST - _ + _ = _; omega⟩
    have hW := hS d z 0 (xe_init as (xy_l Z)) [] μ o μ' hr Z hZ p l e s m (as.map (xe_v δ)).toArray below meth c (xe_sh μ).length (xe_sl μ) s.heap [] 0 0 _ hNT hC hc1 hc2 hRl (xe_entry δ as hlen)
    rw [hp0, List.map_nil] at hW
    have hh0 : s₁.heap = s.heap := by rw [B.state]; rfl
    rw [← lg_entry_eq m (as.map (xe_v δ)) (xy_l Z)] at hW
    obtain ⟨t, a1, oc, b1, b2, b3⟩ := hW s₁ hh0 (Stand.of_body B)
    exact ⟨t, oc, a1, b1, b2, b3⟩
theorem xe_size {R : Room} {s : State} {p : Program} {l : Launch} {e : Env} {m : MethodId} {args : Array Value} {below : List Frame} {meth : Method} {c : Code} {T : State} {n0 s0 cells slots : Nat} {μ : xe_Mem} {locs : List Loc} (X : Stand p l e R s m args below meth c T locs cells slots) (hR : xe_Rl δ R s n0 s0 μ T.heap locs cells slots) (hM : xg_CT ≤ 1000000) : T.heap.size = xd_b δ + (xe_sh μ).length := by
  obtain ⟨hP, hD, hS, hsz, hCT, hST, hcl, hsl, hRc, hRs⟩ := hR
  have h1 := X.heapSize
  have h2 : xd_b δ + (xe_sh μ).length ≤ T.heap.size := by
    cases hn : (xe_sh μ).length with
    | zero => have := hS.1; omega
    | succ j =>
      have hj : j < (xe_sh μ).length := by omega
      have h3 := (hP j _ (xe_ws_at (List.getElem?_eq_getElem hj))).lt
      have h4 : xe_ro δ j = xd_b δ + j := xe_ro_own δ (by omega)
      dsimp only at h3
      omega
  omega
theorem xe_sound (hM : xg_CT ≤ 1000000) (hT : xe_Tb δ MY MC ML MH) : ∀ n, xe_Snd δ MY MC ML MH n := by
  intro n
  induction n with
  | zero =>
    intro d y k ls st μ o μ' h
    rw [xe_run] at h
    cases h
  | succ n ih =>
    intro d y k ls st μ o μ' h Y hY p l e s m args below meth c n0 s0 H locs cells slots lsJ hNT hC h0 hs0 hR hl
    obtain ⟨t1, t2, t3, t4, t5, t7, t8⟩ := id hT
    rw [xe_run] at h
    split at h
    · rename_i f hf
      split at h
      · rename_i r hr
        exact t1 y Y k f hY hf p l e (xe_rm d n0 s0) s m args below meth c n0 s0 H locs cells slots _ lsJ ls st μ r.1 r.2.1 r.2.2.1 r.2.2.2 hC (by show 1 ≤ d + 8; omega) (by show 64 ≤ 64 * d + 256; omega) hR hl hr (fun H' locs' cells' slots' lsJ' hR' hl' => ih d y r.1 r.2.1 r.2.2.1 r.2.2.2 o μ' h Y hY p l e s m args below meth c n0 s0 H' locs' cells' slots' lsJ' hNT hC h0 hs0 hR' hl')
      · cases h
    · rename_i q hq
      cases d with
      | zero => cases h
      | succ d' =>
        dsimp only at h
        split at h
        · cases h
        · rename_i hcond
          have c1 : ¬ st.length < q.2.1 := fun z => hcond (Or.inl z)
          have c2 : xe_rcv μ q.2.2 (st.take q.2.1).reverse = true := by
            cases hz : xe_rcv μ q.2.2 (st.take q.2.1).reverse with
            | true => rfl
            | false => exact absurd (Or.inr (Or.inl hz)) hcond
          have c3 : ¬ 20 < ((st.drop q.2.1).map fun v => v.category).sum := fun z => hcond (Or.inr (Or.inr (Or.inl z)))
          have c4 : ¬ ML q.1 < (xe_l0 (st.take q.2.1).reverse).length := fun z => hcond (Or.inr (Or.inr (Or.inr (Or.inl z))))
          have c5 : ¬ 33 < ML q.1 := fun z => hcond (Or.inr (Or.inr (Or.inr (Or.inr z))))
          obtain ⟨Z, hZ, hZl, hZM, hpc, hOK⟩ := t2 y Y k q hY hq
          obtain ⟨hcw, hini, -, -⟩ := id hZM
          cases hrun : xe_run MC ML MH n d' q.1 0 (xe_init (st.take q.2.1).reverse (ML q.1)) [] μ with
          | none => rw [hrun] at h; cases h
          | some r =>
            obtain ⟨o1, μ1⟩ := r
            rw [hrun] at h
            have hMet : xe_Met δ l Z d' (st.take q.2.1).reverse μ o1 μ1 := xe_met hNT ih hZ hZM (by rw [hZl]; exact hrun) (by rw [hZl]; omega) hR.2.2.2.2.1 hR.2.2.2.2.2.1
            intro T hT' X
            have hR1 : xe_Rl δ (xe_rm (d' + 1) n0 s0) s n0 s0 μ T.heap locs cells slots := by rw [hT']; exact hR
            have hst : st.map (xe_v δ) = (((st.take q.2.1).reverse).map (xe_v δ)).reverse ++ (st.drop q.2.1).map (xe_v δ) := by
              rw [List.map_reverse, List.reverse_reverse, ← List.map_append, List.take_append_drop]
            have hsize : lsJ.size = c.maxLocals := hl.1.trans hC.2.2.1.symm
            obtain ⟨vm₁, mk, ig, hW₁, hn, hdg, hstep⟩ := hOK p l e _ s m args below meth c n0 s0 T locs cells slots μ (F0 m (xe_pc Y k) lsJ (st.map (xe_v δ))) (st.take q.2.1).reverse ((st.drop q.2.1).map (xe_v δ)) X hC hR1 rfl rfl hsize hst (by simp; omega) c2
            have X₁ := X.noted hW₁
            obtain ⟨T', L, X', hR', hst'⟩ := xe_called (Y := Y) (U := T.setVm vm₁) (g := F0 m (xe_pc Y k) lsJ ((st.drop q.2.1).map (xe_v δ))) hMet X₁ hC t7 (fun t ha hF => t8 s t hC.2.2.2.2.2.2.2.2.2.1 ha hF) hcw hini rfl h0 hs0 hR1 (xe_size X₁ hR1 hM) rfl hsize hdg (by rw [xe_sum_v]; show 2 * 0 + _ ≤ 20; omega) (by omega) (X₁.named hn)
            cases o1 with
            | inl v =>
              dsimp only at h hst'
              obtain ⟨t, a1, b1⟩ := ih (d' + 1) y (k + 1) ls (v.toList ++ st.drop q.2.1) μ1 o μ' h Y hY p l e s m args below meth c n0 s0 T'.heap (locs ++ L) _ _ lsJ hNT hC h0 hs0 hR' hl T' rfl X'
              refine ⟨t, hstep _ (hst'.trans ?_), b1⟩
              rw [hpc] at a1
              have e1 : (v.toList ++ st.drop q.2.1).map (xe_v δ) = (v.map (xe_v δ)).toList ++ (st.drop q.2.1).map (xe_v δ) := by cases v <;> simp
              rw [e1] at a1
              exact a1
            | inr a =>
              dsimp only at h hst'
              split at h
              · cases h
              · rename_i ci hci
                have hsh : (xe_sh μ1)[a]? = some (.inl ci) := by
                  unfold xe_ci at hci
                  split at hci
                  · rename_i z hz
                    cases hci
                    exact hz
                  · cases hci
                split at h
                · rename_i hh hmh
                  obtain ⟨vm₂, hW₂, st2⟩ := t4 y Y k ci hh hY hmh p l e _ s m args below meth c n0 s0 T' _ _ _ μ1 (F0 m (xe_pc Y k) lsJ ((st.drop q.2.1).map (xe_v δ))) a X' hC hR' rfl rfl hsh
                  obtain ⟨t, a1, b1⟩ := ih (d' + 1) y hh ls [.ref a] μ1 o μ' h Y hY p l e s m args below meth c n0 s0 T'.heap (locs ++ L) _ _ lsJ hNT hC h0 hs0 hR' hl (T'.setVm vm₂) rfl (X'.noted hW₂)
                  exact ⟨t, hstep _ (hst'.trans (st2 _ a1)), b1⟩
                · rename_i hmh
                  cases h
                  obtain ⟨l1, l2, l3, l4, l5⟩ := X'.leaveThrown (xe_ro δ a) (g := F0 m (xe_pc Y k) lsJ ((st.drop q.2.1).map (xe_v δ))) rfl rfl rfl (xe_noH hC.2.2.2.2.2.2.2.2.2.2 (t5 y Y k ci hY hmh)) hC.2.2.2.2.2.2.1
                  exact ⟨_, hstep _ (hst'.trans l1), .threw (xe_ro δ a), l2, l3, xe_fin hR' rfl rfl l4 l5 hR'.2.2.1.2.2⟩
                · cases h
    · rename_i z hz
      have hE := t3 y Y k z hY hz
      obtain ⟨hx, hb, hml, hown, hnm, hret, hlk, hts, hK, hEX, hhd⟩ := id hC
      split at h
      · cases h
        refine xe_Wmono (W.vret (Qc := fun _ _ oc t => oc = .returned none ∧ t.heap = H) (free := xe_A δ) hx hb (hret.trans hE.1) (fun t ht _ => ⟨rfl, ht⟩) hR.2.2.1.2.2 hE.2 hlk) (fun t ht => ?_)
        obtain ⟨oc, r1, r2, ⟨rfl, hH⟩, L, ⟨-, hW, hs⟩, hL⟩ := ht
        exact ⟨_, r1, r2, xe_fin hR rfl hH hW hs hL⟩
      · rename_i v
        cases h
        refine xe_Wmono (W.iret (v := v) (Qc := fun _ _ oc t => oc = .returned (some (.int v)) ∧ t.heap = H) (free := xe_A δ) hx hb (hret.trans hE.1) (fun t ht _ => ⟨rfl, ht⟩) hR.2.2.1.2.2 hE.2 hlk) (fun t ht => ?_)
        obtain ⟨oc, r1, r2, ⟨rfl, hH⟩, L, ⟨-, hW, hs⟩, hL⟩ := ht
        exact ⟨_, r1, r2, xe_fin hR rfl hH hW hs hL⟩
      · rename_i a r
        split at h
        · cases h
        · rename_i ci hci
          split at h
          · rename_i hmh
            cases h
            intro T hT' X
            obtain ⟨l1, l2, l3, l4, l5⟩ := X.athrowLeaves hx (g := F0 m (xe_pc Y k) lsJ ((Value.ref a :: r).map (xe_v δ))) rfl rfl rfl (xe_noH hhd (t5 y Y k ci hY hmh)) (a := xe_ro δ a) (rest := r.map (xe_v δ)) rfl (by rw [hb]; exact hE) hlk
            exact ⟨_, l1, .threw (xe_ro δ a), l2, l3, xe_fin hR rfl hT' l4 l5 hR.2.2.1.2.2⟩
          · cases h
      · rename_i v
        split at h
        · rename_i hv
          cases h
          have hnar : narrow .boolean (.int v) = .int v := by rcases hv with rfl | rfl <;> decide
          refine xe_Wmono (W.zret (v := v) (ty := .boolean) (Qc := fun _ _ oc t => oc = .returned (some (.int v)) ∧ t.heap = H) (free := xe_A δ) hx hb (hret.trans hE.1) hnar (fun t ht _ => ⟨rfl, ht⟩) hR.2.2.1.2.2 hE.2 hlk) (fun t ht => ?_)
          obtain ⟨oc, r1, r2, ⟨rfl, hH⟩, L, ⟨-, hW, hs⟩, hL⟩ := ht
          exact ⟨_, r1, r2, xe_fin hR rfl hH hW hs hL⟩
        · cases h
      · rename_i a
        cases h
        obtain ⟨⟨rt, hrt, hk⟩, hd⟩ := hE
        refine xe_Wmono (W.aret (v := .ref (xe_ro δ a)) (rt := rt) (Qc := fun _ _ oc t => oc = .returned (some (.ref (xe_ro δ a))) ∧ t.heap = H) (free := xe_A δ) hx hb (hret.trans hrt) hk (Or.inr ⟨_, rfl⟩) (fun t ht _ => ⟨rfl, ht⟩) hR.2.2.1.2.2 hd hlk) (fun t ht => ?_)
        obtain ⟨oc, r1, r2, ⟨rfl, hH⟩, L, ⟨-, hW, hs⟩, hL⟩ := ht
        exact ⟨_, r1, r2, xe_fin hR rfl hH hW hs hL⟩
      · cases h
        obtain ⟨⟨rt, hrt, hk⟩, hd⟩ := hE
        refine xe_Wmono (W.aret (v := .null) (rt := rt) (Qc := fun _ _ oc t => oc = .returned (some .null) ∧ t.heap = H) (free := xe_A δ) hx hb (hret.trans hrt) hk (Or.inl rfl) (fun t ht _ => ⟨rfl, ht⟩) hR.2.2.1.2.2 hd hlk) (fun t ht => ?_)
        obtain ⟨oc, r1, r2, ⟨rfl, hH⟩, L, ⟨-, hW, hs⟩, hL⟩ := ht
        exact ⟨_, r1, r2, xe_fin hR rfl hH hW hs hL⟩
      · rename_i v
        split at h
        · rename_i hv
          cases h
          obtain ⟨n1, n2⟩ := xe_nar hv.1 hv.2
          obtain ⟨hr, hd⟩ := hE
          rcases hr with hr | hr
          · refine xe_Wmono (W.zret (v := v) (ty := .byte) (Qc := fun _ _ oc t => oc = .returned (some (.int v)) ∧ t.heap = H) (free := xe_A δ) hx hb (hret.trans hr) n1 (fun t ht _ => ⟨rfl, ht⟩) hR.2.2.1.2.2 hd hlk) (fun t ht => ?_)
            obtain ⟨oc, r1, r2, ⟨rfl, hH⟩, L, ⟨-, hW, hs⟩, hL⟩ := ht
            exact ⟨_, r1, r2, xe_fin hR rfl hH hW hs hL⟩
          · refine xe_Wmono (W.zret (v := v) (ty := .char) (Qc := fun _ _ oc t => oc = .returned (some (.int v)) ∧ t.heap = H) (free := xe_A δ) hx hb (hret.trans hr) n2 (fun t ht _ => ⟨rfl, ht⟩) hR.2.2.1.2.2 hd hlk) (fun t ht => ?_)
            obtain ⟨oc, r1, r2, ⟨rfl, hH⟩, L, ⟨-, hW, hs⟩, hL⟩ := ht
            exact ⟨_, r1, r2, xe_fin hR rfl hH hW hs hL⟩
        · cases h
      · split at h
        · rename_i hq
          cases h
          exact hE p l e _ s m args below meth c n0 s0 H locs cells slots lsJ st μ hNT hC (by show 8 ≤ d + 8; omega) (by show 256 ≤ 64 * d + 256; omega) hR hl.1 hq.1 hq.2.1 hq.2.2.1 (t5 y Y k _ hY hq.2.2.2)
        · cases h
      · cases h
    · cases h
end
