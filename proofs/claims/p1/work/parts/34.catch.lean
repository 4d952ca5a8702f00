/-! exceptions: caught -/
section
variable {e : Env} {s : State} {f : JFrame} {a : Addr}
theorem xe_go_class {x : ExceptionTableEntry} {t : List ExceptionTableEntry} {c : ClassId} {cell : Cell} {vm' : Vm} {Q : Handler → Pre} {E : CtlPost} {d : Bool} {acts : List Action} (hx : covers x f.pc = true) (h0 : x.catchType ≠ 0) (hg : (Jvm.resolveClass f.method.cls x.catchType).Gives e.toSetting s.vm (.ok c) vm') (hsz : vm'.classes.size ≤ s.vm.classes.size) (hcell : s.heap[a]? = some cell) (hobj : ∀ k, cell.vm ≠ .statics k) (hk : ∃ k, vm'.classes[cell.cls]? = some k) (hc : ∃ k, vm'.classes[c]? = some k) :
    wp (findHandler.go f a (x :: t)) Q E e d acts s ↔ if vm'.assignable cell.cls c = true then Q (.found x.handlerPc) d acts (s.setVm vm') else wp (findHandler.go f a t) Q E e d acts (s.setVm vm') := by
  obtain ⟨ha, ht⟩ := hg.op (op := VmOp.resolveClass f.method.cls x.catchType) rfl
  simp only [covers] at hx
  cases hfit : vm'.assignable cell.cls c <;> simp [findHandler.go, hx, h0, ha, ht, hsz, hcell, hobj, hk, hc, hfit, VmOp.dirties, VmOp.acts]
theorem xe_stepCatch {r : List Frame} {pc : Nat} {vm' : Vm} (hfind : ∀ (Q : Handler → Pre) (E : CtlPost) (d : Bool) (acts : List Action), wp (findHandler f a) Q E e d acts s ↔ Q (.found pc) d acts (s.setVm vm')) :
    (stepThrowing e s a (.java f :: r)).Is ((s.setVm vm').setFrames (.java { f with pc := pc, stack := [.ref a] } :: r)) [] := by
  simp only [stepThrowing, searchFrame, vmDo]
  generalize hr : Sem.go _ e false [] s = res
  obtain ⟨as, rfl, ha⟩ := Sem.eq_ok_of hr (a := Handler.found pc) (s' := s.setVm vm') (acts' := []) (by simp [hfind _ _ _ _])
  exact ⟨rfl, ha⟩
end
theorem xe_caught {tb : Tables} {e : Env} {s target : State} {g : JFrame} {c : Code} {below : List Frame} {a : Addr} {vm' : Vm} (h : At s g.method c below) {pc : Nat}
    (hfind : ∀ (Q : Handler → Pre) (E : CtlPost) (d : Bool) (acts : List Action), wp (findHandler g a) Q E e d acts ((s.setTop g).pushFrame (.throwing a)) ↔ Q (.found pc) d acts (((s.setTop g).pushFrame (.throwing a)).setVm vm'))
    (hrest : Steps tb e below ((s.setVm vm').setTop { g with pc := pc, stack := [.ref a] }) target) : Steps tb e below ((s.setTop g).pushFrame (.throwing a)) target := by
  obtain ⟨hgo, hw⟩ := h.throwing a
  refine Steps.head hgo hw ?_
  rw [stepThread_throwing (frames_entered h.top _), (xe_stepCatch (s := (s.setTop g).pushFrame (.throwing a)) hfind).1]
  obtain ⟨g₀, hg⟩ := Option.isSome_iff_exists.mp h.top
  obtain ⟨r, hr⟩ := State.topJava?_eq_some.mp hg
  have hr' : (s.setVm vm').frames = .java g₀ :: r := hr
  rw [State.setTop_of_frames _ hr'] at hrest
  have e1 : (((s.setTop g).pushFrame (.throwing a)).setVm vm').setFrames (.java { g with pc := pc, stack := [.ref a] } :: r) = (s.setVm vm').setFrames (.java { g with pc := pc, stack := [.ref a] } :: r) := by
    rw [State.pushFrame, State.setTop_of_frames _ hr, State.setFrames_setFrames]
    show ((s.setFrames _).setVm vm').setFrames _ = _
    have : (s.setFrames (.throwing a :: (s.setFrames (.java g :: r)).frames)).setVm vm' = (s.setVm vm').setFrames (.throwing a :: (s.setFrames (.java g :: r)).frames) := rfl
    rw [this, State.setFrames_setFrames]
  rw [hr]
  show Steps tb e below ((((s.setTop g).pushFrame (.throwing a)).setVm vm').setFrames (.java { g with pc := pc, stack := [.ref a] } :: r)) target
  rw [e1]
  exact hrest
/-- the search among the handlers: those ahead name classes that the exception isn't of -/
def xe_Hs (args : Array Value) (s : State) (own cls : String) (pc : Nat) : List (Nat × Nat × Nat × Nat) → List String → Nat → Prop
  | q :: r, C :: Cs, t => (q.1 ≤ pc ∧ pc < q.2.1) ∧ q.2.2.2 ≠ 0 ∧ (Cond.classLink own q.2.2.2 C).before args s = true ∧ ((C = cls ∧ t = q.2.2.1) ∨ (va_Nc cls C s ∧ xe_Hs args s own cls pc r Cs t))
  | _, _, _ => False
theorem xe_search {args : Array Value} {e : Env} {s : State} {own cls : String} {f : JFrame} {a : Addr} {cell : Cell} {cE : ClassId} {t : Nat} (hpl : e.platform.magicAccessors = ({} : Platform).magicAccessors) (hown : s.vm.findClass own = some f.method.cls) (hcE : ClassAt s cls cE) (hcl : cell.cls = cE) (hobj : ∀ k, cell.vm ≠ .statics k) :
    ∀ (L : List ExceptionTableEntry) (Cs : List String) (U : State), s.WarmedH U.vm → U.heap[a]? = some cell → xe_Hs args s own cls f.pc (L.map (fun h => (h.startPc, h.endPc, h.handlerPc, h.catchType))) Cs t →
      ∃ vm' : Vm, s.WarmedH vm' ∧ ∀ (Q : Handler → Pre) (E : CtlPost) (d : Bool) (acts : List Action), wp (findHandler.go f a L) Q E e d acts U ↔ Q (.found t) d acts (U.setVm vm') := by
  intro L
  induction L with
  | nil => intro Cs U _ _ h; cases Cs <;> exact h.elim
  | cons x r ih =>
    intro Cs U hW hcell h
    cases Cs with
    | nil => exact h.elim
    | cons C Cs =>
      obtain ⟨hcov, h0, hlink, hor⟩ := h
      have hx : covers x f.pc = true := by simp only [covers, Bool.and_eq_true, decide_eq_true_eq]; exact hcov
      obtain ⟨cc, hfcc, hcl2⟩ := Cond.classLink_spec hown hlink e.platform hpl
      obtain ⟨hg₁, hwarm₁, hready₁⟩ := State.classEntry (e := e) hW hcl2
      generalize U.vm.noted f.method.cls x.catchType (.cls cc) = vm₁ at hg₁ hwarm₁ hready₁
      have hal : s.vm.Alike vm₁ := hwarm₁.alike
      have hsz : vm₁.classes.size ≤ U.vm.classes.size := (hW.alike.symm.trans hal).size_le
      have hkE : ∃ k, vm₁.classes[cell.cls]? = some k := Vm.classAt_of_findClass (name := cls) (by rw [hal.findClass, hcl]; exact hcE.1)
      have hkC : ∃ k, vm₁.classes[cc]? = some k := Vm.classAt_of_findClass (name := C) (by rw [hal.findClass]; exact hfcc)
      rcases hor with ⟨rfl, rfl⟩ | ⟨hnc, hrest⟩
      · refine ⟨vm₁, hwarm₁, fun Q E d acts => ?_⟩
        have hasg : vm₁.assignable cell.cls cc = true := by
          rw [hal.assignable, hcl]
          cases hfcc.symm.trans hcE.1
          exact va_assign hcE
        rw [xe_go_class hx h0 hg₁ hsz hcell hobj hkE hkC, if_pos hasg]
      · have hna : vm₁.assignable cell.cls cc = false := by
          obtain ⟨c1, t1, q1, q2, q3⟩ := hnc
          rw [hal.assignable, hcl]
          cases q1.symm.trans hcE.1
          cases q2.symm.trans hfcc
          exact q3
        obtain ⟨vm', hw', hgo⟩ := ih Cs (U.setVm vm₁) hwarm₁ hcell hrest
        refine ⟨vm', hw', fun Q E d acts => ?_⟩
        rw [xe_go_class hx h0 hg₁ hsz hcell hobj hkE hkC, if_neg (by rw [hna]; decide), hgo]
        rfl
/-- the handlers of Y at the place k, for an exception of the class ci: by the words -/
def xe_Hw (Y : xe_Y) (pc : Nat) (cls : String) : List (Nat × Nat × Nat × Nat) → List String → Nat → Bool
  | q :: r, C :: Cs, t => decide (q.1 ≤ pc ∧ pc < q.2.1) && decide (q.2.2.2 ≠ 0) && decide (Cond.classLink (xy_n Y).cls q.2.2.2 C ∈ xg_tb) && ((decide (C = cls) && decide (t = q.2.2.1)) || (decide ((cls = "java/util/NoSuchElementException" ∧ C = "java/lang/IllegalStateException") ∨ (cls = "java/lang/IllegalArgumentException" ∧ C = "java/lang/IllegalStateException") ∨ (cls = "java/lang/IllegalArgumentException" ∧ C = "java/util/NoSuchElementException")) && xe_Hw Y pc cls r Cs t))
  | _, _, _ => false
theorem xe_Hw_ok {δ : xe_Dy} {Y : xe_Y} {pc : Nat} {cls : String} {args : Array Value} {s : State} (hts : ∀ w ∈ xg_tb, w.before args s = true) (hE : xg_EX δ s s.heap) : ∀ (L : List (Nat × Nat × Nat × Nat)) (Cs : List String) (t : Nat), xe_Hw Y pc cls L Cs t = true → xe_Hs args s (xy_n Y).cls cls pc L Cs t := by
  intro L
  induction L with
  | nil => intro Cs t h; cases Cs <;> cases h
  | cons q r ih =>
    intro Cs t h
    cases Cs with
    | nil => cases h
    | cons C Cs =>
      simp only [xe_Hw, Bool.and_eq_true, Bool.or_eq_true, decide_eq_true_eq] at h
      obtain ⟨⟨⟨h1, h2⟩, h3⟩, h4⟩ := h
      refine ⟨h1, h2, hts _ h3, ?_⟩
      rcases h4 with h4 | ⟨h4, h5⟩
      · exact Or.inl h4
      · refine Or.inr ⟨?_, ih Cs t h5⟩
        rcases h4 with ⟨rfl, rfl⟩ | ⟨rfl, rfl⟩ | ⟨rfl, rfl⟩
        · exact hE.2.2.2.2.2.2.1
        · exact hE.2.2.2.2.2.2.2.1
        · exact hE.2.2.2.2.2.2.2.2.1
theorem xo_catch {δ : xe_Dy} {Y : xe_Y} {k h ci : Nat} {cls : String} (Cs : List String) (hc : xg_cl[ci]? = some (cls, xTx, 0)) (hw : xe_Hw Y (xe_pc Y k) cls (xy_h Y) Cs (xe_pc Y h) = true) : xe_OKH δ Y k ci h := by
  intro p l e R s m args below meth c n0 s0 T locs cells slots μ g a X hC hR hg hpc hsh
  obtain ⟨hx, hb, hml, hown, hnm, hret, hlk, hts, hK, hE, hhd⟩ := hC
  obtain ⟨r, hr, cell, q1, q2, q3, -⟩ := hR.1 a _ (xe_ws_at hsh)
  have hpl : e.platform.magicAccessors = ({} : Platform).magicAccessors := by rw [X.admits.platform]
  have hHs := xe_Hw_ok (δ := δ) (args := args) (s := s) hts hE _ Cs _ hw
  rw [← hhd, ← hpc] at hHs
  obtain ⟨vm', hw', hgo⟩ := xe_search (f := g) (a := xe_ro δ a) (cell := cell) hpl (by rw [hg]; exact hown) (hK.1 ci _ hc).2 q2 (fun k hk => by rw [q3] at hk; cases hk) c.exceptionTable.toList Cs ((T.setTop g).pushFrame (.throwing (xe_ro δ a))) X.warmed q1 hHs
  refine ⟨vm', hw', fun target hrest => ?_⟩
  have hAt : At T g.method c below := by rw [hg]; exact X.here
  refine xe_caught hAt (fun Q E d acts => ?_) hrest
  rw [W.findHandler_eq (meth := meth) (code := c) (by rw [hg]; exact X.method') X.code]
  exact hgo Q E d acts
