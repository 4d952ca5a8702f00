/-! new int[4][12] -/
def xe_inr (cI : ClassId) : Cell := { cls := cI, slots := Array.replicate 12 (.int 0), vm := .none }
def xe_mt (h : Addr) (cI : ClassId) (i : Nat) (q : State × Cell) : State × Cell := ((q.1.pushCell (xe_inr cI)).setCell h (q.2.setSlot i (.ref q.1.heap.size)), q.2.setSlot i (.ref q.1.heap.size))
def xe_out0 (cA : ClassId) : Cell := { cls := cA, slots := Array.replicate 4 .null, vm := .none }
def xe_m0 (s : State) (cA : ClassId) : State × Cell := (s.pushCell (xe_out0 cA), xe_out0 cA)
abbrev xe_m4 (s : State) (cA cI : ClassId) : State × Cell := xe_mt s.heap.size cI 3 (xe_mt s.heap.size cI 2 (xe_mt s.heap.size cI 1 (xe_mt s.heap.size cI 0 (xe_m0 s cA))))
section
variable {e : Env} {d : Bool} {acts : List Action} {s : State} {f : JFrame} {Q : Unit → Pre} {E : CtlPost}
theorem xe_mk1 {c cI : ClassId} {k : Class} {n : Int32} {Q : Addr → Pre} (hk : s.vm.classes[c]? = some k) (hkind : k.kind = .array cI .int) (hn : ¬ n < 0) (hlimit : ¬ n.toNatClampNeg > e.platform.arrayLengthLimit) (hheap : ¬ n.toNatClampNeg * componentBytes .int > e.platform.maxHeapBytes)
    (hcells : s.heap.size < e.platform.maxCells) (hslots : s.slotsUsed + n.toNatClampNeg ≤ e.platform.maxSlots) (hq : ∀ acts', Q s.heap.size d acts' (s.pushCell { cls := c, slots := Array.replicate n.toNatClampNeg (.int 0) })) :
    wp (Op.multianewarray.make c [n]) Q E e d acts s := by
  simp only [Op.multianewarray.make, wp_bind', W.ite, hn, if_false, wp_pure', W.theClass, hk, Option.some.injEq, exists_eq_left', hkind]
  exact W.newArray_of hk hkind hlimit hheap hcells hslots rfl hq
/-- what stands while the rows are made: the outer array's cell, of its class, with its four places; so many cells and slots more -/
def xe_mI (s : State) (cA : ClassId) (n : Nat) (q : State × Cell) : Prop := q.1.heap[s.heap.size]? = some q.2 ∧ q.2.cls = cA ∧ q.2.vm = .none ∧ q.2.slots.size = 4 ∧ q.1.heap.size = s.heap.size + 1 + n ∧ q.1.slotsUsed = s.slotsUsed + 4 + 12 * n ∧ q.1.vm = s.vm
theorem xe_mI0 (s : State) (cA : ClassId) : xe_mI s cA 0 (xe_m0 s cA) := by
  refine ⟨?_, rfl, rfl, ?_, ?_, ?_, rfl⟩
  · simp [xe_m0, State.pushCell]
  · simp [xe_m0, xe_out0]
  · simp [xe_m0, State.pushCell]
  · simp [xe_m0, State.pushCell, xe_out0]
theorem xe_mIs {s : State} {cA cI : ClassId} {n : Nat} {q : State × Cell} (h : xe_mI s cA n q) : xe_mI s cA (n + 1) (xe_mt s.heap.size cI n q) := by
  obtain ⟨h1, h2, h3, h4, h5, h6, h7⟩ := h
  refine ⟨?_, h2, h3, ?_, ?_, ?_, h7⟩
  · simp [xe_mt, State.setCell, State.pushCell, Array.getElem?_setIfInBounds]; omega
  · simp [xe_mt, Cell.setSlot, h4]
  · simp [xe_mt, State.setCell, State.pushCell]; omega
  · simp [xe_mt, State.setCell, State.pushCell, xe_inr]; omega
theorem xe_mkS {cA cI c0 : ClassId} {kA kI : Class} {n : Nat} {q : State × Cell} {Q : ForInStep PUnit → Pre} (hI : xe_mI s cA n q) (hn : n < 4) (hk : s.vm.classes[cA]? = some kA) (hkind : kA.kind = .array cI (.array .int)) (hkI : s.vm.classes[cI]? = some kI) (hkindI : kI.kind = .array c0 .int)
    (hlimit : ¬ 12 > e.platform.arrayLengthLimit) (hheap : ¬ 12 * componentBytes .int > e.platform.maxHeapBytes) (hcells : s.heap.size + 5 ≤ e.platform.maxCells) (hslots : s.slotsUsed + 52 ≤ e.platform.maxSlots)
    (hq : ∀ d' acts', Q (.yield PUnit.unit) d' acts' (xe_mt s.heap.size cI n q).1) :
    wp (do let a ← Op.multianewarray.make cI [12]; writeLoc s.heap.size n (.ref a); Pure.pure (ForInStep.yield PUnit.unit)) Q E e d acts q.1 := by
  obtain ⟨h1, h2, h3, h4, h5, h6, h7⟩ := hI
  have h12 : (12 : Int32).toNatClampNeg = 12 := by decide
  rw [wp_bind']
  refine xe_mk1 (k := kI) (cI := c0) (by rw [h7]; exact hkI) hkindI (by decide) (by rw [h12]; exact hlimit) (by rw [h12]; exact hheap) (by omega) (by rw [h12]; omega) (fun acts' => ?_)
  rw [h12, wp_bind', W.writeLoc]
  refine ⟨q.2, ?_, by rw [h3]; simp, by omega, ?_, ?_⟩
  · have hl : s.heap.size < q.1.heap.size := by omega
    simp [State.pushCell, Array.getElem?_push, Nat.ne_of_lt hl, h1]
  · have hk' : q.1.vm.classes[cA]? = some kA := by rw [h7]; exact hk
    rw [h2, h3]
    simp [State.fitsSlot, State.slotType?, State.pushCell, hk', hkind, fits]
  · rw [wp_pure']
    exact hq _ _
theorem xe_mk2 {cA cI c0 : ClassId} {kA kI : Class} {Q : Addr → Pre} (hk : s.vm.classes[cA]? = some kA) (hkind : kA.kind = .array cI (.array .int)) (hkI : s.vm.classes[cI]? = some kI) (hkindI : kI.kind = .array c0 .int) (hlimit : 12 ≤ e.platform.arrayLengthLimit) (hheap : 48 ≤ e.platform.maxHeapBytes)
    (hcells : s.heap.size + 5 ≤ e.platform.maxCells) (hslots : s.slotsUsed + 52 ≤ e.platform.maxSlots) (hq : ∀ d' acts', Q s.heap.size d' acts' (xe_m4 s cA cI).1) :
    wp (Op.multianewarray.make cA [4, 12]) Q E e d acts s := by
  have h4 : (4 : Int32).toNatClampNeg = 4 := by decide
  have hn : ¬ (4 : Int32) < 0 := by decide
  have hz : ((4 : Int32) == 0) = false := by decide
  have hb : ¬ 12 * componentBytes .int > e.platform.maxHeapBytes := by show ¬ 12 * 4 > _; omega
  rw [Op.multianewarray.make]
  simp only [wp_bind', W.ite, hn, if_false, wp_pure', W.theClass, hk, Option.some.injEq, exists_eq_left', hkind, h4, hz]
  refine W.newArray_of hk hkind (by omega) (by show ¬ 4 * 4 > _; omega) (by omega) (by omega) rfl (fun acts' => ?_)
  simp only [Std.Legacy.Range.forIn_eq_forIn_range', Std.Legacy.Range.size]
  rw [if_neg (by decide), show List.range' 0 ((4 - 0 + 1 - 1) / 1) = [0, 1, 2, 3] by decide]
  have i0 := xe_mI0 s cA
  have i1 := xe_mIs (cI := cI) i0
  have i2 := xe_mIs (cI := cI) i1
  have i3 := xe_mIs (cI := cI) i2
  rw [wp_bind', List.forIn_cons, wp_bind']
  refine xe_mkS i0 (by decide) hk hkind hkI hkindI (by omega) hb hcells hslots (fun d1 a1 => ?_)
  dsimp only
  rw [List.forIn_cons, wp_bind']
  refine xe_mkS i1 (by decide) hk hkind hkI hkindI (by omega) hb hcells hslots (fun d2 a2 => ?_)
  dsimp only
  rw [List.forIn_cons, wp_bind']
  refine xe_mkS i2 (by decide) hk hkind hkI hkindI (by omega) hb hcells hslots (fun d3 a3 => ?_)
  dsimp only
  rw [List.forIn_cons, wp_bind']
  refine xe_mkS i3 (by decide) hk hkind hkI hkindI (by omega) hb hcells hslots (fun d4 a4 => ?_)
  dsimp only
  rw [List.forIn_nil, wp_pure', wp_pure']
  exact hq _ _
end
/-! new int[4][12], as the abstract machine has it -/
def xe_mulM (μ : xe_Mem) : xe_Mem := (μ.1 ++ [.inr (8, 4), .inr (0, 12), .inr (0, 12), .inr (0, 12), .inr (0, 12)], fun b j => if μ.1.length ≤ b ∧ b < μ.1.length + 5 then 0 else μ.2.1 b j, fun b j => if μ.1.length ≤ b ∧ b < μ.1.length + 5 then 0 else μ.2.2.1 b j, fun b j => if b = μ.1.length then (if j < 4 then some (μ.1.length + 1 + j) else none) else if μ.1.length < b ∧ b < μ.1.length + 5 then none else μ.2.2.2.1 b j, μ.2.2.2.2 + 52)
def xe_mul : xe_F := fun k ls st μ => match st with
  | .int b :: .int a :: r => if a = 4 ∧ b = 12 ∧ (xe_sh μ).length + 5 ≤ xg_CT ∧ xe_sl μ + 52 ≤ xg_ST then some (k + 1, ls, .ref (xe_sh μ).length :: r, xe_mulM μ) else none
  | _ => none
/-- old cells, and the rows made so far -/
def xe_mJ (s : State) (cI : ClassId) (n : Nat) (q : State × Cell) : Prop := (∀ a, a < s.heap.size → q.1.heap[a]? = s.heap[a]?) ∧ ∀ i, i < n → q.1.heap[s.heap.size + 1 + i]? = some (xe_inr cI)
theorem xe_mJ0 (s : State) (cA cI : ClassId) : xe_mJ s cI 0 (xe_m0 s cA) := by
  refine ⟨fun a ha => ?_, fun i hi => absurd hi (Nat.not_lt_zero i)⟩
  simp [xe_m0, State.pushCell, Array.getElem?_push, Nat.ne_of_lt ha]
theorem xe_mJs {s : State} {cA cI : ClassId} {n : Nat} {q : State × Cell} (h : xe_mI s cA n q) (hJ : xe_mJ s cI n q) : xe_mJ s cI (n + 1) (xe_mt s.heap.size cI n q) := by
  obtain ⟨h1, h2, h3, h4, h5, h6, h7⟩ := h
  have key : ∀ a, a ≠ s.heap.size → (xe_mt s.heap.size cI n q).1.heap[a]? = (q.1.heap.push (xe_inr cI))[a]? := by
    intro a ha
    simp [xe_mt, State.setCell, State.pushCell, Array.getElem?_setIfInBounds, Ne.symm ha]
  refine ⟨fun a ha => ?_, fun i hi => ?_⟩
  · rw [key a (Nat.ne_of_lt ha), Array.getElem?_push, if_neg (by omega)]
    exact hJ.1 a ha
  · rw [key _ (by omega), Array.getElem?_push]
    by_cases hin : i = n
    · rw [if_pos (by omega)]
    · rw [if_neg (by omega)]
      exact hJ.2 i (by omega)
theorem xe_mt_cell {s : State} {cA cI : ClassId} {n : Nat} {q : State × Cell} (h : xe_mI s cA n q) : (xe_mt s.heap.size cI n q).2 = q.2.setSlot n (.ref (s.heap.size + 1 + n)) := by
  simp [xe_mt, h.2.2.2.2.1]
theorem xe_m4_cell (s : State) (cA cI : ClassId) : (xe_m4 s cA cI).2 = ((((xe_out0 cA).setSlot 0 (.ref (s.heap.size + 1))).setSlot 1 (.ref (s.heap.size + 2))).setSlot 2 (.ref (s.heap.size + 3))).setSlot 3 (.ref (s.heap.size + 4)) := by
  have i0 := xe_mI0 s cA
  have i1 := xe_mIs (cI := cI) i0
  have i2 := xe_mIs (cI := cI) i1
  have i3 := xe_mIs (cI := cI) i2
  show (xe_mt s.heap.size cI 3 _).2 = _
  rw [xe_mt_cell i3, xe_mt_cell i2, xe_mt_cell i1, xe_mt_cell i0]
  rfl
section
variable {p : Program} {l : Launch} {e : Env} {R : Room} {s : State} {m : MethodId} {args : Array Value} {below : List Frame} {meth : Method} {c : Code} {T : State} {locs : List Loc} {cells slots : Nat}
theorem xe_mStand1 {s0 : State} {cA cI : ClassId} {n : Nat} {q : State × Cell} (h : xe_mI s0 cA n q) (X : Stand p l e R s m args below meth c q.1 locs cells slots) : Stand p l e R s m args below meth c (xe_mt s0.heap.size cI n q).1 (locs ++ [⟨s0.heap.size, n⟩]) (cells + 1) (slots + 12) := by
  have X1 := X.pushed (xe_inr cI)
  have hc : (q.1.pushCell (xe_inr cI)).heap[s0.heap.size]? = some q.2 := by
    have := h.2.2.2.2.1
    simp [State.pushCell, Array.getElem?_push, show s0.heap.size ≠ q.1.heap.size by omega, h.1]
  have X2 := X1.stored hc n (.ref q.1.heap.size)
  simpa [xe_inr, xe_mt] using X2
theorem xe_mStand {cA cI : ClassId} (X : Stand p l e R s m args below meth c T locs cells slots) : Stand p l e R s m args below meth c (xe_m4 T cA cI).1 (locs ++ [⟨T.heap.size, 0⟩] ++ [⟨T.heap.size, 1⟩] ++ [⟨T.heap.size, 2⟩] ++ [⟨T.heap.size, 3⟩]) (cells + 5) (slots + 52) := by
  have i0 := xe_mI0 T cA
  have i1 := xe_mIs (cI := cI) i0
  have i2 := xe_mIs (cI := cI) i1
  have i3 := xe_mIs (cI := cI) i2
  have X0 : Stand p l e R s m args below meth c (xe_m0 T cA).1 locs (cells + 1) (slots + 4) := by simpa [xe_m0, xe_out0] using X.pushed (xe_out0 cA)
  exact xe_mStand1 i3 (xe_mStand1 i2 (xe_mStand1 i1 (xe_mStand1 i0 X0)))
end
