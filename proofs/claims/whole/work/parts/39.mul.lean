/-! new int[4][12], as the abstract machine has it -/
def xe_mulM (μ : xe_Mem) : xe_Mem := (μ.1 ++ [.inr (8, 4), .inr (0, 12), .inr (0, 12), .inr (0, 12), .inr (0, 12)], fun b j => if μ.1.length ≤ b ∧ b < μ.1.length + 5 then 0 else μ.2.1 b j, fun b j => if μ.1.length ≤ b ∧ b < μ.1.length + 5 then 0 else μ.2.2.1 b j, fun b j => if b = μ.1.length then (if j < 4 then some (μ.1.length + 1 + j) else none) else if μ.1.length < b ∧ b < μ.1.length + 5 then none else μ.2.2.2.1 b j, μ.2.2.2.2 + 52)
def xe_mul : xe_F := fun k ls st μ => match st with
  | .int b :: .int a :: r => if a = 4 ∧ b = 12 ∧ (xe_sh μ).length + 5 ≤ xg_CT ∧ xe_sl μ + 52 ≤ xg_ST then some (k + 1, ls, .ref (xe_sh μ).length :: r, xe_mulM μ) else none
  | _ => none
/-- old cells, and the rows made so far -/
def xe_mJ (s : State) (cI : ClassId) (n : Nat) (q : State × Cell) : Prop := (∀ a, a < s.heap.size → q.1.heap[a]? = s.heap[a]?) ∧ ∀ i, i < n → q.1.heap[s.heap.size + 1 + i]? = some (xe_inr cI)
theorem xe_mJ0 (s : State) (cA cI : ClassId) : xe_mJ s cI 0 (xe_m0 s cA) := by
  refine ⟨fun a ha => ?_, fun i hi => absurd hi (Nat.not_lt_zero i)⟩
  simp [xe_m0, State.pushCell, Array.getElem?_push, Nat.ne_of_lt ha]
theorem xe_mJs {s : State} {cA cI : ClassId} {n : Nat} {q : State × Cell} (h : xe_mI s cA n q) (hJ : xe_mJ s cI n q) : xe_mJ s cI (n + 1) (xe_mt s.heap.size cI n q) := by
  obtain ⟨h1, h2, h3, h4, h5, h6, h7⟩ := h
  have key : ∀ a, a ≠ s.heap.size → (xe_mt s.heap.size cI n q).1.heap[a]? = (q.1.heap.push (xe_inr cI))[a]? := by
    intro a ha
    simp [xe_mt, State.setCell, State.pushCell, Array.getElem?_setIfInBounds, Ne.symm ha]
  refine ⟨fun a ha => ?_, fun i hi => ?_⟩
  · rw [key a (Nat.ne_of_lt ha), Array.getElem?_push, if_neg (by omega)]
    exact hJ.1 a ha
  · rw [key _ (by omega), Array.getElem?_push]
    by_cases hin : i = n
    · rw [if_pos (by omega)]
    · rw [if_neg (by omega)]
      exact hJ.2 i (by omega)
theorem xe_mt_cell {s : State} {cA cI : ClassId} {n : Nat} {q : State × Cell} (h : xe_mI s cA n q) : (xe_mt s.heap.size cI n q).2 = q.2.setSlot n (.ref (s.heap.size + 1 + n)) := by
  simp [xe_mt, h.2.2.2.2.1]
theorem xe_m4_cell (s : State) (cA cI : ClassId) : (xe_m4 s cA cI).2 = ((((xe_out0 cA).setSlot 0 (.ref (s.heap.size + 1))).setSlot 1 (.ref (s.heap.size + 2))).setSlot 2 (.ref (s.heap.size + 3))).setSlot 3 (.ref (s.heap.size + 4)) := by
  have i0 := xe_mI0 s cA
  have i1 := xe_mIs (cI := cI) i0
  have i2 := xe_mIs (cI := cI) i1
  have i3 := xe_mIs (cI := cI) i2
  show (xe_mt s.heap.size cI 3 _).2 = _
  rw [xe_mt_cell i3, xe_mt_cell i2, xe_mt_cell i1, xe_mt_cell i0]
  rfl
section
variable {p : Program} {l : Launch} {e : Env} {R : Room} {s : State} {m : MethodId} {args : Array Value} {below : List Frame} {meth : Method} {c : Code} {T : State} {locs : List Loc} {cells slots : Nat}
theorem xe_mStand1 {s0 : State} {cA cI : ClassId} {n : Nat} {q : State × Cell} (h : xe_mI s0 cA n q) (X : Stand p l e R s m args below meth c q.1 locs cells slots) : Stand p l e R s m args below meth c (xe_mt s0.heap.size cI n q).1 (locs ++ [⟨s0.heap.size, n⟩]) (cells + 1) (slots + 12) := by
  have X1 := X.pushed (xe_inr cI)
  have hc : (q.1.pushCell (xe_inr cI)).heap[s0.heap.size]? = some q.2 := by
    have := h.2.2.2.2.1
    simp [State.pushCell, Array.getElem?_push, show s0.heap.size ≠ q.1.heap.size by omega, h.1]
  have X2 := X1.stored hc n (.ref q.1.heap.size)
  simpa [xe_inr, xe_mt] using X2
theorem xe_mStand {cA cI : ClassId} (X : Stand p l e R s m args below meth c T locs cells slots) : Stand p l e R s m args below meth c (xe_m4 T cA cI).1 (locs ++ [⟨T.heap.size, 0⟩] ++ [⟨T.heap.size, 1⟩] ++ [⟨T.heap.size, 2⟩] ++ [⟨T.heap.size, 3⟩]) (cells + 5) (slots + 52) := by
  have i0 := xe_mI0 T cA
  have i1 := xe_mIs (cI := cI) i0
  have i2 := xe_mIs (cI := cI) i1
  have i3 := xe_mIs (cI := cI) i2
  have X0 : Stand p l e R s m args below meth c (xe_m0 T cA).1 locs (cells + 1) (slots + 4) := by simpa [xe_m0, xe_out0] using X.pushed (xe_out0 cA)
  exact xe_mStand1 i3 (xe_mStand1 i2 (xe_mStand1 i1 (xe_mStand1 i0 X0)))
end
