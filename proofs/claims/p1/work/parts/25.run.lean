/-! the abstract machine's runs -/
def xe_l0 : List Value → xe_Ls
  | [] => []
  | v :: vs => if v.category = 2 then some v :: none :: xe_l0 vs else some v :: xe_l0 vs
def xe_init (as : List Value) (n : Nat) : xe_Ls := xe_l0 as ++ List.replicate (n - (xe_l0 as).length) none
theorem xe_l0_len (δ : xe_Dy) (as : List Value) : (lg_sl (as.map (xe_v δ))).length = (xe_l0 as).length := by
  induction as with
  | nil => rfl
  | cons v vs ih =>
    have h : lg_sl ((v :: vs).map (xe_v δ)) = (if (xe_v δ v).category = 2 then [.val (xe_v δ v), .second] else [.val (xe_v δ v)]) ++ lg_sl (vs.map (xe_v δ)) := by simp [lg_sl]
    rw [h, List.length_append, ih, xe_v_cat, xe_l0]
    by_cases hc : v.category = 2
    · rw [if_pos hc, if_pos hc]; simp; omega
    · rw [if_neg hc, if_neg hc]; simp; omega
theorem xe_l0_at (δ : xe_Dy) (as : List Value) : ∀ (b i : Nat) (v : Value), (xe_l0 as)[i]? = some (some v) → (b + i, xe_v δ v) ∈ lv_args b (as.map (xe_v δ)) := by
  induction as with
  | nil => intro b i v h; simp [xe_l0] at h
  | cons w vs ih =>
    intro b i v h
    unfold xe_l0 at h
    rw [List.map_cons, lv_args, xe_v_cat]
    split at h
    · rename_i hc
      rw [if_pos hc]
      cases i with
      | zero => simp at h; subst h; exact List.mem_cons_self
      | succ i =>
        cases i with
        | zero => simp at h
        | succ i =>
          have := ih (b + 2) i v (by simpa using h)
          rw [show b + (i + 1 + 1) = b + 2 + i by omega]
          exact List.mem_cons_of_mem _ this
    · rename_i hc
      rw [if_neg hc]
      cases i with
      | zero => simp at h; subst h; exact List.mem_cons_self
      | succ i =>
        have := ih (b + 1) i v (by simpa using h)
        rw [show b + (i + 1) = b + 1 + i by omega]
        exact List.mem_cons_of_mem _ this
theorem xe_entry (δ : xe_Dy) (as : List Value) {n : Nat} (h : (xe_l0 as).length ≤ n) : lv_has ((lg_sl (as.map (xe_v δ)) ++ List.replicate (n - (lg_sl (as.map (xe_v δ))).length) Slot.unset).toArray) n (xe_lv δ (xe_init as n)) := by
  have h1 := lv_entry (as.map (xe_v δ)) (n := n) (by rw [xe_l0_len]; exact h)
  refine ⟨h1.1, h1.2.1, fun q hq => h1.2.2 q ?_⟩
  obtain ⟨i, w⟩ := q
  obtain ⟨v, hv, rfl⟩ := xe_lv_mem.mp hq
  unfold xe_init at hv
  by_cases hi : i < (xe_l0 as).length
  · rw [List.getElem?_append_left hi] at hv
    have := xe_l0_at δ as 0 i v hv
    simpa using this
  · rw [List.getElem?_append_right (by omega)] at hv
    have := List.eq_of_mem_replicate (List.mem_of_getElem? hv)
    cases this
abbrev xe_Cll : Type := Nat × Nat × Nat
/-- an instruction: an operation; a call (of which method, with how many values, on an object of which class: its number and 1, 0 if none is asked, 101 for one of the enum's constants, 102 for the spelling of one); an end (0 void, 1 with an int, 2 a throw, 3 with a truth value, 4 with a reference, 5 with a byte or a char below 128, 6 and on: an exception of the class of that number less 6 is made and thrown) -/
abbrev xe_In : Type := xe_F ⊕ (xe_Cll ⊕ Nat)
def xe_ci (μ : xe_Mem) (a : Nat) : Option Nat := match (xe_sh μ)[a]? with
  | some (.inl ci) => some ci
  | _ => none
def xe_rcv (μ : xe_Mem) (rc : Nat) (as : List Value) : Bool := match rc with
  | 0 => true
  | ci + 1 => match as with
    | .ref a :: _ => if ci = 100 then decide (1000001 ≤ a ∧ a < 1000030) else if ci = 101 then decide (1000031 ≤ a ∧ a < 1000060) else decide ((xe_sh μ)[a]? = some (.inl ci))
    | _ => false
section
variable (MC : Nat → List xe_In) (ML : Nat → Nat) (MH : Nat → Nat → Nat → Option (Option Nat))
def xe_run : Nat → Nat → Nat → Nat → xe_Ls → List Value → xe_Mem → Option (xe_Out × xe_Mem)
  | 0, _, _, _, _, _, _ => none
  | n + 1, d, y, k, ls, st, μ => match (MC y)[k]? with
    | some (.inl f) => match f k ls st μ with
      | some r => xe_run n d y r.1 r.2.1 r.2.2.1 r.2.2.2
      | none => none
    | some (.inr (.inl q)) => match d with
      | 0 => none
      | d' + 1 => if st.length < q.2.1 ∨ xe_rcv μ q.2.2 (st.take q.2.1).reverse = false ∨ 20 < ((st.drop q.2.1).map fun v => v.category).sum ∨ ML q.1 < (xe_l0 (st.take q.2.1).reverse).length ∨ 33 < ML q.1 then none else
        match xe_run n d' q.1 0 (xe_init (st.take q.2.1).reverse (ML q.1)) [] μ with
        | some (.inl v, μ') => xe_run n d y (k + 1) ls (v.toList ++ st.drop q.2.1) μ'
        | some (.inr a, μ') => match xe_ci μ' a with
          | none => none
          | some ci => match MH y k ci with
            | some (some h) => xe_run n d y h ls [.ref a] μ'
            | some none => some (.inr a, μ')
            | none => none
        | none => none
    | some (.inr (.inr z)) => match z, st with
      | 0, [] => some (.inl none, μ)
      | 1, [.int v] => some (.inl (some (.int v)), μ)
      | 2, .ref a :: _ => match xe_ci μ a with
        | none => none
        | some ci => if MH y k ci = some none then some (.inr a, μ) else none
      | 3, [.int v] => if v = 0 ∨ v = 1 then some (.inl (some (.int v)), μ) else none
      | 4, [.ref a] => some (.inl (some (.ref a)), μ)
      | 4, [.null] => some (.inl (some .null), μ)
      | 5, [.int v] => if 0 ≤ v ∧ v < 128 then some (.inl (some (.int v)), μ) else none
      | c + 6, st => if (xe_sh μ).length < xg_CT ∧ xe_sl μ + 6 ≤ xg_ST ∧ (st.map fun v => v.category).sum ≤ 20 ∧ MH y k c = some none then some (.inr (xe_sh μ).length, xe_add μ (.inl c) 6) else none
      | _, _ => none
    | none => none
end
/-- a word of the tables that stays true where they grow -/
def xe_kp (w : Cond) : Prop := ∀ (args args' : Array Value) (s U : State), s.WarmedH U.vm → w.before args s = true → w.before args' U = true
theorem xe_kp_of {w : Cond} (h : (w.onTables && w.keeps) = true ∨ ∃ ty, w = .arrayClass ty) : xe_kp w := fun _ _ _ _ hW hb => word_at hW h hb
def xe_cv (δ : xe_Dy) : xe_Out → Outcome
  | .inl v => .returned (v.map (xe_v δ))
  | .inr a => .threw (xe_ro δ a)
/-- the end of an invocation that began in s with n0 cells of s0 slots -/
def xe_Qx (δ : xe_Dy) (n0 s0 : Nat) (o : xe_Out) (μ : xe_Mem) (s : State) (oc : Outcome) (t : State) : Prop :=
  oc = xe_cv δ o ∧ va_P (xd_D δ) xg_cl (xe_ws δ μ) t.heap ∧ va_D (xe_A δ) (xe_ws δ μ) ∧ va_F (xe_A δ) s t ∧ n0 ≤ (xe_sh μ).length ∧ s0 ≤ xe_sl μ ∧ (xe_sh μ).length ≤ xg_CT ∧ xe_sl μ ≤ xg_ST ∧ s.WarmedH t.vm ∧ ∃ L, s.sameButNew ({ t with vm := s.vm } : State) L ((xe_sh μ).length - n0) (xe_sl μ - s0) ∧ ∀ q ∈ L, xe_A δ q.base
def xe_End (δ : xe_Dy) (n0 s0 : Nat) (o : xe_Out) (μ : xe_Mem) (s : State) (below : List Frame) : State → Prop := fun t => ∃ oc, t.status = .running ∧ Ended t below oc ∧ xe_Qx δ n0 s0 o μ s oc t
theorem xe_Wmono {p : Program} {l : Launch} {e : Env} {R : Room} {s : State} {m : MethodId} {args : Array Value} {below : List Frame} {meth : Method} {c : Code} {H : Heap} {locs : List Loc} {cells slots : Nat} {Q Q' : State → Prop} {g : JFrame} (h : W p l e R s m args below meth c H locs cells slots Q g) (hQ : ∀ t, Q t → Q' t) : W p l e R s m args below meth c H locs cells slots Q' g := by
  intro T hT X
  obtain ⟨t, a, b⟩ := h T hT X
  exact ⟨t, a, hQ t b⟩
/-- the room of an invocation d deep at the most, with n0 cells of s0 slots made -/
def xe_rm (d n0 s0 : Nat) : Room := { frames := d + 8, cells := xg_CT - n0, slots := xg_ST - s0, locals := 64 * d + 256 }
def xe_Pc (δ : xe_Dy) (as : List Value) (μ : xe_Mem) (a : Array Value) (s : State) : Prop :=
  a = (as.map (xe_v δ)).toArray ∧ s.heap.size = xd_b δ + (xe_sh μ).length ∧ va_P (xd_D δ) xg_cl (xe_ws δ μ) s.heap ∧ va_D (xe_A δ) (xe_ws δ μ) ∧ va_K (xd_D δ) xg_cl (xe_tys δ) s ∧ xg_EX δ s s.heap
/-- the method Z, called with as in the memory μ, comes to o and μ' -/
def xe_Met (δ : xe_Dy) (l : Launch) (Z : xe_Y) (d : Nat) (as : List Value) (μ : xe_Mem) (o : xe_Out) (μ' : xe_Mem) : Prop :=
  MetFree l (xy_n Z) (headSpec xg_tb (xe_rm d (xe_sh μ).length (xe_sl μ))) (xe_Pc δ as μ) (fun _ _ _ _ _ => True) (fun _ s oc t => xe_Qx δ (xe_sh μ).length (xe_sl μ) o μ' s oc t)
/-- the word of the tables that has the method's code -/
def xe_cw (Y : xe_Y) : Cond := match xy_h Y with
  | [] => .code (xy_n Y) (xy_b Y) (xy_l Y) (xy_r Y)
  | _ => .codeWith (xy_n Y) (xy_b Y) (xy_l Y) (xy_r Y) (xy_h Y)
theorem xe_cw_spec {Y : xe_Y} {s : State} {args : Array Value} (h : (xe_cw Y).before args s = true) : ∃ m meth c, s.methodNamed? (xy_n Y) = some m ∧ s.vm.method? m = some meth ∧ meth.code = some c ∧ c.code = xy_b Y ∧ c.maxLocals = xy_l Y ∧ c.exceptionTable.toList.map (fun h => (h.startPc, h.endPc, h.handlerPc, h.catchType)) = xy_h Y ∧ meth.sig.returnType = xy_r Y ∧ meth.locks = false ∧ parseMethodDescriptor (xy_n Y).desc = some meth.sig := by
  unfold xe_cw at h
  split at h
  · rename_i h0
    obtain ⟨m, hn⟩ := Cond.code_named h
    obtain ⟨meth, c, h1, h2, h3, h4, h5, h6, h7, h8⟩ := Cond.code_spec hn h
    refine ⟨m, meth, c, hn, h1, h2, h3, h4, ?_, h5, h6, h8⟩
    have hz : c.exceptionTable.size = 0 := by simpa [Array.isEmpty] using h7
    have : c.exceptionTable.toList = [] := List.eq_nil_of_length_eq_zero (by simpa using hz)
    rw [this, h0]
    rfl
  · exact Cond.codeWith_spec h
