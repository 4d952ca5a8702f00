/-! xe_: an abstract machine over numbered cells. A memory is: the shapes of the cells (an object of a class, an array of a kind and a length), what they hold of ints, of longs, of references, and how many slots they are. xe_OKL: what an operation of it says is what the machine does. -/
abbrev xe_Sh : Type := Nat ⊕ (Nat × Nat)
abbrev xe_Mem : Type := List xe_Sh × (Nat → Nat → Int32) × (Nat → Nat → Int64) × (Nat → Nat → Option Nat) × Nat
abbrev xe_sh (μ : xe_Mem) : List xe_Sh := μ.1
abbrev xe_I (μ : xe_Mem) : Nat → Nat → Int32 := μ.2.1
abbrev xe_L (μ : xe_Mem) : Nat → Nat → Int64 := μ.2.2.1
abbrev xe_R (μ : xe_Mem) : Nat → Nat → Option Nat := μ.2.2.2.1
abbrev xe_sl (μ : xe_Mem) : Nat := μ.2.2.2.2
def xe_u {α : Type} (f : Nat → Nat → α) (a k : Nat) (v : α) : Nat → Nat → α := fun b j => if b = a ∧ j = k then v else f b j
/-- a whole row of a cell anew -/
def xe_w {α : Type} (f : Nat → Nat → α) (a : Nat) (g : Nat → α) : Nat → Nat → α := fun b j => if b = a then g j else f b j
abbrev xe_setI (μ : xe_Mem) (a k : Nat) (v : Int32) : xe_Mem := (μ.1, xe_u μ.2.1 a k v, μ.2.2.1, μ.2.2.2.1, μ.2.2.2.2)
abbrev xe_setL (μ : xe_Mem) (a k : Nat) (v : Int64) : xe_Mem := (μ.1, μ.2.1, xe_u μ.2.2.1 a k v, μ.2.2.2.1, μ.2.2.2.2)
abbrev xe_setR (μ : xe_Mem) (a k : Nat) (v : Option Nat) : xe_Mem := (μ.1, μ.2.1, μ.2.2.1, xe_u μ.2.2.2.1 a k v, μ.2.2.2.2)
/-- a new cell: all that it holds is zero -/
abbrev xe_add (μ : xe_Mem) (s : xe_Sh) (n : Nat) : xe_Mem := (μ.1 ++ [s], xe_w μ.2.1 μ.1.length (fun _ => 0), xe_w μ.2.2.1 μ.1.length (fun _ => 0), xe_w μ.2.2.2.1 μ.1.length (fun _ => none), μ.2.2.2.2 + n)
abbrev xe_Ls : Type := List (Option Value)
/-- an operation: from its place, the locals, the stack and the memory to the next place and what stands there -/
abbrev xe_F : Type := Nat → xe_Ls → List Value → xe_Mem → Option (Nat × xe_Ls × List Value × xe_Mem)
/-- an instruction: an operation; a call (of which method, with how many values); an end (0 void, 1 with a value, 2 a throw) -/
abbrev xe_Ins : Type := xe_F ⊕ ((Nat × Nat) ⊕ Nat)
abbrev xe_Out : Type := Option Value ⊕ Nat
/-- a start: the classes' numbers and slots, the arrays' classes, the first new address, the addresses of what was there, the script -/
abbrev xe_Dy : Type := va_G × (Nat → ClassId) × Nat × (Nat → Nat) × Nat × (Nat → Int32)
abbrev xd_D (δ : xe_Dy) : va_G := δ.1
abbrev xd_A (δ : xe_Dy) : Nat → ClassId := δ.2.1
abbrev xd_b (δ : xe_Dy) : Nat := δ.2.2.1
abbrev xd_e (δ : xe_Dy) : Nat → Nat := δ.2.2.2.1
abbrev xd_n (δ : xe_Dy) : Nat := δ.2.2.2.2.1
abbrev xd_x (δ : xe_Dy) : Nat → Int32 := δ.2.2.2.2.2
def xe_ro (δ : xe_Dy) (a : Nat) : Nat := if a < 1000000 then xd_b δ + a else xd_e δ (a - 1000000)
def xe_v (δ : xe_Dy) : Value → Value
  | .ref a => .ref (xe_ro δ a)
  | v => v
theorem xe_v_rf (δ : xe_Dy) (r : Option Nat) : xe_v δ (va_rf r) = va_rf (r.map (xe_ro δ)) := by cases r <;> rfl
theorem xe_v_cat (δ : xe_Dy) (v : Value) : (xe_v δ v).category = v.category := by cases v <;> rfl
/-- which cells are ours -/
def xe_A (δ : xe_Dy) : Nat → Prop := fun q => xd_b δ ≤ q
def xe_fv (δ : xe_Dy) (μ : xe_Mem) (a k : Nat) : FieldType → Value
  | .long => .long (xe_L μ a k)
  | .object _ => va_rf ((xe_R μ a k).map (xe_ro δ))
  | .array _ => va_rf ((xe_R μ a k).map (xe_ro δ))
  | _ => .int (xe_I μ a k)
def xe_N (ci : Nat) : Nat := match xg_cl[ci]? with
  | some r => r.2.2
  | none => 0
def xe_fs (δ : xe_Dy) (μ : xe_Mem) (a ci : Nat) : List Value := (List.range (xe_N ci)).map (fun k => xe_fv δ μ a k (xg_ft ci k))
def xe_ar (δ : xe_Dy) (μ : xe_Mem) (a t : Nat) : (Nat → Int32) ⊕ (Nat → Int64) ⊕ (Nat → UInt32) ⊕ (Nat → UInt64) ⊕ (Nat → Option Nat) :=
  if t = 1 then .inr (.inl (xe_L μ a)) else if t < 4 then .inl (xe_I μ a) else .inr (.inr (.inr (.inr (fun i => (xe_R μ a i).map (xe_ro δ)))))
def xe_ce (δ : xe_Dy) (μ : xe_Mem) (a : Nat) : xe_Sh → va_E
  | .inl ci => .inr (ci, xe_fs δ μ a ci)
  | .inr q => .inl (xd_A δ q.1, q.2, xe_ar δ μ a q.1)
def xe_ws (δ : xe_Dy) (μ : xe_Mem) : va_W := (xe_sh μ).zipIdx.map (fun q => (xe_ro δ q.2, xe_ce δ μ q.2 q.1))
theorem xe_ws_get (δ : xe_Dy) (μ : xe_Mem) (a : Nat) : (xe_ws δ μ)[a]? = ((xe_sh μ)[a]?).map (fun s => (xe_ro δ a, xe_ce δ μ a s)) := by
  unfold xe_ws
  rw [List.getElem?_map, List.getElem?_zipIdx]
  cases (xe_sh μ)[a]? <;> simp
theorem xe_ws_at {δ : xe_Dy} {μ : xe_Mem} {a : Nat} {s : xe_Sh} (h : (xe_sh μ)[a]? = some s) : (xe_ws δ μ)[a]? = some (xe_ro δ a, xe_ce δ μ a s) := by
  rw [xe_ws_get, h]; rfl
theorem xe_ws_len (δ : xe_Dy) (μ : xe_Mem) : (xe_ws δ μ).length = (xe_sh μ).length := by simp [xe_ws]
/-- one cell anew -/
theorem xe_ws_set {δ : xe_Dy} {μ μ' : xe_Mem} {a : Nat} {s : xe_Sh} {e : va_E} (hs : xe_sh μ' = xe_sh μ) (h : (xe_sh μ)[a]? = some s) (he : xe_ce δ μ' a s = e) (ho : ∀ b z, b ≠ a → xe_ce δ μ' b z = xe_ce δ μ b z) : xe_ws δ μ' = (xe_ws δ μ).set a (xe_ro δ a, e) := by
  apply List.ext_getElem?
  intro b
  rw [xe_ws_get, hs]
  have hl : a < (xe_ws δ μ).length := by rw [xe_ws_len]; exact (List.getElem?_eq_some_iff.mp h).1
  by_cases hb : b = a
  · subst hb
    rw [List.getElem?_set_self hl, h]
    simp [he]
  · rw [List.getElem?_set_ne (Ne.symm hb), xe_ws_get]
    cases (xe_sh μ)[b]? with
    | none => rfl
    | some z => simp [ho b z hb]
theorem xe_u_self {α : Type} (f : Nat → Nat → α) (a k : Nat) (v : α) : xe_u f a k v a = fun j => if j = k then v else f a j := by
  funext j; simp [xe_u]
theorem xe_u_ne {α : Type} (f : Nat → Nat → α) {a b : Nat} (k : Nat) (v : α) (h : b ≠ a) : xe_u f a k v b = f b := by
  funext j; simp [xe_u, h]
theorem xe_w_self {α : Type} (f : Nat → Nat → α) (a : Nat) (g : Nat → α) : xe_w f a g a = g := by
  funext j; simp [xe_w]
theorem xe_w_ne {α : Type} (f : Nat → Nat → α) {a b : Nat} (g : Nat → α) (h : b ≠ a) : xe_w f a g b = f b := by
  funext j; simp [xe_w, h]
/-- a cell is told by what it holds -/
theorem xe_ce_congr {δ : xe_Dy} {μ μ' : xe_Mem} {b : Nat} (z : xe_Sh) (h1 : xe_I μ' b = xe_I μ b) (h2 : xe_L μ' b = xe_L μ b) (h3 : xe_R μ' b = xe_R μ b) : xe_ce δ μ' b z = xe_ce δ μ b z := by
  have hf : ∀ k ty, xe_fv δ μ' b k ty = xe_fv δ μ b k ty := by
    intro k ty
    cases ty <;> simp [xe_fv, h1, h2, h3]
  cases z with
  | inl ci => simp [xe_ce, xe_fs, hf]
  | inr q => simp [xe_ce, xe_ar, h1, h2, h3]
/-- a field anew -/
theorem xe_fs_set {δ : xe_Dy} {μ μ' : xe_Mem} {a ci k : Nat} {v : Value} (hv : xe_fv δ μ' a k (xg_ft ci k) = v) (ho : ∀ j ty, j ≠ k → xe_fv δ μ' a j ty = xe_fv δ μ a j ty) : xe_fs δ μ' a ci = (xe_fs δ μ a ci).set k v := by
  apply List.ext_getElem?
  intro j
  unfold xe_fs
  by_cases hj : j = k
  · subst hj
    by_cases hl : j < xe_N ci
    · rw [List.getElem?_set_self (by simpa using hl)]
      simp [hl, hv]
    · simp [hl]
  · rw [List.getElem?_set_ne (Ne.symm hj)]
    by_cases hl : j < xe_N ci
    · simp [hl, ho j _ hj]
    · simp [hl]
theorem xe_fs_get (δ : xe_Dy) (μ : xe_Mem) (a ci k : Nat) (h : k < xe_N ci) : (xe_fs δ μ a ci)[k]? = some (xe_fv δ μ a k (xg_ft ci k)) := by simp [xe_fs, h]
theorem xe_fs_len (δ : xe_Dy) (μ : xe_Mem) (a ci : Nat) : (xe_fs δ μ a ci).length = xe_N ci := by simp [xe_fs]
def xe_tys (δ : xe_Dy) : List (ClassId × FieldType) := xg_tl.zipIdx.map (fun q => (xd_A δ q.2, q.1))
theorem xe_tys_get (δ : xe_Dy) {t : Nat} {ty : FieldType} (h : xg_tl[t]? = some ty) : (xe_tys δ)[t]? = some (xd_A δ t, ty) := by
  unfold xe_tys
  rw [List.getElem?_map, List.getElem?_zipIdx, h]; simp
/-- the locals -/
def xe_lv (δ : xe_Dy) (ls : xe_Ls) : List (Nat × Value) := ls.zipIdx.filterMap (fun q => q.1.map (fun v => (q.2, xe_v δ v)))
theorem xe_lv_mem {δ : xe_Dy} {ls : xe_Ls} {i : Nat} {w : Value} : (i, w) ∈ xe_lv δ ls ↔ ∃ v, ls[i]? = some (some v) ∧ w = xe_v δ v := by
  unfold xe_lv
  rw [List.mem_filterMap]
  constructor
  · rintro ⟨⟨o, j⟩, hq, he⟩
    cases o with
    | none => simp at he
    | some v =>
      simp only [Option.map_some, Option.some.injEq, Prod.mk.injEq] at he
      obtain ⟨rfl, rfl⟩ := he
      have := List.mem_zipIdx_iff_getElem?.mp hq
      exact ⟨v, this, rfl⟩
  · rintro ⟨v, hv, rfl⟩
    exact ⟨(some v, i), List.mem_zipIdx_iff_getElem?.mpr hv, rfl⟩
def xe_cut (ls : xe_Ls) : Nat → xe_Ls
  | 0 => ls
  | j + 1 => match ls[j]? with
    | some (some (.long _)) => ls.set j none
    | some (some (.double _)) => ls.set j none
    | _ => ls
def xe_st1 (ls : xe_Ls) (i : Nat) (v : Value) : xe_Ls := (xe_cut ls i).set i (some v)
def xe_st2 (ls : xe_Ls) (i : Nat) (v : Value) : xe_Ls := ((xe_cut ls i).set i (some v)).set (i + 1) none
theorem xe_cut_at {ls : xe_Ls} {i j : Nat} {v : Value} (h : (xe_cut ls i)[j]? = some (some v)) : ls[j]? = some (some v) ∧ ¬ (j + 1 = i ∧ v.category = 2) := by
  cases i with
  | zero => exact ⟨h, fun h => by omega⟩
  | succ i =>
    simp only [xe_cut] at h
    split at h
    · rename_i x hx
      by_cases hj : j = i
      · subst hj
        rw [List.getElem?_set_self (List.getElem?_eq_some_iff.mp hx).1] at h
        cases h
      · rw [List.getElem?_set_ne (Ne.symm hj)] at h
        exact ⟨h, fun q => hj (by omega)⟩
    · rename_i x hx
      by_cases hj : j = i
      · subst hj
        rw [List.getElem?_set_self (List.getElem?_eq_some_iff.mp hx).1] at h
        cases h
      · rw [List.getElem?_set_ne (Ne.symm hj)] at h
        exact ⟨h, fun q => hj (by omega)⟩
    · rename_i n1 n2
      refine ⟨h, fun q => ?_⟩
      have hj : j = i := by omega
      subst hj
      cases v with
      | long x => exact n1 x h
      | double x => exact n2 x h
      | _ => exact absurd q.2 (by simp [Value.category])
theorem xe_st1_has {δ : xe_Dy} {lsJ : Array Slot} {n i : Nat} {ls : xe_Ls} {v : Value} (h : lv_has lsJ n ((i, xe_v δ v) :: (xe_lv δ ls).filter (fun q => !(q.1 == i) && !(q.1 + 1 == i && q.2.category == 2)))) : lv_has lsJ n (xe_lv δ (xe_st1 ls i v)) := by
  refine ⟨h.1, h.2.1, fun q hq => h.2.2 q ?_⟩
  obtain ⟨j, w⟩ := q
  obtain ⟨x, hx, rfl⟩ := xe_lv_mem.mp hq
  unfold xe_st1 at hx
  by_cases hj : j = i
  · subst hj
    by_cases hl : j < (xe_cut ls j).length
    · rw [List.getElem?_set_self hl] at hx
      cases hx
      exact List.mem_cons_self
    · rw [List.getElem?_eq_none (by simpa using hl)] at hx
      cases hx
  · rw [List.getElem?_set_ne (Ne.symm hj)] at hx
    obtain ⟨h1, h2⟩ := xe_cut_at hx
    refine List.mem_cons_of_mem _ (List.mem_filter.mpr ⟨xe_lv_mem.mpr ⟨x, h1, rfl⟩, ?_⟩)
    simp only [Bool.and_eq_true, Bool.not_eq_true', beq_eq_false_iff_ne, ne_eq, Bool.and_eq_false_iff, xe_v_cat]
    refine ⟨hj, ?_⟩
    by_cases h3 : j + 1 = i
    · exact Or.inr (fun h4 => h2 ⟨h3, h4⟩)
    · exact Or.inl h3
theorem xe_st2_has {δ : xe_Dy} {lsJ : Array Slot} {n i : Nat} {ls : xe_Ls} {v : Value} (h : lv_has lsJ n ((i, xe_v δ v) :: (xe_lv δ ls).filter (fun q => !(q.1 == i) && (!(q.1 == i + 1) && !(q.1 + 1 == i && q.2.category == 2))))) : lv_has lsJ n (xe_lv δ (xe_st2 ls i v)) := by
  refine ⟨h.1, h.2.1, fun q hq => h.2.2 q ?_⟩
  obtain ⟨j, w⟩ := q
  obtain ⟨x, hx, rfl⟩ := xe_lv_mem.mp hq
  unfold xe_st2 at hx
  by_cases hk : j = i + 1
  · subst hk
    by_cases hl : i + 1 < ((xe_cut ls i).set i (some v)).length
    · rw [List.getElem?_set_self hl] at hx
      cases hx
    · rw [List.getElem?_eq_none (by simpa using hl)] at hx
      cases hx
  rw [List.getElem?_set_ne (Ne.symm hk)] at hx
  by_cases hj : j = i
  · subst hj
    by_cases hl : j < (xe_cut ls j).length
    · rw [List.getElem?_set_self hl] at hx
      cases hx
      exact List.mem_cons_self
    · rw [List.getElem?_eq_none (by simpa using hl)] at hx
      cases hx
  · rw [List.getElem?_set_ne (Ne.symm hj)] at hx
    obtain ⟨h1, h2⟩ := xe_cut_at hx
    refine List.mem_cons_of_mem _ (List.mem_filter.mpr ⟨xe_lv_mem.mpr ⟨x, h1, rfl⟩, ?_⟩)
    simp only [Bool.and_eq_true, Bool.not_eq_true', beq_eq_false_iff_ne, ne_eq, Bool.and_eq_false_iff, xe_v_cat]
    refine ⟨hj, hk, ?_⟩
    by_cases h3 : j + 1 = i
    · exact Or.inr (fun h4 => h2 ⟨h3, h4⟩)
    · exact Or.inl h3
/-- a method: its name, its bytes, how many locals, what it returns, its handlers, the pc of each of its instructions -/
abbrev xe_Y : Type := MethodName × ByteArray × Nat × Option FieldType × List (Nat × Nat × Nat × Nat) × List Nat
abbrev xy_n (Y : xe_Y) : MethodName := Y.1
abbrev xy_b (Y : xe_Y) : ByteArray := Y.2.1
abbrev xy_l (Y : xe_Y) : Nat := Y.2.2.1
abbrev xy_r (Y : xe_Y) : Option FieldType := Y.2.2.2.1
abbrev xy_h (Y : xe_Y) : List (Nat × Nat × Nat × Nat) := Y.2.2.2.2.1
abbrev xy_p (Y : xe_Y) : List Nat := Y.2.2.2.2.2
def xe_pc (Y : xe_Y) (k : Nat) : Nat := (xy_p Y).getD k 0
/-- the constants of the class's enum, in their order; their fields that are ints -/
def xg_kn : List String := ["PORT", "SENSOR", "MODE", "TASK", "ON", "IF", "ELSE", "REPEAT", "SWITCH", "TO", "SLOTS", "OPEN", "CLOSE", "SEMICOLON", "COMMA", "BECOMES", "LEFT", "RIGHT", "LESS", "MORE", "PLUS", "MINUS", "TIMES", "OVER", "REST", "NAME", "NUMBER", "END", "WRONG"]
def xg_kl : List Int32 := [-1, -1, -1, -1, -1, -1, -1, -1, -1, -1, -1, -1, -1, -1, -1, -1, -1, -1, 0, 0, 1, 1, 2, 2, 2, -1, -1, -1, -1]
def xg_ka : List Int32 := [0, 0, 0, 0, 0, 0, 0, 0, 0, 0, 0, 0, 0, 0, 0, 0, 0, 0, 11, 12, 6, 7, 8, 9, 10, 0, 0, 0, 0]
def xg_ko : List Int32 := [0, 1, 2, 3, 4, 5, 6, 7, 8, 9, 10, 11, 12, 13, 14, 15, 16, 17, 18, 19, 20, 21, 22, 23, 24, 25, 26, 27, 28]
def xg_kf : List (String × String × String × List Int32) := [("java/lang/Enum", "ordinal", "I", xg_ko), ("LogicalTimes$Kind", "level", "I", xg_kl), ("LogicalTimes$Kind", "act", "I", xg_ka)]
/-- a static field and its cell -/
def xe_LS (C n d : String) (A : Nat → Prop) (s : State) (H : Heap) : Prop := ∃ (c : ClassId) (k : Class) (i : Nat) (f : Field) (a : Nat) (cell : Cell), s.vm.findClass C = some c ∧ s.fieldFound? C n d = some (c, k, i, f) ∧ f.isStatic = true ∧ k.statics = some a ∧ H[a]? = some cell ∧ cell.vm.isStatics = true ∧ cell.cls = c ∧ f.slot < cell.slots.size ∧ k.staticTypes[f.slot]? = some f.type ∧ ¬ A a
theorem xe_LS.moved {C n d : String} {A : Nat → Prop} {u U : State} {H : Heap} (hvm : u.vm.Alike U.vm) (h : xe_LS C n d A u H) : xe_LS C n d A U H := by
  obtain ⟨c, k, i, f, a, cell, h0, h1, h2, h3, h4, h5, h6, h7, h8, h9⟩ := h
  obtain ⟨k', hi', he⟩ := State.fieldFound?_setVm hvm h1
  exact ⟨c, k', i, f, a, cell, by rw [hvm.findClass]; exact h0, hi', h2, by rw [he]; exact h3, h4, h5, h6, h7, by rw [he]; exact h8, h9⟩
theorem xe_LS.kept {C n d : String} {A : Nat → Prop} {U : State} {H H1 : Heap} (h : xe_LS C n d A U H) (hq : ∀ a : Nat, a < H.size → ¬ A a → H1[a]? = H[a]?) : xe_LS C n d A U H1 := by
  obtain ⟨c, k, i, f, a, cell, h0, h1, h2, h3, h4, h5, h6, h7, h8, h9⟩ := h
  exact ⟨c, k, i, f, a, cell, h0, h1, h2, h3, by rw [hq a (Array.getElem?_eq_some_iff.mp h4).1 h9]; exact h4, h5, h6, h7, h8, h9⟩
theorem xe_LS.use {C n d : String} {A : Nat → Prop} {s : State} (args : Array Value) (h : xe_LS C n d A s s.heap) : (Cond.laysStatic C n d).before args s = true := by
  obtain ⟨c, k, i, f, a, cell, h0, h1, h2, h3, h4, h5, h6, h7, h8, h9⟩ := h
  simp [Cond.before, Cond.holds, Cond.value, h0, h1, h2, h3, h4, h5, h6, h7, h8]
theorem xe_LS.of {C n d : String} {A : Nat → Prop} {s : State} {args : Array Value} (h : (Cond.laysStatic C n d).before args s = true) (hA : ∀ a : Nat, a < s.heap.size → ¬ A a) : xe_LS C n d A s s.heap := by
  obtain ⟨c, k, i, f, a, cell, h0, h1, h2, h3, h4, h5, h6, h7, h8⟩ := Cond.laysStatic_spec h
  exact ⟨c, k, i, f, a, cell, h0, h1, h2, h3, h4, h5, h6, h7, h8, hA a (Array.getElem?_eq_some_iff.mp h4).1⟩
/-- the classes of int[][] and int[] -/
def xe_MA (δ : xe_Dy) (s : State) : Prop := ∃ (kA kI : Class) (c0 : ClassId), s.vm.classes[xd_A δ 8]? = some kA ∧ kA.kind = .array (xd_A δ 0) (.array .int) ∧ s.vm.classes[xd_A δ 0]? = some kI ∧ kI.kind = .array c0 .int
theorem xe_MA.moved {δ : xe_Dy} {u U : State} (hvm : u.vm.Alike U.vm) (h : xe_MA δ u) : xe_MA δ U := by
  obtain ⟨kA, kI, c0, h1, h2, h3, h4⟩ := h
  obtain ⟨kA', hA', eA⟩ := hvm.2.2 _ _ h1
  obtain ⟨kI', hI', eI⟩ := hvm.2.2 _ _ h3
  exact ⟨kA', kI', c0, hA', by rw [eA]; exact h2, hI', by rw [eI]; exact h4⟩
/-- how the constants of the enum are spelled -/
def xg_sp : List (List Int32) := [[112, 111, 114, 116], [115, 101, 110, 115, 111, 114], [109, 111, 100, 101], [116, 97, 115, 107], [111, 110], [105, 102], [101, 108, 115, 101], [114, 101, 112, 101, 97, 116], [115, 119, 105, 116, 99, 104], [116, 111], [115, 108, 111, 116, 115], [123], [125], [59], [44], [61], [40], [41], [60], [62], [43], [45], [42], [47], [37], [], [], [], []]
/-- the enum's array of its constants; their spellings: strings, at 31 and on, and their bytes, at 60 and on; two statics more -/
def xg_ES (δ : xe_Dy) (s : State) (H : Heap) : Prop := va_Z "LogicalTimes$Kind" "ALL" "[LLogicalTimes$Kind;" (.ref (xd_e δ 30)) (xe_A δ) s H ∧ va_T (.object "LogicalTimes$Kind") (xd_e δ 30) 29 (fun i => .ref (xd_e δ (i + 1))) (xe_A δ) s H ∧ va_Ef 29 "LogicalTimes$Kind" "spelling" "Ljava/lang/String;" (fun i => .ref (xd_e δ (i + 31))) (fun i => xd_e δ (i + 1)) (xe_A δ) s H ∧ (∀ i, i < 29 → va_O "java/lang/String" (xd_e δ (i + 31)) (xe_A δ) s H) ∧ va_Ef 29 "java/lang/String" "value" "[B" (fun i => .ref (xd_e δ (i + 60))) (fun i => xd_e δ (i + 31)) (xe_A δ) s H ∧ va_Ef 29 "java/lang/String" "coder" "B" (fun _ => .int 0) (fun i => xd_e δ (i + 31)) (xe_A δ) s H ∧ (∀ i, i < 29 → va_T .byte (xd_e δ (i + 60)) (xg_sp.getD i []).length (fun j => .int ((xg_sp.getD i []).getD j 0)) (xe_A δ) s H) ∧ va_Z "java/lang/String" "COMPACT_STRINGS" "Z" (.int 1) (xe_A δ) s H ∧ va_Z "jdk/internal/util/Preconditions" "SIOOBE_FORMATTER" "Ljava/util/function/BiFunction;" (if xd_e δ 90 = 0 then .null else .ref (xd_e δ 89)) (xe_A δ) s H
theorem xg_ES_kept {δ : xe_Dy} {s t : State} (h : xg_ES δ s s.heap) (ha : s.vm.Alike t.vm) (hF : va_F (xe_A δ) s t) : xg_ES δ t t.heap := by
  obtain ⟨h1, h2, h3, h4, h5, h6, h7, h8, h9⟩ := h
  exact ⟨(h1.moved ha).kept hF.2, (h2.moved ha).kept hF.2, (h3.moved ha).kept hF.2, fun i hi => ((h4 i hi).moved ha).kept hF.2, (h5.moved ha).kept hF.2, (h6.moved ha).kept hF.2, fun i hi => ((h7 i hi).moved ha).kept hF.2, (h8.moved ha).kept hF.2, (h9.moved ha).kept hF.2⟩
/-- what was there before, at the addresses xd_e: 0 the script, 1 and on the enum's constants; two statics of Throwable -/
def xg_EX (δ : xe_Dy) (s : State) (H : Heap) : Prop := va_X (xd_e δ 0) (xd_n δ) (xd_x δ) s H ∧ xd_e δ 0 < xd_b δ ∧ xd_b δ ≤ H.size ∧ va_Zq "java/lang/Throwable" "UNASSIGNED_STACK" "[Ljava/lang/StackTraceElement;" (xe_A δ) s H ∧ va_Zq "java/lang/Throwable" "SUPPRESSED_SENTINEL" "Ljava/util/List;" (xe_A δ) s H ∧ va_En "LogicalTimes$Kind" "LLogicalTimes$Kind;" xg_kn xg_kf (fun i => xd_e δ (i + 1)) (xe_A δ) s H ∧ va_Nc "java/util/NoSuchElementException" "java/lang/IllegalStateException" s ∧ va_Nc "java/lang/IllegalArgumentException" "java/lang/IllegalStateException" s ∧ va_Nc "java/lang/IllegalArgumentException" "java/util/NoSuchElementException" s ∧ xe_LS "java/lang/Throwable" "UNASSIGNED_STACK" "[Ljava/lang/StackTraceElement;" (xe_A δ) s H ∧ xe_LS "java/lang/Throwable" "SUPPRESSED_SENTINEL" "Ljava/util/List;" (xe_A δ) s H ∧ xe_MA δ s ∧ xg_ES δ s H
theorem xg_EX_kept {δ : xe_Dy} {s t : State} (h : xg_EX δ s s.heap) (ha : s.vm.Alike t.vm) (hF : va_F (xe_A δ) s t) : xg_EX δ t t.heap := by
  obtain ⟨h1, h2, h3, h4, h5, h6, h7, h8, h9, hx, hy, hz, hw⟩ := h
  have hb : xd_e δ 0 < s.heap.size := Nat.lt_of_lt_of_le h2 h3
  refine ⟨(h1.moved ha).kept (hF.2 _ hb (fun z => Nat.not_le.mpr h2 z)), h2, Nat.le_trans h3 hF.1, (h4.moved ha).kept hF.2, (h5.moved ha).kept hF.2, (h6.moved ha).kept hF.2, h7.moved ha, h8.moved ha, h9.moved ha, (hx.moved ha).kept hF.2, (hy.moved ha).kept hF.2, hz.moved ha, xg_ES_kept hw ha hF⟩
/-- where an invocation of Y stands -/
def xe_Cx (δ : xe_Dy) (Y : xe_Y) (p : Program) (s : State) (m : MethodId) (args : Array Value) (meth : Method) (c : Code) : Prop :=
  p.tables.exec = Jvm.exec ∧ c.code = xy_b Y ∧ c.maxLocals = xy_l Y ∧ s.vm.findClass (xy_n Y).cls = some m.cls ∧ meth.name = (xy_n Y).name ∧ meth.sig.returnType = xy_r Y ∧ meth.locks = false ∧ (∀ w ∈ xg_tb, w.before args s = true) ∧ va_K (xd_D δ) xg_cl (xe_tys δ) s ∧ xg_EX δ s s.heap ∧ c.exceptionTable.toList.map (fun h => (h.startPc, h.endPc, h.handlerPc, h.catchType)) = xy_h Y
/-- the memory μ is the heap H, as far as it is ours; n0, s0: cells and slots at the invocation's start -/
def xe_Rl (δ : xe_Dy) (R : Room) (s : State) (n0 s0 : Nat) (μ : xe_Mem) (H : Heap) (locs : List Loc) (cells slots : Nat) : Prop :=
  va_P (xd_D δ) xg_cl (xe_ws δ μ) H ∧ va_D (xe_A δ) (xe_ws δ μ) ∧ va_S (xe_A δ) s.heap H locs ∧ s.heap.size = xd_b δ + n0 ∧ (xe_sh μ).length ≤ xg_CT ∧ xe_sl μ ≤ xg_ST ∧ cells + n0 = (xe_sh μ).length ∧ slots + s0 = xe_sl μ ∧ R.cells + n0 = xg_CT ∧ R.slots + s0 = xg_ST
/-- what the operation f at the place k says, the machine does -/
def xe_OKL (δ : xe_Dy) (Y : xe_Y) (k : Nat) (f : xe_F) : Prop :=
  ∀ (p : Program) (l : Launch) (e : Env) (R : Room) (s : State) (m : MethodId) (args : Array Value) (below : List Frame) (meth : Method) (c : Code) (n0 s0 : Nat) (H : Heap) (locs : List Loc) (cells slots : Nat) (Q : State → Prop) (lsJ : Array Slot) (ls : xe_Ls) (st : List Value) (μ : xe_Mem) (k' : Nat) (ls' : xe_Ls) (st' : List Value) (μ' : xe_Mem),
    xe_Cx δ Y p s m args meth c → 1 ≤ R.frames → 64 ≤ R.locals → xe_Rl δ R s n0 s0 μ H locs cells slots → lv_has lsJ (xy_l Y) (xe_lv δ ls) → f k ls st μ = some (k', ls', st', μ') →
    (∀ (H' : Heap) (locs' : List Loc) (cells' slots' : Nat) (lsJ' : Array Slot), xe_Rl δ R s n0 s0 μ' H' locs' cells' slots' → lv_has lsJ' (xy_l Y) (xe_lv δ ls') →
      W p l e R s m args below meth c H' locs' cells' slots' Q (F0 m (xe_pc Y k') lsJ' (st'.map (xe_v δ)))) →
    W p l e R s m args below meth c H locs cells slots Q (F0 m (xe_pc Y k) lsJ (st.map (xe_v δ)))
