/-! the law's start: what was there -/
theorem xl_D {s : State} {args : Array Value} (hts : ∀ w ∈ lw_tbl, w.before args s = true) : ∃ D : va_G, ∀ (c : Nat) (q : vw_C), xg_cl[c]? = some q → u_Kn s q.1 q.2.1 q.2.2 (D.1 c) (D.2 c) := by
  have htx : ∀ w ∈ xg_tb, w.before args s = true := fun w hw => hts w (List.mem_filter.mp hw).1
  have h0 : ∀ c : Nat, ∃ z : ClassId × (Nat → Nat), ∀ q, xg_cl[c]? = some q → u_Kn s q.1 q.2.1 q.2.2 z.1 z.2 := by
    intro c
    cases hq : xg_cl[c]? with
    | none => exact ⟨(0, fun _ => 0), fun q h => by cases h⟩
    | some r =>
      have hc : c < 15 := (List.getElem?_eq_some_iff.mp hq).1
      have hi := xl_cls c hc
      have e1 : (xg_cl.map (fun q => q.1)).getD c "" = r.1 := by simp [List.getD_eq_getElem?_getD, List.getElem?_map, hq]
      rw [e1] at hi
      obtain ⟨cC, iS, hK⟩ := u_known htx (xl_uws c r hq) (hts _ (xl_w _ hi))
      exact ⟨(cC, iS), fun q h => by cases h; exact hK⟩
  obtain ⟨f, hf⟩ := Classical.axiomOfChoice h0
  exact ⟨(fun c => (f c).1, fun c => (f c).2), fun c q h => hf c q h⟩
theorem xl_arr {s : State} {args : Array Value} {ty : FieldType} (h : (Cond.arrayClass ty).before args s = true) (hty : ∀ C, ty ≠ .object C) : ∃ cA : ClassId, (ArrOfT s cA ty ∧ va_RA s cA ty) ∧ ∃ k comp, s.vm.classes[cA]? = some k ∧ k.kind = .array comp ty := by
  obtain ⟨c, k, comp, h1, h2, h3⟩ := Cond.arrayClass_spec h
  refine ⟨c, ⟨fun N z => ⟨(fun k h => by cases h), k, h2, comp, h3⟩, ?_⟩, k, comp, h2, h3⟩
  cases ty with
  | object C => exact absurd rfl (hty C)
  | _ => exact h1
theorem xl_arrO {s : State} {args : Array Value} {C : String} (h : (Cond.arrayOver (.object C)).before args s = true) : ∃ cA : ClassId, ArrOfT s cA (.object C) ∧ va_RA s cA (.object C) := by
  obtain ⟨comp, cA, kA, hcomp, hidx, hkA, hkindA, hnameA⟩ := Cond.arrayOver_spec h
  exact ⟨cA, fun N z => ⟨(fun k h => by cases h), kA, hkA, comp, hkindA⟩, kA, comp, hkA, hkindA, hcomp, hnameA⟩
theorem xl_arrA {s : State} {args : Array Value} {t : FieldType} (h : (Cond.arrayOver (.array t)).before args s = true) : ∃ cA : ClassId, (ArrOfT s cA (.array t) ∧ va_RA s cA (.array t)) ∧ ∃ k comp, s.vm.classes[cA]? = some k ∧ k.kind = .array comp (.array t) ∧ s.vm.findClass (FieldType.array t).toString = some comp := by
  obtain ⟨comp, c, k, h1, -, h2, h3, h4⟩ := arrayOverA_spec h
  exact ⟨c, ⟨fun N z => ⟨(fun k h => by cases h), k, h2, comp, h3⟩, h4⟩, k, comp, h2, h3, h1⟩
theorem xl_A {s : State} {args : Array Value} (hts : ∀ w ∈ lw_tbl, w.before args s = true) : ∃ A : Nat → ClassId, (∀ t ty, xg_tl[t]? = some ty → ArrOfT s (A t) ty ∧ va_RA s (A t) ty) ∧ ∃ (kA kI : Class) (c0 : ClassId), s.vm.classes[A 8]? = some kA ∧ kA.kind = .array (A 0) (.array .int) ∧ s.vm.classes[A 0]? = some kI ∧ kI.kind = .array c0 .int := by
  obtain ⟨a0, h0, kI, c0, hkI, hkindI⟩ := xl_arr (hts _ (xl_w 65 (by decide +kernel) : Cond.arrayClass .int ∈ lw_tbl)) (fun C h => by cases h)
  obtain ⟨a1, h1, -⟩ := xl_arr (hts _ (xl_w 66 (by decide +kernel) : Cond.arrayClass .long ∈ lw_tbl)) (fun C h => by cases h)
  obtain ⟨a2, h2, -⟩ := xl_arr (hts _ (xl_w 64 (by decide +kernel) : Cond.arrayClass .byte ∈ lw_tbl)) (fun C h => by cases h)
  obtain ⟨a3, h3, -⟩ := xl_arr (hts _ (xl_w 143 (by decide +kernel) : Cond.arrayClass .boolean ∈ lw_tbl)) (fun C h => by cases h)
  obtain ⟨a4, h4⟩ := xl_arrO (hts _ (xl_w 109 (by decide +kernel) : Cond.arrayOver (.object "LogicalTimes$Task") ∈ lw_tbl))
  obtain ⟨a5, h5⟩ := xl_arrO (hts _ (xl_w 107 (by decide +kernel) : Cond.arrayOver (.object "LogicalTimes$Mode") ∈ lw_tbl))
  obtain ⟨a6, h6⟩ := xl_arrO (hts _ (xl_w 117 (by decide +kernel) : Cond.arrayOver (.object "LogicalTimes$Exit") ∈ lw_tbl))
  obtain ⟨a7, h7⟩ := xl_arrO (hts _ (xl_w 44 (by decide +kernel) : Cond.arrayOver (.object "LogicalTimes$Kind") ∈ lw_tbl))
  obtain ⟨a8, h8, kA, comp, hkA, hkindA, hcomp⟩ := xl_arrA (hts _ (xl_w 439 (by decide +kernel) : Cond.arrayOver (.array .int) ∈ lw_tbl))
  have hc0 : comp = a0 := by
    have := h0.2
    exact Option.some.inj (hcomp.symm.trans this)
  subst hc0
  refine ⟨fun t => [comp, a1, a2, a3, a4, a5, a6, a7, a8].getD t 0, fun t ty h => ?_, kA, kI, c0, hkA, hkindA, hkI, hkindI⟩
  have ht : t < 9 := (List.getElem?_eq_some_iff.mp h).1
  match t, ht, h with
  | 0, _, h => cases h; exact h0
  | 1, _, h => cases h; exact h1
  | 2, _, h => cases h; exact h2
  | 3, _, h => cases h; exact h3
  | 4, _, h => cases h; exact h4
  | 5, _, h => cases h; exact h5
  | 6, _, h => cases h; exact h6
  | 7, _, h => cases h; exact h7
  | 8, _, h => cases h; exact h8
def xl_fl : List Cond := flatC (Jvm.Cond.and given_1 narrow_1)
abbrev xl_st (i : Nat) : Term := .static "LogicalTimes$Kind" (xg_kn.getD i "") "LLogicalTimes$Kind;"
abbrev xl_str (i : Nat) : Term := .string "LogicalTimes$Kind" (xl_si.getD i 0)
abbrev xl_val (i : Nat) : Term := .field (xl_str i) "java/lang/String" "value" "[B"
theorem xl_f1 : ∀ i, i < 29 → Cond.exactly (xl_st i) "LogicalTimes$Kind" ∈ xl_fl := by decide +kernel
theorem xl_f2 : ∀ q ∈ xg_kf, ∀ i, i < 29 → Cond.eq (.field (xl_st i) q.1 q.2.1 q.2.2.1) (.int (q.2.2.2.getD i 0)) ∈ xl_fl := by decide +kernel
theorem xl_f3 : ∀ i, i < 29 → Cond.eq (.field (xl_st i) "LogicalTimes$Kind" "spelling" "Ljava/lang/String;") (xl_str i) ∈ xl_fl := by decide +kernel
theorem xl_f4 : ∀ i, i < 29 → Cond.exactly (xl_str i) "java/lang/String" ∈ xl_fl ∧ Cond.eq (.field (xl_str i) "java/lang/String" "coder" "B") (.int 0) ∈ xl_fl ∧ Cond.arrayOf (xl_val i) .byte ∈ xl_fl ∧ Cond.eq (.length (xl_val i)) (.int (Int32.ofNat (xg_sp.getD i []).length)) ∈ xl_fl := by decide +kernel
theorem xl_f5 : ∀ i, i < 29 → ∀ j, j < (xg_sp.getD i []).length → Cond.eq (.elem (xl_val i) (.int (Int32.ofNat j))) (.int ((xg_sp.getD i []).getD j 0)) ∈ xl_fl := by decide +kernel
abbrev xl_all : Term := .static "LogicalTimes$Kind" "ALL" "[LLogicalTimes$Kind;"
theorem xl_f6 : Cond.arrayOf xl_all (.object "LogicalTimes$Kind") ∈ xl_fl ∧ Cond.eq (.length xl_all) (.int 29) ∈ xl_fl ∧ ∀ j, j < 29 → Cond.eq (.elem xl_all (.int (Int32.ofNat j))) (xl_st j) ∈ xl_fl := by decide +kernel
theorem xl_f7 : Cond.eq (.static "java/lang/String" "COMPACT_STRINGS" "Z") (.int 1) ∈ xl_fl ∧ Cond.isRef (.static "jdk/internal/util/Preconditions" "SIOOBE_FORMATTER" "Ljava/util/function/BiFunction;") ∈ xl_fl ∧ Cond.isRef (.static "java/lang/Throwable" "UNASSIGNED_STACK" "[Ljava/lang/StackTraceElement;") ∈ xl_fl ∧ Cond.isRef (.static "java/lang/Throwable" "SUPPRESSED_SENTINEL" "Ljava/util/List;") ∈ xl_fl := by decide +kernel
theorem xl_f8 : Cond.not (.castable "java/util/NoSuchElementException" "java/lang/IllegalStateException") ∈ xl_fl ∧ Cond.not (.castable "java/lang/IllegalArgumentException" "java/lang/IllegalStateException") ∈ xl_fl ∧ Cond.not (.castable "java/lang/IllegalArgumentException" "java/util/NoSuchElementException") ∈ xl_fl := by decide +kernel
