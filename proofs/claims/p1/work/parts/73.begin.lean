/-! the law's start: what was there stands at xd_e; the law's run by the abstract machine's -/
theorem xl_Encongr {E d : String} {nm : List String} {F : List (String × String × String × List Int32)} {ad ad' : Nat → Nat} {A : Nat → Prop} {U : State} {H : Heap} (h : va_En E d nm F ad A U H) (he : ∀ i, i < nm.length → ad' i = ad i) : va_En E d nm F ad' A U H := by
  refine ⟨fun i hi => ?_, fun i j hi hj h1 => h.2 i j hi hj (by rw [← he i hi, ← he j hj]; exact h1)⟩
  rw [he i hi]
  exact h.1 i hi
theorem xl_Efcongr {N : Nat} {o n d : String} {v v' : Nat → Value} {ad ad' : Nat → Nat} {A : Nat → Prop} {U : State} {H : Heap} (h : va_Ef N o n d v ad A U H) (hv : ∀ i, i < N → v' i = v i) (he : ∀ i, i < N → ad' i = ad i) : va_Ef N o n d v' ad' A U H := by
  intro i hi
  rw [hv i hi, he i hi]
  exact h i hi
theorem xl_Tcongr {ty : FieldType} {t N : Nat} {f f' : Nat → Value} {A : Nat → Prop} {U : State} {H : Heap} (h : va_T ty t N f A U H) (hf : ∀ j, j < N → f' j = f j) : va_T ty t N f' A U H := by
  obtain ⟨cell, h1, h2, h3, h4, h5, h6, h7⟩ := h
  exact ⟨cell, h1, h2, h3, h4, h5, fun j hj => by rw [hf j hj]; exact h6 j hj, h7⟩
section
variable {s : State} {args : Array Value} {A : Nat → Prop}
/-- the constants of the enum: they differ, for their ordinals do -/
theorem xl_En (hts : ∀ w ∈ lw_tbl, w.before args s = true) (hfl : ∀ w ∈ xl_fl, w.before args s = true) (hA : ∀ a : Nat, a < s.heap.size → ¬ A a) : ∃ ad : Nat → Nat, va_En "LogicalTimes$Kind" "LLogicalTimes$Kind;" xg_kn xg_kf ad A s s.heap ∧ ∀ i, i < 29 → (xl_st i).eval args s none [] s = some (.ref (ad i)) := by
  have hlen : xg_kn.length = 29 := rfl
  refine va_Enof2 (E := "LogicalTimes$Kind") (d := "LLogicalTimes$Kind;") (nm := xg_kn) (F := xg_kf) (fun i hi => hts _ (xl_kind hi)) (hts _ (xl_w 15 (by decide +kernel))) (fun i hi => hfl _ (xl_f1 i hi)) (fun q hq i hi => hfl _ (xl_f2 q hq i hi)) (fun i j hi hj hij => ?_) hA
  obtain ⟨a, -, -, -, ei, -⟩ := Cond.exactly_spec (hfl _ (xl_f1 i hi))
  obtain ⟨b, -, -, -, ej, -⟩ := Cond.exactly_spec (hfl _ (xl_f1 j hj))
  by_cases hab : a = b
  · exfalso
    subst hab
    have o1 := va_eqt (hfl _ (xl_f2 ("java/lang/Enum", "ordinal", "I", xg_ko) (by simp [xg_kf]) i hi))
    have o2 := va_eqt (hfl _ (xl_f2 ("java/lang/Enum", "ordinal", "I", xg_ko) (by simp [xg_kf]) j hj))
    rw [va_fe ei] at o1
    rw [va_fe ej] at o2
    have h3 : xg_ko.getD i 0 = xg_ko.getD j 0 := by
      have := o1.symm.trans o2
      exact Value.int.inj (Option.some.inj this)
    have h4 : ∀ i, i < 29 → ∀ j, j < 29 → xg_ko.getD i 0 = xg_ko.getD j 0 → i = j := by decide +kernel
    exact hij (h4 i hi j hj h3)
  · left
    have ei' : (Term.static "LogicalTimes$Kind" (xg_kn.getD i "") "LLogicalTimes$Kind;").eval args s none [] s = some (.ref a) := ei
    have ej' : (Term.static "LogicalTimes$Kind" (xg_kn.getD j "") "LLogicalTimes$Kind;").eval args s none [] s = some (.ref b) := ej
    show ((Cond.not (.eq _ _)).holds _ _ _ _ _) = true
    simp only [Cond.holds, Cond.value, ei', ej']
    simp [hab]
/-- the spellings: strings, and their bytes -/
theorem xl_Sp (hfl : ∀ w ∈ xl_fl, w.before args s = true) (hA : ∀ a : Nat, a < s.heap.size → ¬ A a) {ad : Nat → Nat} (had : ∀ i, i < 29 → (xl_st i).eval args s none [] s = some (.ref (ad i))) : ∃ sa vl : Nat → Nat, va_Ef 29 "LogicalTimes$Kind" "spelling" "Ljava/lang/String;" (fun i => .ref (sa i)) ad A s s.heap ∧ (∀ i, i < 29 → va_O "java/lang/String" (sa i) A s s.heap) ∧ va_Ef 29 "java/lang/String" "value" "[B" (fun i => .ref (vl i)) sa A s s.heap ∧ va_Ef 29 "java/lang/String" "coder" "B" (fun _ => .int 0) sa A s s.heap ∧ ∀ i, i < 29 → va_T .byte (vl i) (xg_sp.getD i []).length (fun j => .int ((xg_sp.getD i []).getD j 0)) A s s.heap := by
  have h0 : ∀ i : Nat, ∃ t : Nat, i < 29 → (xl_str i).eval args s none [] s = some (.ref t) ∧ va_O "java/lang/String" t A s s.heap := by
    intro i
    by_cases hi : i < 29
    · obtain ⟨a, c, cell, k, q1, q2, q3, q4, q5, q6, -⟩ := Cond.exactly_spec (hfl _ (xl_f4 i hi).1)
      exact ⟨a, fun _ => ⟨q1, cell, q3, q5, by rw [q6]; exact q2, hA a (Array.getElem?_eq_some_iff.mp q3).1⟩⟩
    · exact ⟨0, fun h => absurd h hi⟩
  obtain ⟨sa, hsa⟩ := Classical.axiomOfChoice h0
  have hlen : ∀ i, i < 29 → (xg_sp.getD i []).length < 2 ^ 31 := by decide +kernel
  have h1 : ∀ i : Nat, ∃ t : Nat, i < 29 → (xl_val i).eval args s none [] s = some (.ref t) ∧ va_T .byte t (xg_sp.getD i []).length (fun j => .int ((xg_sp.getD i []).getD j 0)) A s s.heap := by
    intro i
    by_cases hi : i < 29
    · obtain ⟨t, q1, q2⟩ := va_Tof (tm := xl_val i) (f := fun j => .int ((xg_sp.getD i []).getD j 0)) (hlen i hi) (hfl _ (xl_f4 i hi).2.2.1) (va_eqt (hfl _ (xl_f4 i hi).2.2.2)) (fun j hj => va_eqt (hfl _ (xl_f5 i hi j hj))) hA
      exact ⟨t, fun _ => ⟨q1, q2⟩⟩
    · exact ⟨0, fun h => absurd h hi⟩
  obtain ⟨vl, hvl⟩ := Classical.axiomOfChoice h1
  have fld : ∀ (o n d : String) (t : Term) (a : Nat) (v : Value), t.eval args s none [] s = some (.ref a) → (Term.field t o n d).eval args s none [] s = some v → va_OF o n d v a A s s.heap := by
    intro o n d t a v ht hv
    cases hfo : s.fieldFound? o n d with
    | none =>
      rw [va_fe ht] at hv
      simp [State.fieldOf?, State.fieldNamed?, hfo] at hv
    | some x =>
      obtain ⟨cf, k, fi, f⟩ := x
      obtain ⟨g1, cell, g2, g3, -, -, g6⟩ := Term.field_spec hfo ht hv
      exact ⟨cf, k, fi, f, cell, hfo, g1, g2, g3, g6, hA _ (Array.getElem?_eq_some_iff.mp g2).1⟩
  refine ⟨sa, vl, fun i hi => fld _ _ _ _ _ _ (had i hi) (va_eqv (hfl _ (xl_f3 i hi)) (hsa i hi).1), fun i hi => (hsa i hi).2, fun i hi => fld _ _ _ _ _ _ (hsa i hi).1 (hvl i hi).1, fun i hi => fld _ _ _ _ _ _ (hsa i hi).1 (va_eqt (hfl _ (xl_f4 i hi).2.1)), fun i hi => (hvl i hi).2⟩
theorem xl_All (hfl : ∀ w ∈ xl_fl, w.before args s = true) (hts : ∀ w ∈ lw_tbl, w.before args s = true) (hA : ∀ a : Nat, a < s.heap.size → ¬ A a) {ad : Nat → Nat} (had : ∀ i, i < 29 → (xl_st i).eval args s none [] s = some (.ref (ad i))) : ∃ t : Nat, va_Z "LogicalTimes$Kind" "ALL" "[LLogicalTimes$Kind;" (.ref t) A s s.heap ∧ va_T (.object "LogicalTimes$Kind") t 29 (fun i => .ref (ad i)) A s s.heap := by
  obtain ⟨t, q1, q2⟩ := va_Tof (N := 29) (tm := xl_all) (f := fun i => .ref (ad i)) (by decide) (hfl _ xl_f6.1) (va_eqt (hfl _ xl_f6.2.1)) (fun j hj => va_eqv (hfl _ (xl_f6.2.2 j hj)) (had j hj)) hA
  exact ⟨t, va_Zref (hts _ (xl_w 572 (by decide +kernel))) (hts _ (xl_w 15 (by decide +kernel))) q1 hA, q2⟩
end
/-- where what was there stands -/
def xl_e (b : Nat) (ad : Nat → Nat) (t : Nat) (sa vl : Nat → Nat) (f1 f2 : Nat) : Nat → Nat := fun n => if n = 0 then b else if n < 30 then ad (n - 1) else if n = 30 then t else if n < 60 then sa (n - 31) else if n < 89 then vl (n - 60) else if n = 89 then f1 else f2
theorem xl_e1 {b : Nat} {ad : Nat → Nat} {t : Nat} {sa vl : Nat → Nat} {f1 f2 : Nat} {i : Nat} (h : i < 29) : xl_e b ad t sa vl f1 f2 (i + 1) = ad i := by
  unfold xl_e
  rw [if_neg (by omega), if_pos (by omega), Nat.add_sub_cancel]
theorem xl_e2 {b : Nat} {ad : Nat → Nat} {t : Nat} {sa vl : Nat → Nat} {f1 f2 : Nat} {i : Nat} (h : i < 29) : xl_e b ad t sa vl f1 f2 (i + 31) = sa i := by
  unfold xl_e
  rw [if_neg (by omega), if_neg (by omega), if_neg (by omega), if_pos (by omega), Nat.add_sub_cancel]
theorem xl_e3 {b : Nat} {ad : Nat → Nat} {t : Nat} {sa vl : Nat → Nat} {f1 f2 : Nat} {i : Nat} (h : i < 29) : xl_e b ad t sa vl f1 f2 (i + 60) = vl i := by
  unfold xl_e
  rw [if_neg (by omega), if_neg (by omega), if_neg (by omega), if_neg (by omega), if_pos (by omega), Nat.add_sub_cancel]
/-- at the law's entry the abstract machine stands on the real one -/
theorem xl_EX {s : State} {b L : Nat} {xs : Nat → Int32} (hts : ∀ w ∈ lw_tbl, w.before #[Value.ref b] s = true) (hX : va_X b L xs s s.heap) (hb : b < s.heap.size) (hgv : (Jvm.Cond.and given_1 narrow_1).before #[Value.ref b] s = true) : ∃ δ : xe_Dy, xd_n δ = L ∧ xd_x δ = xs ∧ xd_b δ = s.heap.size ∧ xd_e δ 0 = b ∧ va_K (xd_D δ) xg_cl (xe_tys δ) s ∧ xg_EX δ s s.heap := by
  have hfl : ∀ w ∈ xl_fl, w.before #[Value.ref b] s = true := flat_of_before _ hgv
  have hA : ∀ a : Nat, a < s.heap.size → ¬ (fun q => s.heap.size ≤ q) a := fun a ha h => Nat.not_le.mpr ha h
  obtain ⟨D, hD⟩ := xl_D hts
  obtain ⟨A, hAr, hMA⟩ := xl_A hts
  obtain ⟨ad, hEn, had⟩ := xl_En (A := fun q => s.heap.size ≤ q) hts hfl hA
  obtain ⟨t, hZ, hT⟩ := xl_All (A := fun q => s.heap.size ≤ q) hfl hts hA had
  obtain ⟨sa, vl, g1, g2, g3, g4, g5⟩ := xl_Sp (A := fun q => s.heap.size ≤ q) hfl hA had
  have hC := va_Zof (A := fun q => s.heap.size ≤ q) (hts _ (xl_w 587 (by decide +kernel))) (hts _ (xl_w 16 (by decide +kernel))) (va_eqi (hfl _ xl_f7.1)) hA
  have hF := va_Zqof (A := fun q => s.heap.size ≤ q) (hts _ (xl_w 603 (by decide +kernel))) (hts _ (xl_w 18 (by decide +kernel))) (hfl _ xl_f7.2.1) hA
  have hT1 := va_Zqof (A := fun q => s.heap.size ≤ q) (hts _ (xl_w 683 (by decide +kernel))) (hts _ (xl_w 20 (by decide +kernel))) (hfl _ xl_f7.2.2.1) hA
  have hT2 := va_Zqof (A := fun q => s.heap.size ≤ q) (hts _ (xl_w 685 (by decide +kernel))) (hts _ (xl_w 20 (by decide +kernel))) (hfl _ xl_f7.2.2.2) hA
  have hL1 := xe_LS.of (A := fun q => s.heap.size ≤ q) (hts _ (xl_w 683 (by decide +kernel) : Cond.laysStatic "java/lang/Throwable" "UNASSIGNED_STACK" "[Ljava/lang/StackTraceElement;" ∈ lw_tbl)) hA
  have hL2 := xe_LS.of (A := fun q => s.heap.size ≤ q) (hts _ (xl_w 685 (by decide +kernel) : Cond.laysStatic "java/lang/Throwable" "SUPPRESSED_SENTINEL" "Ljava/util/List;" ∈ lw_tbl)) hA
  obtain ⟨f1, f2, hF'⟩ : ∃ f1 f2 : Nat, va_Z "jdk/internal/util/Preconditions" "SIOOBE_FORMATTER" "Ljava/util/function/BiFunction;" (if f2 = 0 then .null else .ref f1) (fun q => s.heap.size ≤ q) s s.heap := by
    rcases hF with hF | ⟨t, hF⟩
    · exact ⟨0, 0, hF⟩
    · exact ⟨t, 1, hF⟩
  refine ⟨(D, A, s.heap.size, xl_e b ad t sa vl f1 f2, L, xs), rfl, rfl, rfl, rfl, ⟨hD, fun k q hk => ?_⟩, hX, hb, Nat.le_refl _, hT1, hT2, xl_Encongr (ad' := fun i => xl_e b ad t sa vl f1 f2 (i + 1)) hEn (fun i hi => xl_e1 hi), va_Nc.of (hfl _ xl_f8.1), va_Nc.of (hfl _ xl_f8.2.1), va_Nc.of (hfl _ xl_f8.2.2), hL1, hL2, hMA, hZ, xl_Tcongr (f' := fun i => .ref (xl_e b ad t sa vl f1 f2 (i + 1))) hT (fun j hj => congrArg Value.ref (xl_e1 hj)), xl_Efcongr (v' := fun i => .ref (xl_e b ad t sa vl f1 f2 (i + 31))) (ad' := fun i => xl_e b ad t sa vl f1 f2 (i + 1)) g1 (fun i hi => congrArg Value.ref (xl_e2 hi)) (fun i hi => xl_e1 hi), fun i hi => ?_, xl_Efcongr (v' := fun i => .ref (xl_e b ad t sa vl f1 f2 (i + 60))) (ad' := fun i => xl_e b ad t sa vl f1 f2 (i + 31)) g3 (fun i hi => congrArg Value.ref (xl_e3 hi)) (fun i hi => xl_e2 hi), xl_Efcongr (v' := fun _ => .int 0) (ad' := fun i => xl_e b ad t sa vl f1 f2 (i + 31)) g4 (fun i hi => rfl) (fun i hi => xl_e2 hi), fun i hi => ?_, hC, hF'⟩
  · unfold xe_tys at hk
    rw [List.getElem?_map, List.getElem?_zipIdx] at hk
    cases ht : xg_tl[k]? with
    | none => rw [ht] at hk; cases hk
    | some ty =>
      rw [ht] at hk
      simp only [Option.map_some, Option.some.injEq, Nat.zero_add] at hk
      subst hk
      exact hAr k ty ht
  · show va_O _ (xl_e b ad t sa vl f1 f2 (i + 31)) _ _ _
    rw [xl_e2 hi]
    exact g2 i hi
  · show va_T _ (xl_e b ad t sa vl f1 f2 (i + 60)) _ _ _ _ _
    rw [xl_e3 hi]
    exact g5 i hi
