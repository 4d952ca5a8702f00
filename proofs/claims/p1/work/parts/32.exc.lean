/-! exceptions: made and thrown -/
def xe_isr : Cond → Bool
  | .isRef _ => true
  | .laysStatic _ _ _ => true
  | _ => false
abbrev xe_chain : List String := ["java/lang/RuntimeException", "java/lang/Exception"]
theorem xe_isRef {C n d : String} {A : Nat → Prop} {s : State} (args : Array Value) (h : va_Zq C n d A s s.heap) : (Cond.isRef (.static C n d)).before args s = true := by
  rcases h with h | ⟨t, h⟩ <;>
  · obtain ⟨cf, kf, fi, f, a, cell, h1, h2, h3, h4, h5, h6, h7, h8⟩ := h
    simp [Cond.before, Cond.holds, Cond.value, Term.eval, State.fieldNamed?, h1, h2, h4, h5, h6, h7]
theorem xe_D (δ : xe_Dy) (μ : xe_Mem) (h : (xe_sh μ).length ≤ 1000000) : va_D (xe_A δ) (xe_ws δ μ) := by
  have key : ∀ (k : Nat) (q : Nat × va_E), (xe_ws δ μ)[k]? = some q → q.1 = xd_b δ + k := by
    intro k q hq
    have hk : k < (xe_sh μ).length := by rw [← xe_ws_len δ μ]; exact (List.getElem?_eq_some_iff.mp hq).1
    rw [xe_ws_at (List.getElem?_eq_getElem hk)] at hq
    rw [← Option.some.inj hq]
    exact xe_ro_own δ (by omega)
  refine ⟨fun i j a b hi hj hab => ?_, fun k q hq => ?_⟩
  · have h1 := key i a hi
    have h2 := key j b hj
    omega
  · have h1 := key k q hq
    show xd_b δ ≤ q.1
    omega
theorem xo_throw {δ : xe_Dy} {Y : xe_Y} {k pc ci index ic : Nat} {cls : String} (hk : xe_pc Y k = pc) (hM : xg_CT < 1000000) (hc : xg_cl[ci]? = some (cls, xTx, 0)) (hh : xy_h Y = []) (hfit : Bundle.fit cls = true)
    (hd0 : decode (xy_b Y) pc = .ok (.new index, 3)) (hd3 : decode (xy_b Y) (pc + 3) = .ok (.dup, 1)) (hd4 : decode (xy_b Y) (pc + 3 + 1) = .ok (.invokespecial ic, 3)) (hd7 : decode (xy_b Y) (pc + 3 + 1 + 3) = .ok (.athrow, 1))
    (w1 : Cond.classLink (xy_n Y).cls index cls ∈ xg_tb) (w2 : Cond.instantiable cls 6 ∈ xg_tb) (w3 : Cond.initialized cls ∈ xg_tb)
    (hat : (Bundle.ownAtoms0 (xy_n Y).cls ic cls xe_chain).all (fun w => xe_isr w || decide (w ∈ xg_tb)) = true)
    (hir : (Bundle.ownAtoms0 (xy_n Y).cls ic cls xe_chain).filter xe_isr = [.laysStatic "java/lang/Throwable" "UNASSIGNED_STACK" "[Ljava/lang/StackTraceElement;", .laysStatic "java/lang/Throwable" "SUPPRESSED_SENTINEL" "Ljava/util/List;", .isRef (.static "java/lang/Throwable" "UNASSIGNED_STACK" "[Ljava/lang/StackTraceElement;"), .isRef (.static "java/lang/Throwable" "SUPPRESSED_SENTINEL" "Ljava/util/List;")])
    (hkp : ∀ w ∈ xg_tb, xe_kp w) : xe_OKT δ Y k ci := by
  intro p l e R s m args below meth c n0 s0 H locs cells slots lsJ st μ hNT hC hf8 hl256 hR hls hlen hsl hwt hcov
  obtain ⟨hx, hb, hml, hown, hnm, hret, hlk, hts, hK, hE, hhd⟩ := hC
  obtain ⟨hP, hD, hS, hsz, hCT, hST, hcl, hsl2, hRc, hRs⟩ := id hR
  intro T hT X
  have X0 := xe_rebase X (by omega) (by omega)
  have hR1 : xe_Rl δ R s n0 s0 μ T.heap locs cells slots := by rw [hT]; exact hR
  have hTz : T.heap.size = xd_b δ + (xe_sh μ).length := xe_size X hR1 (by omega)
  generalize hs' : T.setFrames (.invoking m args :: below) = s' at X0
  have hvm : s'.vm = T.vm := by rw [← hs']; rfl
  have hheap : s'.heap = T.heap := by rw [← hs']; rfl
  have hal : s.vm.Alike s'.vm := by rw [hvm]; exact X.warmed.alike
  have hws : ∀ w ∈ xg_tb, w.before args s' = true := fun w hw => hkp w hw args args s s' (by rw [hvm]; exact X.warmed) (hts w hw)
  have hown' : s'.vm.findClass (xy_n Y).cls = some m.cls := by rw [hal.findClass]; exact hown
  have hE' : xg_EX δ s' s'.heap := xg_EX_kept hE hal (hS.F (by rw [hheap]; exact hT))
  have hat' : ∀ a ∈ Bundle.ownAtoms0 (xy_n Y).cls ic cls xe_chain, a.before args s' = true := by
    intro a ha
    have h1 := List.all_eq_true.mp hat a ha
    rw [Bool.or_eq_true] at h1
    rcases h1 with h1 | h1
    · have h2 : a ∈ (Bundle.ownAtoms0 (xy_n Y).cls ic cls xe_chain).filter xe_isr := List.mem_filter.mpr ⟨ha, h1⟩
      rw [hir] at h2
      rcases List.mem_cons.mp h2 with rfl | h2
      · exact xe_LS.use args hE'.2.2.2.2.2.2.2.2.2.1
      rcases List.mem_cons.mp h2 with rfl | h2
      · exact xe_LS.use args hE'.2.2.2.2.2.2.2.2.2.2.1
      rcases List.mem_cons.mp h2 with rfl | h2
      · exact xe_isRef args hE'.2.2.2.1
      · rw [List.mem_singleton.mp h2]
        exact xe_isRef args hE'.2.2.2.2.1
    · exact hws a (of_decide_eq_true h1)
  have hfc' : s'.vm.findClass cls = some ((xd_D δ).1 ci) := by rw [hal.findClass]; exact (hK.1 ci _ hc).2.1
  have hlsz : lsJ.size = c.maxLocals := hls.trans hml.symm
  have hno : ∀ x ∈ c.exceptionTable.toList, covers x (pc + 3 + 1 + 3) = false := by
    refine xe_noH hhd (fun q hq => ?_)
    rw [hh] at hq
    cases hq
  have w : W p l e { frames := R.frames, cells := R.cells - cells, slots := R.slots - slots, locals := R.locals } s' m args below meth c T.heap [] 0 0
      (fun U => U.status = .running ∧ Ended U below (.threw T.heap.size) ∧ s'.WarmedH U.vm ∧ s'.sameButNew ({ U with vm := s'.vm } : State) [] 1 6 ∧ ∃ ce, U.heap[T.heap.size]? = some ce ∧ Bundle.OwnCell args s' cls T.heap.size .null ce) (F0 m pc lsJ (st.map (xe_v δ))) := by
    refine W.newcK hx hb hown' (hws _ w1) (hws _ w2) (hws _ w3) rfl hd0 (by show 0 + 1 ≤ R.cells - cells; omega) (by show 0 + 6 ≤ R.slots - slots; omega) hfc' rfl (fun H' kC hkC e1 z1 o1 => ?_)
    refine lv_dup hx hb hd3 rfl ?_
    intro T2 hT2 X2
    obtain ⟨U, u1, u2, u3, u4, u5, u6⟩ := X2.ctorThrow0 hx (hNT e X.admits) (own := (xy_n Y).cls) (cls := cls) (names := xe_chain) (ic := ic) hown' hfit (by decide) hat' (fun x hx => by cases hx) (a := T.heap.size) hfc' hkC (by rw [hT2]; exact e1) (by rw [hheap]; exact Nat.le_refl _) (g := F0 m (pc + 3 + 1) lsJ (.ref T.heap.size :: .ref T.heap.size :: st.map (xe_v δ))) rfl hlsz rfl rfl (rest := st.map (xe_v δ)) rfl (by rw [hb]; exact hd4) (by rw [hb]; exact hd7) hno (by show 2 + 3 < R.frames; omega) (by
      have := xe_sum_v δ st
      rw [List.map_cons, List.sum_cons, this]
      show 2 * 0 + (1 + _) + (13 * (2 + 1) + 41) ≤ R.locals
      omega) hlk
    exact ⟨U, u1, u2, u3, u4, u5, u6⟩
  rw [hk]
  obtain ⟨U, st1, u2, u3, u4, u5, ce, u6, u7⟩ := w T rfl X0
  have hro : xe_ro δ (xe_sh μ).length = T.heap.size := by rw [xe_ro_own δ (by omega), hTz]
  have u5' : T.sameButNew ({ U with vm := T.vm } : State) [] 1 6 := by
    obtain ⟨a1, a2, a3, a4, a5, a6⟩ := u5
    subst hs'
    refine ⟨?_, a2, a3, a4, a5, a6⟩
    have a1 : ({ U with vm := T.vm } : State) = { (T.setFrames (.invoking m args :: below)).setFrames U.frames with heap := U.heap, slotsUsed := U.slotsUsed } := a1
    rw [State.setFrames_setFrames] at a1
    exact a1
  have hold : ∀ q : Nat, q < T.heap.size → U.heap[q]? = T.heap[q]? := by
    intro q hq
    have hq' : T.heap[q]? = some T.heap[q] := Array.getElem?_eq_getElem hq
    rw [hq']
    exact State.sameButNew.old_cell u5' hq'
  have hWT : T.WarmedH U.vm := by
    have h9 := u4
    subst hs'
    exact h9
  refine ⟨U, st1, .threw T.heap.size, u2, u3, by rw [xe_cv, hro], ?_, ?_, ⟨?_, ?_⟩, by show n0 ≤ (xe_sh μ ++ [_]).length; simp; omega, by show s0 ≤ xe_sl μ + 6; omega, by show (xe_sh μ ++ [_]).length ≤ _; simp; omega, by show xe_sl μ + 6 ≤ _; omega, State.WarmedH.trans X.warmed hWT, locs ++ [], ?_, ?_⟩
  · rw [xe_ws_add]
    refine va_P.app (fun k q hq => ?_) (fun k q hq => ?_)
    · have h1 : va_at (xd_D δ) xg_cl q T.heap := by rw [hT]; exact hP k q hq
      exact h1.kept (hold _ h1.lt)
    · have hz : k < 1 := (List.getElem?_eq_some_iff.mp hq).1
      rw [show k = 0 by omega] at hq
      cases hq
      refine ⟨_, hc, ce, ?_, ?_, u7.vm, fun k hk => absurd hk (Nat.not_lt_zero k)⟩
      · show U.heap[xe_ro δ (xe_sh μ).length]? = _
        rw [hro]; exact u6
      · exact Option.some.inj (u7.cls.symm.trans hfc')
  · exact xe_D δ _ (by show (xe_sh μ ++ [_]).length ≤ _; simp; omega)
  · have h1 := hS.1
    have h2 := u5'.2.1
    rw [← hT] at h1
    exact Nat.le_trans h1 h2
  · intro q h1 h2
    have h3 := hS.1
    rw [← hT] at h3
    rw [hold q (Nat.lt_of_lt_of_le h1 h3), hT]
    exact hS.2.1 q h1 h2
  · have h9 := X.same.trans (u5'.setVm s.vm)
    rw [show (xe_sh (xe_add μ (.inl ci) 6)).length - n0 = cells + 1 by show (xe_sh μ ++ [_]).length - n0 = _; simp; omega, show xe_sl (xe_add μ (.inl ci) 6) - s0 = slots + 6 by show xe_sl μ + 6 - s0 = _; omega]
    exact h9
  · intro q hq
    rw [List.append_nil] at hq
    exact hS.2.2 q hq
