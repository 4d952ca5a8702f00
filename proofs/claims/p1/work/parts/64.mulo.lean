/-! new int[4][12]: the machine's step -/
theorem xe_mt_setTop (h : Addr) (cI : ClassId) (i : Nat) (T : State) (c : Cell) (f : JFrame) : xe_mt h cI i (T.setTop f, c) = ((xe_mt h cI i (T, c)).1.setTop f, (xe_mt h cI i (T, c)).2) := by
  simp only [xe_mt, State.heap_setTop, State.pushCell_setTop, State.setCell_setTop]
theorem xe_m4_setTop (T : State) (cA cI : ClassId) (f : JFrame) : (xe_m4 (T.setTop f) cA cI).1 = (xe_m4 T cA cI).1.setTop f := by
  unfold xe_m4
  have h0 : xe_m0 (T.setTop f) cA = ((xe_m0 T cA).1.setTop f, (xe_m0 T cA).2) := rfl
  rw [h0, xe_mt_setTop, xe_mt_setTop, xe_mt_setTop, xe_mt_setTop]
  rfl
section
variable {p : Program} {l : Launch} {e : Env} {R : Room} {s : State} {m : MethodId} {args : Array Value} {below : List Frame} {meth : Method} {c : Code} {T : State} {locs : List Loc} {cells slots : Nat}
theorem xe_mStep (X : Stand p l e R s m args below meth c T locs cells slots) (hexec : p.tables.exec = Jvm.exec) {own nm : String} {index : Nat} {cA cI c0 : ClassId} {kA kI : Class} (hown : s.vm.findClass own = some m.cls) (hclink : (Cond.classLink own index nm).before args s = true) (hnm : s.vm.findClass nm = some cA)
    (hkA : s.vm.classes[cA]? = some kA) (hkindA : kA.kind = .array cI (.array .int)) (hkI : s.vm.classes[cI]? = some kI) (hkindI : kI.kind = .array c0 .int)
    {g : JFrame} (hg : g.method = m) (hdg : decode c.code g.pc = .ok (.multianewarray index 2, 4)) {rest : List Value} (hstack : g.stack = .int 12 :: .int 4 :: rest) (hcells : cells + 5 ≤ R.cells) (hslots : slots + 52 ≤ R.slots) :
    ∃ vm₁ : Vm, Stand p l e R s m args below meth c (xe_m4 (T.setVm vm₁) cA cI).1 (locs ++ [⟨T.heap.size, 0⟩] ++ [⟨T.heap.size, 1⟩] ++ [⟨T.heap.size, 2⟩] ++ [⟨T.heap.size, 3⟩]) (cells + 5) (slots + 52) ∧
      ∀ target, Steps p.tables e below ((xe_m4 (T.setVm vm₁) cA cI).1.setTop { g with pc := g.pc + 4, stack := .ref T.heap.size :: rest }) target → Steps p.tables e below (T.setTop g) target := by
  subst hg
  have hpl : e.platform.magicAccessors = ({} : Platform).magicAccessors := by rw [X.admits.platform]
  obtain ⟨cc, hfcc, hcl⟩ := Cond.classLink_spec hown hclink e.platform hpl
  cases hnm.symm.trans hfcc
  obtain ⟨hg₁, hwarm₁, hready₁⟩ := State.classEntry (e := e) X.warmed hcl
  generalize T.vm.noted g.method.cls index (.cls cA) = vm₁ at hg₁ hwarm₁ hready₁
  have hal : s.vm.Alike vm₁ := hwarm₁.alike
  obtain ⟨kA₁, hkA₁, heA⟩ := hal.2.2 _ _ hkA
  obtain ⟨kI₁, hkI₁, heI⟩ := hal.2.2 _ _ hkI
  have hkindA₁ : kA₁.kind = .array cI (.array .int) := by rw [heA]; exact hkindA
  have hkindI₁ : kI₁.kind = .array c0 .int := by rw [heI]; exact hkindI
  have X₁ := X.noted hwarm₁
  obtain ⟨hr1, hr2⟩ := X.roomAbove hcells hslots
  have XF := xe_mStand (cA := cA) (cI := cI) X₁
  refine ⟨vm₁, XF, fun target hrest => ?_⟩
  have hl1 : 12 ≤ e.platform.arrayLengthLimit := by rw [Launch.admits_arrayLengthLimit X.admits]; decide
  have hh1 : 48 ≤ e.platform.maxHeapBytes := by rw [Launch.admits_maxHeapBytes X.admits]; decide
  jvm_step X.here [hexec, hdg]
  simp only [multianewarray.sem, wp_bind', W.resolveClassAt_links (State.method?_setTop g X.here.top) hg₁]
  rw [W.popN, if_neg (by decide)]
  refine ⟨g, State.topJava?_setTop' (s := T.setVm vm₁) g X.here.top, [.int 4, .int 12], rest, rfl, hstack, ?_⟩
  simp only [List.mapM_cons, List.mapM_nil, wp_bind', wp_pure']
  refine xe_mk2 (kA := kA₁) (kI := kI₁) (c0 := c0) hkA₁ hkindA₁ hkI₁ hkindI₁ hl1 hh1 (by show T.heap.size + 5 ≤ _; omega) (by show T.slotsUsed + 52 ≤ _; omega) (fun d' acts' => ?_)
  have eS : ((T.setTop g).setVm vm₁).setTop { g with stack := rest } = (T.setVm vm₁).setTop { g with stack := rest } := by
    show ((T.setVm vm₁).setTop g).setTop _ = _
    rw [State.setTop_setTop]
  rw [eS, xe_m4_setTop]
  simp only [wp_bind', W.mark, W.pushRef, State.topJava?_setTop' _ XF.here.top, Option.some.injEq, exists_eq_left', State.setTop_setTop, State.heap_setTop]
  intro acts
  simp [jvm, XF.here.top]
  exact hrest
end
theorem xe_arrV_congr {cI : ClassId} {N : Nat} {f g : Nat → Value} (h : ∀ j, j < N → f j = g j) : arrV cI N f = arrV cI N g := by
  unfold arrV
  congr 1
  congr 1
  funext j
  exact h j.1 j.2
theorem xe_ws_D {δ : xe_Dy} {μ : xe_Mem} (h : (xe_sh μ).length ≤ 1000000) : va_D (xe_A δ) (xe_ws δ μ) := by
  have key : ∀ (i : Nat) (q : Nat × va_E), (xe_ws δ μ)[i]? = some q → q.1 = xd_b δ + i := by
    intro i q hq
    have hl : i < (xe_sh μ).length := by have := (List.getElem?_eq_some_iff.mp hq).1; rwa [xe_ws_len] at this
    rw [xe_ws_get, List.getElem?_eq_getElem hl] at hq
    cases hq
    exact xe_ro_own δ (by omega)
  refine ⟨fun i j p q hp hq he => ?_, fun k q hq => ?_⟩
  · have := key i p hp
    have := key j q hq
    omega
  · have := key k q hq
    show xd_b δ ≤ q.1
    omega
theorem xo_mul {δ : xe_Dy} {Y : xe_Y} {k pc index : Nat} (hk : xe_pc Y k = pc) (hk1 : xe_pc Y (k + 1) = pc + 4) (w1 : Cond.classLink (xy_n Y).cls index "[[I" ∈ xg_tb) (hd : decode (xy_b Y) pc = .ok (.multianewarray index 2, 4)) : xe_OKL δ Y k xe_mul := by
  intro p l e R s m args below meth c n0 s0 H locs cells slots Q lsJ ls st μ k' ls' st' μ' hC hfr hlo hR hl hf kk
  obtain ⟨hx, hb, hml, hown, hnm, hret, hlk, hts, hK, hE, hhd⟩ := hC
  unfold xe_mul at hf
  split at hf
  · rename_i b a r
    split at hf
    · rename_i hq
      obtain ⟨rfl, rfl, hq1, hq2⟩ := hq
      cases hf
      rw [hk]
      obtain ⟨hP, hD, hS, hsz, hCT, hST, hcl, hsl, hRc, hRs⟩ := id hR
      have hM : xg_CT ≤ 1000000 := by decide
      obtain ⟨kA, kI, c0, m1, m2, m3, m4⟩ := hE.2.2.2.2.2.2.2.2.2.2.2.1
      have hA8 : s.vm.findClass "[[I" = some (xd_A δ 8) := (hK.2 8 _ (xe_tys_get δ (t := 8) (ty := .array .int) rfl)).2
      intro T hT X
      have hTs : T.heap.size ≤ s.heap.size + cells := X.heapSize
      have hd' : decode c.code pc = .ok (.multianewarray index 2, 4) := by rw [hb]; exact hd
      obtain ⟨vm₁, XF, st⟩ := xe_mStep X hx hown (hts _ w1) hA8 m1 m2 m3 m4 (g := F0 m pc lsJ (.int 12 :: .int 4 :: r.map (xe_v δ))) rfl hd' rfl (by omega) (by omega)
      generalize hT1 : T.setVm vm₁ = T1 at XF st
      have hT1h : T1.heap = H := by rw [← hT1]; exact hT
      have hT1s : T1.heap.size = T.heap.size := by rw [← hT1]; rfl
      have i0 := xe_mI0 T1 (xd_A δ 8)
      have i1 := xe_mIs (cI := xd_A δ 0) i0
      have i2 := xe_mIs (cI := xd_A δ 0) i1
      have i3 := xe_mIs (cI := xd_A δ 0) i2
      have i4 := xe_mIs (cI := xd_A δ 0) i3
      have j4 := xe_mJs i3 (xe_mJs i2 (xe_mJs i1 (xe_mJs i0 (xe_mJ0 T1 (xd_A δ 8) (xd_A δ 0)))))
      have hHs : H.size = xd_b δ + (xe_sh μ).length := by
        have h1 : H.size ≤ xd_b δ + (xe_sh μ).length := by rw [← hT]; omega
        have h2 : xd_b δ + (xe_sh μ).length ≤ H.size := by
          by_cases h0 : (xe_sh μ).length = 0
          · have := hS.1; omega
          · have hl' : (xe_sh μ).length - 1 < (xe_sh μ).length := by omega
            have := (hP _ _ (xe_ws_at (List.getElem?_eq_getElem hl'))).lt
            rw [xe_ro_own δ (by omega)] at this
            omega
        omega
      have hlen : (xe_sh (xe_mulM μ)).length = (xe_sh μ).length + 5 := by show (μ.1 ++ [_, _, _, _, _]).length = _; rw [List.length_append]; rfl
      have hs1 : T1.heap.size = xd_b δ + (xe_sh μ).length := by rw [hT1h]; exact hHs
      have S0 : va_S (xe_A δ) s.heap (xe_m4 T1 (xd_A δ 8) (xd_A δ 0)).1.heap (locs ++ [⟨T.heap.size, 0⟩] ++ [⟨T.heap.size, 1⟩] ++ [⟨T.heap.size, 2⟩] ++ [⟨T.heap.size, 3⟩]) := by
        refine ⟨?_, fun q h1 h2 => ?_, ?_⟩
        · rw [i4.2.2.2.2.1, hT1h]; have := hS.1; omega
        · rw [j4.1 q (by rw [hT1h]; exact Nat.lt_of_lt_of_le h1 hS.1), hT1h]
          exact hS.2.1 q h1 h2
        · intro x hx
          have hTb : xd_b δ ≤ T.heap.size := by rw [hT]; omega
          simp only [List.mem_append, List.mem_singleton] at hx
          rcases hx with (((hx | rfl) | rfl) | rfl) | rfl
          · exact hS.2.2 x hx
          all_goals exact hTb
      have P0 : va_P (xd_D δ) xg_cl (xe_ws δ (xe_mulM μ)) (xe_m4 T1 (xd_A δ 8) (xd_A δ 0)).1.heap := by
        intro i q hq
        rw [xe_ws_get] at hq
        by_cases hi : i < (xe_sh μ).length
        · have e0 : (xe_sh (xe_mulM μ))[i]? = (xe_sh μ)[i]? := by
            show (xe_sh μ ++ _)[i]? = _
            rw [List.getElem?_append_left hi]
          rw [e0, List.getElem?_eq_getElem hi] at hq
          cases hq
          have hc : ¬ ((xe_sh μ).length ≤ i ∧ i < (xe_sh μ).length + 5) := by omega
          have hce : xe_ce δ (xe_mulM μ) i (xe_sh μ)[i] = xe_ce δ μ i (xe_sh μ)[i] := by
            refine xe_ce_congr _ ?_ ?_ ?_
            · funext j
              show (if (xe_sh μ).length ≤ i ∧ i < (xe_sh μ).length + 5 then (0 : Int32) else _) = _
              rw [if_neg hc]
            · funext j
              show (if (xe_sh μ).length ≤ i ∧ i < (xe_sh μ).length + 5 then (0 : Int64) else _) = _
              rw [if_neg hc]
            · funext j
              show (if i = (xe_sh μ).length then _ else if (xe_sh μ).length < i ∧ i < (xe_sh μ).length + 5 then none else _) = _
              rw [if_neg (by omega), if_neg (by omega)]
          show va_at _ _ (xe_ro δ i, xe_ce δ (xe_mulM μ) i (xe_sh μ)[i]) _
          rw [hce]
          have ho := hP i _ (xe_ws_at (List.getElem?_eq_getElem hi))
          refine ho.kept ?_
          have := ho.lt
          rw [j4.1 _ (by rw [hT1h]; exact this), hT1h]
        · have hne : (xe_sh (xe_mulM μ))[i]? = ([.inr (8, 4), .inr (0, 12), .inr (0, 12), .inr (0, 12), .inr (0, 12)] : List xe_Sh)[i - (xe_sh μ).length]? := by
            show (xe_sh μ ++ _)[i]? = _
            rw [List.getElem?_append_right (by omega)]
          rw [hne] at hq
          have hi5 : i - (xe_sh μ).length < 5 := by
            by_cases h : i - (xe_sh μ).length < 5
            · exact h
            · rw [List.getElem?_eq_none (by simpa using h)] at hq; cases hq
          obtain ⟨d, hd5⟩ : ∃ d, i = (xe_sh μ).length + d := ⟨i - (xe_sh μ).length, by omega⟩
          subst hd5
          rw [Nat.add_sub_cancel_left] at hq hi5
          have hrow : ∀ d', d = d' + 1 → q = (xe_ro δ ((xe_sh μ).length + d), .inl (xd_A δ 0, 12, .inl (fun _ => 0))) → va_at (xd_D δ) xg_cl q (xe_m4 T1 (xd_A δ 8) (xd_A δ 0)).1.heap := by
            rintro d' rfl rfl
            show (xe_m4 T1 (xd_A δ 8) (xd_A δ 0)).1.heap[_]? = some (vp_cell _ _)
            rw [xe_ro_own δ (by omega), show xd_b δ + ((xe_sh μ).length + (d' + 1)) = T1.heap.size + 1 + d' by omega, j4.2 d' (by omega), vp_cell_i, ← arrV_new]
            rfl
          have hI0 : ∀ x, xe_I (xe_mulM μ) ((xe_sh μ).length + d) x = 0 := by
            intro x
            show (if (xe_sh μ).length ≤ (xe_sh μ).length + d ∧ (xe_sh μ).length + d < (xe_sh μ).length + 5 then (0 : Int32) else _) = 0
            exact if_pos ⟨by omega, by omega⟩
          have hI1 : xe_I (xe_mulM μ) ((xe_sh μ).length + d) = fun _ => 0 := funext hI0
          rcases d with _ | _ | _ | _ | _ | d
          · cases hq
            show (xe_m4 T1 (xd_A δ 8) (xd_A δ 0)).1.heap[_]? = some (vp_cell _ _)
            rw [xe_ro_own δ (by omega), Nat.add_zero, ← hs1, i4.1, xe_ar_R (by decide), vp_cell_q]
            congr 1
            show (xe_m4 T1 (xd_A δ 8) (xd_A δ 0)).2 = _
            rw [xe_m4_cell, xe_out0, arrV_new, arrV_store, arrV_store, arrV_store, arrV_store]
            refine xe_arrV_congr (fun j hj => ?_)
            have hR : xe_R (xe_mulM μ) (xe_sh μ).length j = some ((xe_sh μ).length + 1 + j) := by
              show (if _ then if _ then _ else _ else _) = _
              rw [if_pos rfl, if_pos hj]
            show _ = va_rf ((xe_R (xe_mulM μ) (xe_sh μ).length j).map (xe_ro δ))
            rw [hR, Option.map_some, xe_ro_own δ (by omega), hs1]
            rcases j with _ | _ | _ | _ | j
            · rfl
            · rfl
            · rfl
            · rfl
            · omega
          · cases hq
            exact hrow 0 rfl (by show (xe_ro δ _, xe_ce δ (xe_mulM μ) _ (.inr (0, 12))) = _; rw [xe_ce, xe_ar_I (by decide) (by decide), hI1])
          · cases hq
            exact hrow 1 rfl (by show (xe_ro δ _, xe_ce δ (xe_mulM μ) _ (.inr (0, 12))) = _; rw [xe_ce, xe_ar_I (by decide) (by decide), hI1])
          · cases hq
            exact hrow 2 rfl (by show (xe_ro δ _, xe_ce δ (xe_mulM μ) _ (.inr (0, 12))) = _; rw [xe_ce, xe_ar_I (by decide) (by decide), hI1])
          · cases hq
            exact hrow 3 rfl (by show (xe_ro δ _, xe_ce δ (xe_mulM μ) _ (.inr (0, 12))) = _; rw [xe_ce, xe_ar_I (by decide) (by decide), hI1])
          · omega
      have kk := kk (xe_m4 T1 (xd_A δ 8) (xd_A δ 0)).1.heap (locs ++ [⟨T.heap.size, 0⟩] ++ [⟨T.heap.size, 1⟩] ++ [⟨T.heap.size, 2⟩] ++ [⟨T.heap.size, 3⟩]) (cells + 5) (slots + 52) lsJ ⟨P0, xe_ws_D (by rw [hlen]; omega), S0, hsz, by rw [hlen]; omega, by show xe_sl μ + 52 ≤ _; omega, by rw [hlen]; omega, by show slots + 52 + s0 = xe_sl μ + 52; omega, hRc, hRs⟩ hl
      rw [hk1, List.map_cons] at kk
      have e1 : xe_v δ (.ref (xe_sh μ).length) = .ref T.heap.size := by rw [xe_v, xe_ro_own δ (by omega), ← hT1s, hs1]
      rw [e1] at kk
      obtain ⟨t, a1, b1⟩ := kk _ rfl XF
      exact ⟨t, st t a1, b1⟩
    · cases hf
  · cases hf
