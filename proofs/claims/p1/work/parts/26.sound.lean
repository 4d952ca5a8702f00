/-! what the abstract machine's runs say, the machine does -/
section
variable {δ : xe_Dy} {p : Program} {l : Launch} {e : Env} {R : Room} {s : State} {m : MethodId} {args : Array Value} {below : List Frame} {meth : Method} {c : Code} {locs : List Loc} {cells slots : Nat}
/-- a call, from where it is invoked, by the callee's contract: it comes back, or it throws -/
theorem xe_called {Y Z : xe_Y} {d n0 s0 : Nat} {as : List Value} {μ μ' : xe_Mem} {o : xe_Out} {U : State} (hM : xe_Met δ l Z d as μ o μ') (X : Stand p l e R s m args below meth c U locs cells slots) (hC : xe_Cx δ Y p s m args meth c)
    (hgood : ∀ w ∈ xg_tb, xe_kp w) (hEX : ∀ t : State, s.vm.Alike t.vm → va_F (xe_A δ) s t → xg_EX δ t t.heap) (hcw : xe_cw Z ∈ xg_tb) (hini : Cond.initialized (xy_n Z).cls ∈ xg_tb)
    (hR : R = xe_rm (d + 1) n0 s0) (hn0 : n0 ≤ xg_CT) (hs0 : s0 ≤ xg_ST) (hRl : xe_Rl δ R s n0 s0 μ U.heap locs cells slots) (hsz2 : U.heap.size = xd_b δ + (xe_sh μ).length) {g : JFrame} (hg : g.method = m) (hsize : g.locals.size = c.maxLocals) {ig : Instr} (hdg : decode c.code g.pc = .ok (ig, 3)) (hW : 2 * g.monitorRoom + (g.stack.map fun v => v.category).sum ≤ 20) (hmL : xy_l Z ≤ 33) {mk : MethodId} (hn : U.methodNamed? (xy_n Z) = some mk) :
    ∃ (T' : State) (L : List Loc), Stand p l e R s m args below meth c T' (locs ++ L) (cells + ((xe_sh μ').length - (xe_sh μ).length)) (slots + (xe_sl μ' - xe_sl μ)) ∧ xe_Rl δ R s n0 s0 μ' T'.heap (locs ++ L) (cells + ((xe_sh μ').length - (xe_sh μ).length)) (slots + (xe_sl μ' - xe_sl μ)) ∧
      Steps p.tables e below (doInvoke e (U.setTop g) [] mk (as.map (xe_v δ)).toArray).1 (match o with
        | .inl v => T'.setTop { g with pc := g.pc + 3, stack := (v.map (xe_v δ)).toList ++ g.stack }
        | .inr a => (T'.setTop g).pushFrame (.throwing (xe_ro δ a))) := by
  obtain ⟨hx, hb, hml, hown, hnm, hret, hlk, hts, hK, hE, hhd⟩ := hC
  obtain ⟨hP, hD, hS, hsz, hCT, hST, hcl, hsl, hRc, hRs⟩ := id hRl
  have hws : ∀ w ∈ xg_tb, ∀ (a' : Array Value) (V : State), s.WarmedH V.vm → w.before a' V = true := fun w hw a' V hV => hgood w hw args a' s V hV (hts w hw)
  generalize ha : (as.map (xe_v δ)).toArray = a
  have h : At U g.method c below := by rw [hg]; exact X.here
  have h1 : (headSpec xg_tb (xe_rm d (xe_sh μ).length (xe_sl μ))).pre.before a U = true := atoms_intro fun w hw => hws w hw _ _ X.warmed
  obtain ⟨m9, methY, cY, hn9, hmY, hcY, hbY, hlY, hhY, hrY, hkY', hsY⟩ := xe_cw_spec (hws _ hcw a U X.warmed)
  cases hn.symm.trans hn9
  obtain ⟨kY, hkY, -⟩ := className_of_methodNamed hn
  have hinitY : kY.init = .initialized := Cond.initialized_spec (findClass_of_methodNamed hn) hkY (hws _ hini a U X.warmed)
  have happ : (headSpec xg_tb (xe_rm d (xe_sh μ).length (xe_sl μ))).appliesLoose (xy_n Z) e.platform (U.calling g mk a) = true :=
    Spec.appliesLoose_calling (g := g) h hdg hn hkY hinitY
      (X.room_calling (g := g) (R' := xe_rm d (xe_sh μ).length (xe_sl μ)) hsize hmY hcY (by rw [hR]; show d + 8 + 1 ≤ d + 1 + 8; omega) (by rw [hR, hlY]; show _ + (64 * d + 256) ≤ 64 * (d + 1) + 256; omega) (by rw [hR] at hRc ⊢; show cells + (xg_CT - _) ≤ xg_CT - n0; omega) (by rw [hR] at hRs ⊢; show slots + (xg_ST - _) ≤ xg_ST - s0; omega)) h1
  obtain ⟨mid, hmid⟩ := h.above
  have hfr : (U.setTop g).frames = (.java g :: mid) ++ below := by rw [State.frames_setTop' g h.top, hmid]; rfl
  have hPc : xe_Pc δ as μ a ((U.setTop g).pushFrame (.invoking mk a)) := by
    have hal : s.vm.Alike U.vm := X.warmed.alike
    exact ⟨ha.symm, hsz2, hP, hD, va_K.moved (u := s) (U := (U.setTop g).pushFrame (.invoking mk a)) hal hK, hEX ((U.setTop g).pushFrame (.invoking mk a)) hal (hS.F rfl)⟩
  obtain ⟨oc, s₂, hsteps, -, hend, hq⟩ := Steps.callFree hM p X.admits X.cas X.clock (acts := []) hfr happ hPc trivial
  rw [State.frames_setTop' g h.top] at hend
  have hq : xe_Qx δ (xe_sh μ).length (xe_sl μ) o μ' (U.calling g mk a) oc s₂ := hq
  obtain ⟨rfl, hP', hD', hF', hn', hs', hCT', hST', hW₂, L, hfe, hL⟩ := hq
  obtain ⟨e2, q2, q3, q4, q5, q6⟩ := id hfe
  have e3 : s₂ = ({ (U.calling g mk a).setFrames s₂.frames with heap := s₂.heap, slotsUsed := s₂.slotsUsed } : State).setVm s₂.vm := by
    have : s₂ = ({ s₂ with vm := (U.calling g mk a).vm } : State).setVm s₂.vm := rfl
    rw [e2] at this
    exact this
  have hW' : U.WarmedH s₂.vm := hW₂
  obtain ⟨g₀, hg0⟩ := Option.isSome_iff_exists.mp h.top
  obtain ⟨r, hr⟩ := State.topJava?_eq_some.mp hg0
  have hr' : (({ U with heap := s₂.heap, slotsUsed := s₂.slotsUsed } : State).setVm s₂.vm).frames = .java g₀ :: r := hr
  have hsame : U.sameButNew ({ U with heap := s₂.heap, slotsUsed := s₂.slotsUsed } : State) L ((xe_sh μ').length - (xe_sh μ).length) (xe_sl μ' - xe_sl μ) := by
    refine ⟨?_, q2, q3, q4, q5, q6⟩
    obtain ⟨t, ht, -⟩ := State.frames_cons hr
    show ({ U with heap := s₂.heap, slotsUsed := s₂.slotsUsed } : State) = { U.setFrames U.frames with heap := s₂.heap, slotsUsed := s₂.slotsUsed }
    rw [State.setFrames_self ht]
  subst hg
  refine ⟨(({ U with heap := s₂.heap, slotsUsed := s₂.slotsUsed } : State).setVm s₂.vm), L,
    ⟨X.admits, X.cas, X.clock, X.frames, X.room, X.hears, X.method, X.code, (X.here.setHeapUsed s₂.heap s₂.slotsUsed).setVm hW'.alike, X.tail, State.WarmedH.trans X.warmed hW', X.limits, X.bytes, X.same.trans (hsame.setVm s.vm)⟩, ⟨hP', hD', ⟨Nat.le_trans hS.1 hF'.1, fun q h1 h2 => (hF'.2 q (Nat.lt_of_lt_of_le h1 hS.1) h2).trans (hS.2.1 q h1 h2), fun q hq => ?_⟩, hsz, hCT', hST', by omega, by omega, hRc, hRs⟩, ?_⟩
  · rcases List.mem_append.mp hq with h | h
    · exact hS.2.2 q h
    · exact hL q h
  · cases o with
    | inl v =>
      obtain ⟨c₂, i₂, len₂, hc₂, hd₂, hf₂⟩ := hend
      have hcc : c₂ = c := by
        have h1 : s₂.code? g.method = U.code? g.method := by
          rw [State.code?_eq, State.code?_eq, hW'.alike.method?]
        exact Option.some.inj (hc₂.symm.trans (h1.trans h.code))
      subst hcc
      have hlen : len₂ = 3 := by rw [hdg] at hd₂; cases hd₂; rfl
      subst hlen
      have hs₂ : s₂ = (({ U with heap := s₂.heap, slotsUsed := s₂.slotsUsed } : State).setVm s₂.vm).setTop { g with pc := g.pc + 3, stack := (v.map (xe_v δ)).toList ++ g.stack } := by
        refine e3.trans ?_
        rw [hf₂, State.calling_eq h.top, State.setFrames_setFrames, State.setTop_of_frames _ hr', hr]
        rfl
      show Steps p.tables e below _ ((({ U with heap := s₂.heap, slotsUsed := s₂.slotsUsed } : State).setVm s₂.vm).setTop { g with pc := g.pc + 3, stack := (v.map (xe_v δ)).toList ++ g.stack })
      rw [← hs₂]
      exact hsteps
    | inr x =>
      have hf₂ : s₂.frames = .throwing (xe_ro δ x) :: .java g :: U.frames.tail := hend
      have hs₂ : s₂ = ((({ U with heap := s₂.heap, slotsUsed := s₂.slotsUsed } : State).setVm s₂.vm).setTop g).pushFrame (.throwing (xe_ro δ x)) := by
        refine e3.trans ?_
        rw [hf₂, State.calling_eq h.top, State.setFrames_setFrames, State.pushFrame, State.frames_setTop _ hr', State.setTop_of_frames _ hr', State.setFrames_setFrames, hr]
        rfl
      show Steps p.tables e below _ (((({ U with heap := s₂.heap, slotsUsed := s₂.slotsUsed } : State).setVm s₂.vm).setTop g).pushFrame (.throwing (xe_ro δ x)))
      rw [← hs₂]
      exact hsteps
end
