/-! the claim, out of what is to be shown of the abstract machine (xw_Law) -/
def R_law : String := "LogicalTimesLaw"
def lw_P (b : Addr) (xs : List Int32) (args : Array Value) (s : State) : Prop := args = #[.ref b] ∧ s.IntsAt b xs ∧ xs.length ≤ 6 ∧ (Jvm.Cond.and given_1 narrow_1).before args s = true
def lw_Q (_ : Array Value) (s : State) (o : Outcome) (t : State) : Prop := o = .returned (some (.int 1)) ∧ Framed s o t [] 600002 7302232
def lw_Z (below : List Frame) (a : Array Value) (s : State) : State → Prop := fun t => ∃ o, t.status = .running ∧ Ended t below o ∧ lw_Q a s o t
/-- what holds at the law's entry: the machine, the code, the tables' words (any of lw_tbl by 'hts w (by decide +kernel)'), the script of L ints xs at the cell b, what the Statement gives of the start (any of its parts by flat_of_before) -/
def lw_At (l : Launch) (p : Program) (s : State) (m : MethodId) (meth : Method) (c : Code) (b L : Nat) (xs : Nat → Int32) : Prop :=
  p.tables.exec = Jvm.exec ∧ c.code = code ∧ meth.sig.returnType = ret ∧ c.maxLocals = 7 ∧ s.vm.findClass R_law = some m.cls ∧ (∀ w ∈ lw_tbl, w.before #[Value.ref b] s = true) ∧ va_X b L xs s s.heap ∧ b < s.heap.size ∧ meth.locks = false ∧ (Jvm.Cond.and given_1 narrow_1).before #[Value.ref b] s = true ∧ xg_NT l ∧ meth.name = (xy_n xY0).name ∧ c.exceptionTable.toList.map (fun h => (h.startPc, h.endPc, h.handlerPc, h.catchType)) = []
/-- nothing made yet -/
def xe_m00 : xe_Mem := ([], fun _ _ => 0, fun _ _ => 0, fun _ _ => none, 0)
/-- what is to be shown: on every script of at most 6 ints the abstract machine's run of the law ends with 1 -/
def xw_Law : Prop := ∀ δ : xe_Dy, xd_n δ ≤ 6 → ∃ (n : Nat) (μ' : xe_Mem), xe_run (xM_C δ) xM_L xM_H n 1000 0 0 (xe_init [.ref 1000000] 7) [] xe_m00 = some (.inl (some (.int 1)), μ')
theorem xw_fresh {s s' : State} {J : List Loc} {k n : Nat} (h : s.sameButNew s' J k n) (hJ : ∀ x ∈ J, s.heap.size ≤ x.base) : s.sameButNew s' [] k n := by
  obtain ⟨h1, h2, h3, h4, h5, h6⟩ := h
  refine ⟨h1, h2, h3, h4, h5, fun a c hc => ?_⟩
  obtain ⟨c', q1, q2, q3, q4⟩ := h6 a c hc
  refine ⟨c', q1, q2, q3, fun i _ => q4 i (fun hm => ?_)⟩
  have := hJ _ hm
  have hlt : a < s.heap.size := (Array.getElem?_eq_some_iff.mp hc).1
  exact Nat.not_le.mpr hlt this
/-- from the entry, for every script of at most 6 ints, the law comes to its end with true -/
theorem whole_start (hLaw : xw_Law) {p : Program} {e : Env} {s : State} {m : MethodId} {below : List Frame} {meth : Method} {c : Code} (l : Launch) {b L : Nat} {xs : Nat → Int32} (hL : L ≤ 6) (C0 : lw_At l p s m meth c b L xs) : W p l e room_1 s m #[Value.ref b] below meth c s.heap [] 0 0 (lw_Z below #[Value.ref b] s) (entryFrame m ([Value.ref b] : List Value).toArray 7) := by
  obtain ⟨hx, hcode, hret, hml, hown, hts, hX, hb, hlk, hgv, hNT, hnm, hex⟩ := C0
  obtain ⟨δ, hn, hxs, hbz, he0, hK, hE⟩ := xl_EX hts hX hb hgv
  obtain ⟨n, μ', hr⟩ := hLaw δ (by rw [hn]; exact hL)
  have hC : xe_Cx δ xY0 p s m #[Value.ref b] meth c := ⟨hx, hcode, hml, hown, hnm, hret, hlk, fun w hw => hts w (List.mem_filter.mp hw).1, hK, hE, hex⟩
  have hnil : xe_ws δ xe_m00 = [] := rfl
  have hRl : xe_Rl δ (xe_rm 1000 0 0) s 0 0 xe_m00 s.heap [] 0 0 := by
    refine ⟨by rw [hnil]; intro k q h; simp at h, by rw [hnil]; exact ⟨fun i j p q h => by simp at h, fun k q h => by simp at h⟩, va_S.rf, by rw [hbz]; rfl, Nat.zero_le _, Nat.zero_le _, rfl, rfl, rfl, rfl⟩
  have hW := xe_sound (by decide) (xM_Tb δ) n 1000 0 0 (xe_init [.ref 1000000] 7) [] xe_m00 _ μ' hr xY0 rfl p l e s m #[Value.ref b] below meth c 0 0 s.heap [] 0 0 _ hNT hC (Nat.zero_le _) (Nat.zero_le _) hRl (xe_entry δ [.ref 1000000] (n := 7) (by decide))
  have e1 : [Value.ref 1000000].map (xe_v δ) = [Value.ref b] := by
    rw [List.map_cons, List.map_nil, xe_v, show xe_ro δ 1000000 = xd_e δ 0 from xe_ro_ext δ 0, he0]
  rw [show xe_pc xY0 0 = 0 from rfl, List.map_nil, ← lg_entry_eq m ([Value.ref 1000000].map (xe_v δ)) 7, e1] at hW
  refine xe_Wless (R' := xe_rm 1000 0 0) (xe_Wmono hW ?_) (by decide) (by decide) (by decide) (by decide)
  rintro t ⟨oc, h1, h2, ho, hP, hD, hF, -, -, hCT, hST, hWm, J, hs, hJ⟩
  refine ⟨oc, h1, h2, ho, ⟨_, ho⟩, hWm, ?_⟩
  refine (xw_fresh hs (fun q hq => ?_)).mono ?_ ?_
  · have h9 : xd_b δ ≤ q.base := hJ q hq
    rw [hbz] at h9
    exact h9
  · have : xg_CT = 600000 := rfl
    omega
  · have : xg_ST = 7290000 := rfl
    omega
set_option maxHeartbeats 4000000 in
theorem lw_walk (hLaw : xw_Law) (l : Launch) (hNT : xg_NT l) (b : Addr) (xs : List Int32) : MetFree l x (headSpec (Jvm.Cond.code x code maxLocals ret :: tables_1) room_1) (lw_P b xs) (fun _ _ _ _ _ => True) lw_Q := by
  refine MetFree.of_bodyS (code := code) (maxLocals := maxLocals) (ret := ret) (by decide) ?_ ?_
  · intro args s m h hn
    obtain ⟨meth, c, h1, h2, h3, h4, h5, h6, -, -⟩ := Cond.code_spec hn (atoms_spec (ws := Jvm.Cond.code x code maxLocals ret :: tables_1) h _ List.mem_cons_self)
    exact ⟨meth, c, h1, h2, h3, h4, h5, h6⟩
  · intro p e s m args below meth c s₁ B hml0 hP _
    obtain ⟨rfl, hx, hbd, hgv⟩ := hP
    obtain ⟨scr, harrAt, hlist, hof, hsmall⟩ := hx
    obtain ⟨hcb, hkn, -, -⟩ := State.arrayAt?_spec harrAt
    have hown : s.vm.findClass R_law = some m.cls := findClass_of_methodNamed B.named
    have hts0 : ∀ c ∈ (Jvm.Cond.code x code maxLocals ret :: tables_1), c.before #[Value.ref b] s = true := atoms_spec (ws := Jvm.Cond.code x code maxLocals ret :: tables_1) B.pre
    have hts : ∀ w ∈ lw_tbl, w.before #[Value.ref b] s = true := k2_hts_sels lw_privs (fun w hw => hts0 w (List.mem_cons_of_mem _ hw)) lw_privs_ok
    have hml : c.maxLocals = 7 := B.maxLocals_eq (hts0 _ List.mem_cons_self)
    have hexc : c.exceptionTable.toList.map (fun h => (h.startPc, h.endPc, h.handlerPc, h.catchType)) = [] := by
      obtain ⟨meth9, c9, q1, q2, -, -, -, -, q7, -⟩ := Cond.code_spec B.named (hts0 _ List.mem_cons_self)
      cases B.method.symm.trans q1
      cases (Stand.of_body B).code.symm.trans q2
      have hz : c.exceptionTable.size = 0 := by simpa [Array.isEmpty] using q7
      have : c.exceptionTable.toList = [] := List.eq_nil_of_length_eq_zero (by simpa using hz)
      rw [this]
      rfl
    have X₀ : Stand p l e room_1 s m #[Value.ref b] below meth c s₁ [] 0 0 := Stand.of_body B
    have hh0 : s₁.heap = s.heap := by rw [B.state]; rfl
    have hsz : scr.slots.size = xs.length := by rw [← Array.length_toList, hlist, List.length_map]
    have hval : ∀ j : Nat, j < xs.length → scr.slots[j]? = some (.int (xs.getD j 0)) := fun j hj => by
      rw [← Array.getElem?_toList, hlist]
      simp [hj]
    have hbl : b < s.heap.size := (Array.getElem?_eq_some_iff.mp hcb).1
    have hX : va_X b xs.length (fun j => xs.getD j 0) s s.heap := ⟨scr, hcb, hof, hkn, hsz, hval⟩
    have K : W p l e room_1 s m #[Value.ref b] below meth c s₁.heap [] 0 0 (lw_Z below #[Value.ref b] s) (entryFrame m ([Value.ref b] : List Value).toArray 7) := by
      rw [hh0]
      exact whole_start hLaw l hbd ⟨B.exec, B.bytes, B.returns, hml, hown, hts, hX, hbl, B.notSynchronized, hgv, hNT, (name_of_methodNamed B.named B.method).1, hexc⟩
    obtain ⟨t, a1, o, b1, b2, b3⟩ := K s₁ rfl X₀
    exact ⟨t, o, a1, b1, b2, b3⟩
theorem lw_pre_spec {args : Array Value} {s : State} (h : (Jvm.Cond.and given_1 narrow_1).before args s = true) (hr : rest_1_c.before args s = true) : ∃ (b : Addr) (xs : List Int32), lw_P b xs args s := by
  have hs := flat_of_before _ h
  have hq := flat_of_before _ hr
  have hc : (Cond.count 1).before args s = true := hs _ (by decide +kernel)
  have harr : (Cond.arrayOf (.arg 0) .int).before args s = true := hs _ (by decide +kernel)
  have hle : (Cond.le (.length (.arg 0)) (.int 6)).before args s = true := hs _ (by decide +kernel)
  have hlen : (Cond.isInt (.length (.arg 0))).before args s = true := hq _ (by decide +kernel)
  have hall : (Cond.all (.arg 0) (.isInt (.elem (.arg 0) (.index 0)))).before args s = true := hq _ (by decide +kernel)
  obtain ⟨b, xs, hb, hx⟩ := State.ints_of_pre rfl harr hlen hall
  have hsm : xs.length < 2 ^ 31 := hx.choose_spec.2.2.2
  have hev : (Term.length (.arg 0)).eval args s none [] s = some (.int xs.length.toInt32) := hx.length_eval hb
  have hv := Cond.le_ints hev (show (Term.int 6).eval args s none [] s = some (.int 6) from rfl)
  have hd : xs.length.toInt32 ≤ 6 := by
    simpa [Cond.before, Cond.holds, hv] using hle
  have hN : xs.length ≤ 6 := (Int32.ofNat_le_ofNat hsm (by decide)).mp (show Int32.ofNat xs.length ≤ Int32.ofNat 6 from hd)
  exact ⟨b, xs, Cond.one_arg hc (show args[0]? = some (.ref b) from hb), hx, hN, h⟩
theorem lw_comes (hLaw : xw_Law) (l : Launch) (hNT : xg_NT l) : Comes l x (Jvm.Cond.code x code maxLocals ret :: tables_1) room_1 (fun tb e args s => Calls_1 tb e args s ∧ rest_1 tb e args s ∧ Pre_1 tb e args s)
    (fun _ _ args s o t => lw_Q args s o t) := by
  intro p e ha hc hk s m args below hf hfit hheap happ hpre
  obtain ⟨b, xs, hP⟩ := lw_pre_spec hpre.2.2 hpre.2.1
  obtain ⟨k, o, h1, h2, h3, hQ⟩ := lw_walk hLaw l hNT b xs p e ha hc hk s m args below hf ((Spec.applies_iff_loose hf).mp happ).1 hP trivial
  exact ⟨k, o, h1, h2, h3, hQ⟩
theorem lw_frame {s t : State} {o : Outcome} {args : Array Value} (h : Framed s o t [] 600002 7302232) :
    Framed s o t (fieldLocs frame_1_writes args s ++ arrayLocs frame_1_arrays args s ++ staticLocs frame_1_statics s) 600002 7302232 := h
theorem lw_limb (hLaw : xw_Law) (L : Cond) (hL : ∀ (args : Array Value) (s t : State), L.after args s (.returned (some (.int 1))) t = true) :
    ArmFor flags0 classFile x code maxLocals ret World_1 tables_1 room_1 Calls_1 rest_1 Pre_1
      (fun tb e a s o t => postC L tb e a s o t ∧ Framed s o t (fieldLocs frame_1_writes a s ++ arrayLocs frame_1_arrays a s ++ staticLocs frame_1_statics s) 600002 7302232) := by
  intro l hfl _ _ p e ha hc hk s m args below hf hfit hheap happ hpre
  obtain ⟨k, o, h1, h2, h3, rfl, hF⟩ := lw_comes hLaw l (fun e he => Launch.traces_off hfl he) p e ha hc hk s m args below hf hfit hheap happ hpre
  exact ⟨k, _, h1, h2, h3, hL args s _, lw_frame hF⟩
theorem xw_claim (hLaw : xw_Law) : Claimed_1_1 ∧ Claimed_1_2 := ⟨lw_limb hLaw limb_1_1 (fun args s t => by simp [limb_1_1, Cond.after, Cond.holds, Cond.value]), lw_limb hLaw limb_1_2 (fun args s t => Cond.after_iff.mpr (by
  first | (rw [show limb_1_2 = Cond.eq .result (.int 1) from rfl, Cond.eq_ints (x := 1) (y := 1) rfl rfl]; simp; done) | (simp [limb_1_2, Cond.value, Term.eval]; done)))⟩
