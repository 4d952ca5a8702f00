/-! the enum's array, its constants' spellings -/
theorem xg_ES_of {δ : xe_Dy} {s : State} {H : Heap} (hE : xg_EX δ s H) : xg_ES δ s H := hE.2.2.2.2.2.2.2.2.2.2.2.2
theorem xe_ro_at (δ : xe_Dy) (i j : Nat) : xe_ro δ (1000000 + j + i) = xd_e δ (i + j) := by
  rw [show 1000000 + j + i = 1000000 + (i + j) by omega, xe_ro_ext]
theorem xe_six {a : Nat} (h : 1000031 ≤ a ∧ a < 1000060) : ∃ i, i < 29 ∧ a = 1000031 + i := by
  obtain ⟨i, hi⟩ := Nat.exists_eq_add_of_le h.1
  exact ⟨i, by omega, hi⟩
theorem xe_bix {a : Nat} (h : 1000060 ≤ a ∧ a < 1000089) : ∃ i, i < 29 ∧ a = 1000060 + i := by
  obtain ⟨i, hi⟩ := Nat.exists_eq_add_of_le h.1
  exact ⟨i, by omega, hi⟩
/-- a static that is known -/
theorem xo_gts {δ : xe_Dy} {Y : xe_Y} {k pc index : Nat} {C n d : String} {v w : Value} (hk : xe_pc Y k = pc) (hk1 : xe_pc Y (k + 1) = pc + 3) (hZ : ∀ (s : State), xg_EX δ s s.heap → va_Z C n d w (xe_A δ) s s.heap) (hv : xe_v δ v = w) (wd : Cond.fieldLink (xy_n Y).cls index C n d ∈ xg_tb) (hd : decode (xy_b Y) pc = .ok (.getstatic index, 3)) : xe_OKL δ Y k (xe_push v) := by
  intro p l e R s m args below meth c n0 s0 H locs cells slots Q lsJ ls st μ k' ls' st' μ' hC hfr hlo hR hl hf kk
  obtain ⟨hx, hb, hml, hown, hnm, hret, hlk, hts, hK, hE, hhd⟩ := hC
  cases hf
  rw [hk]
  have kk := kk H locs cells slots lsJ hR hl
  rw [hk1, List.map_cons, hv] at kk
  exact va_gets hx hb (hZ s hE) hR.2.2.1 hown (hts _ wd) (fun _ h => h) hd kk
theorem xo_gtsA {δ : xe_Dy} {Y : xe_Y} {k pc index : Nat} (hk : xe_pc Y k = pc) (hk1 : xe_pc Y (k + 1) = pc + 3) (wd : Cond.fieldLink (xy_n Y).cls index "LogicalTimes$Kind" "ALL" "[LLogicalTimes$Kind;" ∈ xg_tb) (hd : decode (xy_b Y) pc = .ok (.getstatic index, 3)) : xe_OKL δ Y k (xe_push (.ref 1000030)) :=
  xo_gts hk hk1 (fun s hE => (xg_ES_of hE).1) (by rw [xe_v]; exact congrArg Value.ref (xe_ro_at δ 0 30)) wd hd
theorem xo_gtsC {δ : xe_Dy} {Y : xe_Y} {k pc index : Nat} (hk : xe_pc Y k = pc) (hk1 : xe_pc Y (k + 1) = pc + 3) (wd : Cond.fieldLink (xy_n Y).cls index "java/lang/String" "COMPACT_STRINGS" "Z" ∈ xg_tb) (hd : decode (xy_b Y) pc = .ok (.getstatic index, 3)) : xe_OKL δ Y k (xe_push (.int 1)) :=
  xo_gts hk hk1 (fun s hE => (xg_ES_of hE).2.2.2.2.2.2.2.1) rfl wd hd
def xe_fmt (δ : xe_Dy) : Value := if xd_e δ 90 = 0 then .null else .ref 1000089
theorem xo_gtsF {δ : xe_Dy} {Y : xe_Y} {k pc index : Nat} (hk : xe_pc Y k = pc) (hk1 : xe_pc Y (k + 1) = pc + 3) (wd : Cond.fieldLink (xy_n Y).cls index "jdk/internal/util/Preconditions" "SIOOBE_FORMATTER" "Ljava/util/function/BiFunction;" ∈ xg_tb) (hd : decode (xy_b Y) pc = .ok (.getstatic index, 3)) : xe_OKL δ Y k (xe_push (xe_fmt δ)) :=
  xo_gts hk hk1 (fun s hE => (xg_ES_of hE).2.2.2.2.2.2.2.2) (by
    unfold xe_fmt
    by_cases h : xd_e δ 90 = 0
    · rw [if_pos h, if_pos h]; rfl
    · rw [if_neg h, if_neg h, xe_v]
      exact congrArg Value.ref (xe_ro_at δ 0 89)) wd hd
/-- length of the enum's array, or of a spelling's bytes -/
def xe_xln : xe_F := fun k ls st μ => match st with
  | .ref a :: r => if a = 1000030 then some (k + 1, ls, .int 29 :: r, μ) else if 1000060 ≤ a ∧ a < 1000089 then some (k + 1, ls, .int (Int32.ofNat (xg_sp.getD (a - 1000060) []).length) :: r, μ) else none
  | _ => none
theorem xo_xln {δ : xe_Dy} {Y : xe_Y} {k pc : Nat} (hk : xe_pc Y k = pc) (hk1 : xe_pc Y (k + 1) = pc + 1) (hd : decode (xy_b Y) pc = .ok (.arraylength, 1)) : xe_OKL δ Y k xe_xln := by
  intro p l e R s m args below meth c n0 s0 H locs cells slots Q lsJ ls st μ k' ls' st' μ' hC hfr hlo hR hl hf kk
  obtain ⟨hx, hb, hml, hown, hnm, hret, hlk, hts, hK, hE, hhd⟩ := hC
  unfold xe_xln at hf
  split at hf
  · rename_i a r
    split at hf
    · rename_i ha
      subst ha
      cases hf
      rw [hk]
      have kk := kk H locs cells slots lsJ hR hl
      rw [hk1] at kk
      have e1 : xe_v δ (.ref 1000030) = .ref (xd_e δ 30) := by rw [xe_v]; exact congrArg Value.ref (xe_ro_at δ 0 30)
      rw [List.map_cons, e1]
      exact va_tlen hx hb (xg_ES_of hE).2.1 hR.2.2.1 rfl hd kk
    · split at hf
      · rename_i ha
        obtain ⟨i, hi, rfl⟩ := xe_bix ha
        rw [Nat.add_sub_cancel_left] at hf
        cases hf
        rw [hk]
        have kk := kk H locs cells slots lsJ hR hl
        rw [hk1] at kk
        have e1 : xe_v δ (.ref (1000060 + i)) = .ref (xd_e δ (i + 60)) := by rw [xe_v]; exact congrArg Value.ref (xe_ro_at δ i 60)
        rw [List.map_cons, e1]
        exact va_tlen hx hb ((xg_ES_of hE).2.2.2.2.2.2.1 i hi) hR.2.2.1 rfl hd kk
      · cases hf
  · cases hf
/-- one of the enum's array -/
def xe_xaa : xe_F := fun k ls st μ => match st with
  | .int i :: .ref a :: r => if a = 1000030 ∧ ¬ (i < 0 ∨ 29 ≤ i.toNatClampNeg) then some (k + 1, ls, .ref (1000001 + i.toNatClampNeg) :: r, μ) else none
  | _ => none
theorem xo_xaa {δ : xe_Dy} {Y : xe_Y} {k pc : Nat} (hk : xe_pc Y k = pc) (hk1 : xe_pc Y (k + 1) = pc + 1) (hd : decode (xy_b Y) pc = .ok (.aaload, 1)) : xe_OKL δ Y k xe_xaa := by
  intro p l e R s m args below meth c n0 s0 H locs cells slots Q lsJ ls st μ k' ls' st' μ' hC hfr hlo hR hl hf kk
  obtain ⟨hx, hb, hml, hown, hnm, hret, hlk, hts, hK, hE, hhd⟩ := hC
  unfold xe_xaa at hf
  split at hf
  · rename_i i a r
    split at hf
    · rename_i ha
      obtain ⟨rfl, hin⟩ := ha
      cases hf
      rw [hk]
      have kk := kk H locs cells slots lsJ hR hl
      rw [hk1, List.map_cons, xe_v, xe_ro_kind] at kk
      have e1 : xe_v δ (.ref 1000030) = .ref (xd_e δ 30) := by rw [xe_v]; exact congrArg Value.ref (xe_ro_at δ 0 30)
      rw [List.map_cons, List.map_cons, e1]
      exact vb_tq hx hb (xg_ES_of hE).2.1 hR.2.2.1 hin rfl hd kk
    · cases hf
  · cases hf
/-- a byte of a spelling -/
def xe_xba : xe_F := fun k ls st μ => match st with
  | .int i :: .ref a :: r => if (1000060 ≤ a ∧ a < 1000089) ∧ ¬ (i < 0 ∨ (xg_sp.getD (a - 1000060) []).length ≤ i.toNatClampNeg) then some (k + 1, ls, .int ((xg_sp.getD (a - 1000060) []).getD i.toNatClampNeg 0) :: r, μ) else none
  | _ => none
theorem xo_xba {δ : xe_Dy} {Y : xe_Y} {k pc : Nat} (hk : xe_pc Y k = pc) (hk1 : xe_pc Y (k + 1) = pc + 1) (hd : decode (xy_b Y) pc = .ok (.baload, 1)) : xe_OKL δ Y k xe_xba := by
  intro p l e R s m args below meth c n0 s0 H locs cells slots Q lsJ ls st μ k' ls' st' μ' hC hfr hlo hR hl hf kk
  obtain ⟨hx, hb, hml, hown, hnm, hret, hlk, hts, hK, hE, hhd⟩ := hC
  unfold xe_xba at hf
  split at hf
  · rename_i i a r
    split at hf
    · rename_i ha
      obtain ⟨ha, hin⟩ := ha
      obtain ⟨j, hj, rfl⟩ := xe_bix ha
      rw [Nat.add_sub_cancel_left] at hin hf
      cases hf
      rw [hk]
      have kk := kk H locs cells slots lsJ hR hl
      rw [hk1] at kk
      have e1 : xe_v δ (.ref (1000060 + j)) = .ref (xd_e δ (j + 60)) := by rw [xe_v]; exact congrArg Value.ref (xe_ro_at δ j 60)
      rw [List.map_cons, List.map_cons, e1]
      exact va_tb hx hb ((xg_ES_of hE).2.2.2.2.2.2.1 j hj) hR.2.2.1 hin rfl hd kk
    · cases hf
  · cases hf
/-- the spelling of one of the enum's constants -/
def xe_gsp : xe_F := fun k ls st μ => match st with
  | .ref a :: r => if 1000001 ≤ a ∧ a < 1000030 then some (k + 1, ls, .ref (1000031 + (a - 1000001)) :: r, μ) else none
  | _ => none
theorem xo_gsp {δ : xe_Dy} {Y : xe_Y} {k pc index : Nat} (hk : xe_pc Y k = pc) (hk1 : xe_pc Y (k + 1) = pc + 3) (w : Cond.fieldLink (xy_n Y).cls index "LogicalTimes$Kind" "spelling" "Ljava/lang/String;" ∈ xg_tb) (hd : decode (xy_b Y) pc = .ok (.getfield index, 3)) : xe_OKL δ Y k xe_gsp := by
  intro p l e R s m args below meth c n0 s0 H locs cells slots Q lsJ ls st μ k' ls' st' μ' hC hfr hlo hR hl hf kk
  obtain ⟨hx, hb, hml, hown, hnm, hret, hlk, hts, hK, hE, hhd⟩ := hC
  unfold xe_gsp at hf
  split at hf
  · rename_i a r
    split at hf
    · rename_i ha
      obtain ⟨i, hi, rfl⟩ := xe_kix ha
      rw [Nat.add_sub_cancel_left] at hf
      cases hf
      rw [hk]
      have kk := kk H locs cells slots lsJ hR hl
      have e2 : xe_v δ (.ref (1000031 + i)) = .ref (xd_e δ (i + 31)) := by rw [xe_v]; exact congrArg Value.ref (xe_ro_at δ i 31)
      rw [hk1, List.map_cons, e2] at kk
      have e1 : xe_v δ (.ref (1000001 + i)) = .ref (xd_e δ (i + 1)) := by rw [xe_v, xe_ro_kind]
      rw [List.map_cons, e1]
      exact va_getX (i := i) (v := fun i => .ref (xd_e δ (i + 31))) (ad := fun i => xd_e δ (i + 1)) hx hb (xg_ES_of hE).2.2.1 hi hR.2.2.1 hown (hts _ w) (fun _ h => h) hd kk
    · cases hf
  · cases hf
/-- the bytes of a spelling; its coder -/
def xe_gva : xe_F := fun k ls st μ => match st with
  | .ref a :: r => if 1000031 ≤ a ∧ a < 1000060 then some (k + 1, ls, .ref (1000060 + (a - 1000031)) :: r, μ) else none
  | _ => none
def xe_gco : xe_F := fun k ls st μ => match st with
  | .ref a :: r => if 1000031 ≤ a ∧ a < 1000060 then some (k + 1, ls, .int 0 :: r, μ) else none
  | _ => none
theorem xo_gva {δ : xe_Dy} {Y : xe_Y} {k pc index : Nat} (hk : xe_pc Y k = pc) (hk1 : xe_pc Y (k + 1) = pc + 3) (w : Cond.fieldLink (xy_n Y).cls index "java/lang/String" "value" "[B" ∈ xg_tb) (hd : decode (xy_b Y) pc = .ok (.getfield index, 3)) : xe_OKL δ Y k xe_gva := by
  intro p l e R s m args below meth c n0 s0 H locs cells slots Q lsJ ls st μ k' ls' st' μ' hC hfr hlo hR hl hf kk
  obtain ⟨hx, hb, hml, hown, hnm, hret, hlk, hts, hK, hE, hhd⟩ := hC
  unfold xe_gva at hf
  split at hf
  · rename_i a r
    split at hf
    · rename_i ha
      obtain ⟨i, hi, rfl⟩ := xe_six ha
      rw [Nat.add_sub_cancel_left] at hf
      cases hf
      rw [hk]
      have kk := kk H locs cells slots lsJ hR hl
      have e2 : xe_v δ (.ref (1000060 + i)) = .ref (xd_e δ (i + 60)) := by rw [xe_v]; exact congrArg Value.ref (xe_ro_at δ i 60)
      rw [hk1, List.map_cons, e2] at kk
      have e1 : xe_v δ (.ref (1000031 + i)) = .ref (xd_e δ (i + 31)) := by rw [xe_v]; exact congrArg Value.ref (xe_ro_at δ i 31)
      rw [List.map_cons, e1]
      exact va_getX (i := i) (v := fun i => .ref (xd_e δ (i + 60))) (ad := fun i => xd_e δ (i + 31)) hx hb (xg_ES_of hE).2.2.2.2.1 hi hR.2.2.1 hown (hts _ w) (fun _ h => h) hd kk
    · cases hf
  · cases hf
theorem xo_gco {δ : xe_Dy} {Y : xe_Y} {k pc index : Nat} (hk : xe_pc Y k = pc) (hk1 : xe_pc Y (k + 1) = pc + 3) (w : Cond.fieldLink (xy_n Y).cls index "java/lang/String" "coder" "B" ∈ xg_tb) (hd : decode (xy_b Y) pc = .ok (.getfield index, 3)) : xe_OKL δ Y k xe_gco := by
  intro p l e R s m args below meth c n0 s0 H locs cells slots Q lsJ ls st μ k' ls' st' μ' hC hfr hlo hR hl hf kk
  obtain ⟨hx, hb, hml, hown, hnm, hret, hlk, hts, hK, hE, hhd⟩ := hC
  unfold xe_gco at hf
  split at hf
  · rename_i a r
    split at hf
    · rename_i ha
      obtain ⟨i, hi, rfl⟩ := xe_six ha
      cases hf
      rw [hk]
      have kk := kk H locs cells slots lsJ hR hl
      rw [hk1] at kk
      have e1 : xe_v δ (.ref (1000031 + i)) = .ref (xd_e δ (i + 31)) := by rw [xe_v]; exact congrArg Value.ref (xe_ro_at δ i 31)
      rw [List.map_cons, e1]
      exact va_getX (i := i) (v := fun _ => .int 0) (ad := fun i => xd_e δ (i + 31)) hx hb (xg_ES_of hE).2.2.2.2.2.1 hi hR.2.2.1 hown (hts _ w) (fun _ h => h) hd kk
    · cases hf
  · cases hf
def xe_i2c : xe_F := fun k ls st μ => match st with
  | .int x :: r => some (k + 1, ls, .int (x.toUInt32 % 65536).toInt32 :: r, μ)
  | _ => none
theorem xo_i2c {δ : xe_Dy} {Y : xe_Y} {k pc : Nat} (hk : xe_pc Y k = pc) (hk1 : xe_pc Y (k + 1) = pc + 1) (hd : decode (xy_b Y) pc = .ok (.i2c, 1)) : xe_OKL δ Y k xe_i2c := by
  intro p l e R s m args below meth c n0 s0 H locs cells slots Q lsJ ls st μ k' ls' st' μ' hC hfr hlo hR hl hf kk
  obtain ⟨hx, hb, hml, hown, hnm, hret, hlk, hts, hK, hE, hhd⟩ := hC
  unfold xe_i2c at hf
  split at hf
  · cases hf
    rw [hk]
    have kk := kk H locs cells slots lsJ hR hl
    rw [hk1] at kk
    exact lv_i2c hx hb hd rfl kk
  · cases hf
/-- calls on one of the enum's constants, on a spelling -/
theorem xc_K {δ : xe_Dy} {Y Z : xe_Y} {k pc index na z : Nat} {nest : Option String} (hk : xe_pc Y k = pc) (hk1 : xe_pc Y (k + 1) = pc + 3) (hd : decode (xy_b Y) pc = .ok (.invokevirtual index, 3)) (w1 : xe_mlink (xy_n Y).cls index (xy_n Z) nest ∈ xg_tb) (w2 : Cond.instanceMethod (xy_n Z) ∈ xg_tb) (w3 : Cond.selects "LogicalTimes$Kind" (xy_n Z) (xy_n Z) ∈ xg_tb) (w4 : xe_cw Z ∈ xg_tb) (hy : xe_plain (xy_n Z)) (hn : (parseMethodDescriptor (xy_n Z).desc).map (fun d => d.parameters.length) = some na) : xe_OKC δ Y k Z (z, na + 1, 101) :=
  xc_virtualG hk hk1 hd (fun s R n0 s0 locs cells slots μ H as hK hE hR hrcv => by
    obtain ⟨a, as', rfl, ha⟩ := xe_rcv_K hrcv
    obtain ⟨i, hi, rfl⟩ := xe_kix ha
    obtain ⟨cell, h1, h2, h3⟩ := va_recvE (i := i) hE.2.2.2.2.2.1 hi hR.2.2.1
    exact ⟨_, as', cell, rfl, by rw [xe_ro_kind]; exact h1, h2, h3⟩) w1 w2 w3 w4 hy hn
theorem xc_S {δ : xe_Dy} {Y Z : xe_Y} {k pc index na z : Nat} {nest : Option String} (hk : xe_pc Y k = pc) (hk1 : xe_pc Y (k + 1) = pc + 3) (hd : decode (xy_b Y) pc = .ok (.invokevirtual index, 3)) (w1 : xe_mlink (xy_n Y).cls index (xy_n Z) nest ∈ xg_tb) (w2 : Cond.instanceMethod (xy_n Z) ∈ xg_tb) (w3 : Cond.selects "java/lang/String" (xy_n Z) (xy_n Z) ∈ xg_tb) (w4 : xe_cw Z ∈ xg_tb) (hy : xe_plain (xy_n Z)) (hn : (parseMethodDescriptor (xy_n Z).desc).map (fun d => d.parameters.length) = some na) : xe_OKC δ Y k Z (z, na + 1, 102) :=
  xc_virtualG hk hk1 hd (fun s R n0 s0 locs cells slots μ H as hK hE hR hrcv => by
    obtain ⟨a, as', rfl, ha⟩ := xe_rcv_S hrcv
    obtain ⟨i, hi, rfl⟩ := xe_six ha
    obtain ⟨cell, h1, h2, h3, -⟩ := ((xg_ES_of hE).2.2.2.1 i hi).kept hR.2.2.1.2.1
    exact ⟨_, as', cell, rfl, by rw [show xe_ro δ (1000031 + i) = xd_e δ (i + 31) from xe_ro_at δ i 31]; exact h1, h2, h3⟩) w1 w2 w3 w4 hy hn
