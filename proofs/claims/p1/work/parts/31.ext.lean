/-! what was there before: the enum's constants; arrays of each kind; arraycopy of each kind -/
theorem xo_ldcw {δ : xe_Dy} {Y : xe_Y} {k pc : Nat} (hk : xe_pc Y k = pc) (hk1 : xe_pc Y (k + 1) = pc + 3) {index : Nat} {v : Int32} (hw : Cond.constant (xy_n Y).cls index v ∈ xg_tb) (hd : decode (xy_b Y) pc = .ok (.ldc_w index, 3)) : xe_OKL δ Y k (xe_push (.int v)) := by
  intro p l e R s m args below meth c n0 s0 H locs cells slots Q lsJ ls st μ k' ls' st' μ' hC hfr hlo hR hl hf kk
  obtain ⟨hx, hb, hml, hown, hnm, hret, hlk, hts, hK, hE, hhd⟩ := hC
  cases hf
  rw [hk]
  have kk := kk H locs cells slots lsJ hR hl
  rw [hk1] at kk
  exact lv_ldcw hx hb hown (hts _ hw) hd kk
theorem xo_iushr {δ : xe_Dy} {Y : xe_Y} {k pc : Nat} (hk : xe_pc Y k = pc) (hk1 : xe_pc Y (k + 1) = pc + 1) (hd : decode (xy_b Y) pc = .ok (.iushr, 1)) : xe_OKL δ Y k (xe_i2 (fun x y => (x.toUInt32 >>> (y.toUInt32 &&& Int32.toUInt32 31)).toInt32)) := by
  intro p l e R s m args below meth c n0 s0 H locs cells slots Q lsJ ls st μ k' ls' st' μ' hC hfr hlo hR hl hf kk
  obtain ⟨hx, hb, hml, hown, hnm, hret, hlk, hts, hK, hE, hhd⟩ := hC
  unfold xe_i2 at hf
  split at hf
  · cases hf
    rw [hk]
    have kk := kk H locs cells slots lsJ hR hl
    rw [hk1] at kk
    exact lv_iushr hx hb hd rfl kk
  · cases hf
theorem xo_nw0 {δ : xe_Dy} {Y : xe_Y} {k pc : Nat} (hk : xe_pc Y k = pc) (hk1 : xe_pc Y (k + 1) = pc + 2) (hd : decode (xy_b Y) pc = .ok (.newarray .int, 2)) : xe_OKL δ Y k (xe_nwa 0) :=
  xo_newarray (ty := .int) hk hk1 (by decide) rfl rfl (by decide) (xg_w 65 (by decide +kernel)) (fun μ a n cA hI hL => by rw [xe_ar_I (by decide) (by decide), hI]; rfl) hd
theorem xo_nw1 {δ : xe_Dy} {Y : xe_Y} {k pc : Nat} (hk : xe_pc Y k = pc) (hk1 : xe_pc Y (k + 1) = pc + 2) (hd : decode (xy_b Y) pc = .ok (.newarray .long, 2)) : xe_OKL δ Y k (xe_nwa 1) :=
  xo_newarray (ty := .long) hk hk1 (by decide) rfl rfl (by decide) (xg_w 66 (by decide +kernel)) (fun μ a n cA hI hL => by show vp_cell cA (n, .inr (.inl (xe_L μ a))) = _; rw [hL]; rfl) hd
theorem xo_nw2 {δ : xe_Dy} {Y : xe_Y} {k pc : Nat} (hk : xe_pc Y k = pc) (hk1 : xe_pc Y (k + 1) = pc + 2) (hd : decode (xy_b Y) pc = .ok (.newarray .byte, 2)) : xe_OKL δ Y k (xe_nwa 2) :=
  xo_newarray (ty := .byte) hk hk1 (by decide) rfl rfl (by decide) (xg_w 64 (by decide +kernel)) (fun μ a n cA hI hL => by rw [xe_ar_I (by decide) (by decide), hI]; rfl) hd
theorem xo_nw3 {δ : xe_Dy} {Y : xe_Y} {k pc : Nat} (hk : xe_pc Y k = pc) (hk1 : xe_pc Y (k + 1) = pc + 2) (hd : decode (xy_b Y) pc = .ok (.newarray .boolean, 2)) : xe_OKL δ Y k (xe_nwa 3) :=
  xo_newarray (ty := .boolean) hk hk1 (by decide) rfl rfl (by decide) (xg_w 143 (by decide +kernel)) (fun μ a n cA hI hL => by rw [xe_ar_I (by decide) (by decide), hI]; rfl) hd
theorem xg_native : Cond.native arraycopyName ∈ xg_tb := xg_w 531 (by decide +kernel)
theorem xg_static : Cond.static arraycopyName ∈ xg_tb := xg_w 530 (by decide +kernel)
theorem xg_system : Cond.initialized "java/lang/System" ∈ xg_tb := xg_w 13 (by decide +kernel)
theorem xg_kinst : Cond.instantiable "LogicalTimes$Kind" 6 ∈ xg_tb := xg_w 576 (by decide +kernel)
/-- a byte -/
def xe_bok (x : Int32) : Bool := fits .byte (.int x)
theorem xo_cp0 {δ : xe_Dy} {Y : xe_Y} {k pc index : Nat} (hk : xe_pc Y k = pc) (hk1 : xe_pc Y (k + 1) = pc + 3) (w1 : Cond.methodLink (xy_n Y).cls index arraycopyName ∈ xg_tb) (hd : decode (xy_b Y) pc = .ok (.invokestatic index, 3)) : xe_OKL δ Y k (xe_acp 0 (fun _ => true)) :=
  xo_acp (ty := .int) hk hk1 rfl (by decide) (by decide) rfl (fun _ _ => rfl) w1 xg_native xg_static xg_system (by decide +kernel) hd
theorem xo_cp2 {δ : xe_Dy} {Y : xe_Y} {k pc index : Nat} (hk : xe_pc Y k = pc) (hk1 : xe_pc Y (k + 1) = pc + 3) (w1 : Cond.methodLink (xy_n Y).cls index arraycopyName ∈ xg_tb) (hd : decode (xy_b Y) pc = .ok (.invokestatic index, 3)) : xe_OKL δ Y k (xe_acp 2 xe_bok) :=
  xo_acp (ty := .byte) hk hk1 rfl (by decide) (by decide) rfl (fun _ h => h) w1 xg_native xg_static xg_system (by decide +kernel) hd
theorem xe_ro_kind (δ : xe_Dy) (i : Nat) : xe_ro δ (1000001 + i) = xd_e δ (i + 1) := by
  rw [show 1000001 + i = 1000000 + (i + 1) by omega, xe_ro_ext]
theorem xo_kind {δ : xe_Dy} {Y : xe_Y} {k pc index i : Nat} (hk : xe_pc Y k = pc) (hk1 : xe_pc Y (k + 1) = pc + 3) (hi : i < 29) (w : Cond.fieldLink (xy_n Y).cls index "LogicalTimes$Kind" (xg_kn.getD i "") "LLogicalTimes$Kind;" ∈ xg_tb) (hd : decode (xy_b Y) pc = .ok (.getstatic index, 3)) : xe_OKL δ Y k (xe_push (.ref (1000001 + i))) := by
  intro p l e R s m args below meth c n0 s0 H locs cells slots Q lsJ ls st μ k' ls' st' μ' hC hfr hlo hR hl hf kk
  obtain ⟨hx, hb, hml, hown, hnm, hret, hlk, hts, hK, hE, hhd⟩ := hC
  cases hf
  rw [hk]
  have kk := kk H locs cells slots lsJ hR hl
  rw [hk1, List.map_cons, xe_v, xe_ro_kind] at kk
  exact va_gets hx hb (hE.2.2.2.2.2.1.1 i hi).1 hR.2.2.1 hown (hts _ w) (fun _ h => h) hd kk
theorem xe_kix {a : Nat} (h : 1000001 ≤ a ∧ a < 1000030) : ∃ i, i < 29 ∧ a = 1000001 + i := by
  obtain ⟨i, hi⟩ := Nat.exists_eq_add_of_le h.1
  exact ⟨i, by omega, hi⟩
/-- an int field of one of the enum's constants -/
def xe_gtE (tbl : List Int32) : xe_F := fun k ls st μ => match st with
  | .ref a :: r => if 1000001 ≤ a ∧ a < 1000030 then some (k + 1, ls, .int (tbl.getD (a - 1000001) 0) :: r, μ) else none
  | _ => none
theorem xo_gtE {δ : xe_Dy} {Y : xe_Y} {k pc index : Nat} {q : String × String × String × List Int32} (hk : xe_pc Y k = pc) (hk1 : xe_pc Y (k + 1) = pc + 3) (hq : q ∈ xg_kf) (w : Cond.fieldLink (xy_n Y).cls index q.1 q.2.1 q.2.2.1 ∈ xg_tb) (hd : decode (xy_b Y) pc = .ok (.getfield index, 3)) : xe_OKL δ Y k (xe_gtE q.2.2.2) := by
  intro p l e R s m args below meth c n0 s0 H locs cells slots Q lsJ ls st μ k' ls' st' μ' hC hfr hlo hR hl hf kk
  obtain ⟨hx, hb, hml, hown, hnm, hret, hlk, hts, hK, hE, hhd⟩ := hC
  unfold xe_gtE at hf
  split at hf
  · rename_i a r
    split at hf
    · rename_i ha
      obtain ⟨i, hi, rfl⟩ := xe_kix ha
      rw [Nat.add_sub_cancel_left] at hf
      cases hf
      rw [hk]
      have kk := kk H locs cells slots lsJ hR hl
      rw [hk1] at kk
      have e1 : xe_v δ (.ref (1000001 + i)) = .ref (xd_e δ (i + 1)) := by rw [xe_v, xe_ro_kind]
      rw [List.map_cons, e1]
      exact va_getE hx hb hE.2.2.2.2.2.1 (i := i) hi hR.2.2.1 hown hq (hts _ w) (fun _ h => h) hd kk
    · cases hf
  · cases hf
/-- null, or one of the enum's constants -/
def xe_kr : Value → Option (Option Nat)
  | .null => some none
  | .ref a => if 1000001 ≤ a ∧ a < 1000030 then some (some a) else none
  | _ => none
theorem xe_kr_spec {v : Value} {o : Option Nat} (h : xe_kr v = some o) : v = va_rf o ∧ ∀ a, o = some a → 1000001 ≤ a ∧ a < 1000030 := by
  cases v with
  | null => cases h; exact ⟨rfl, fun a h => by cases h⟩
  | ref a =>
    simp only [xe_kr] at h
    split at h
    · rename_i ha
      cases h
      exact ⟨rfl, fun b h => by cases h; exact ha⟩
    · cases h
  | _ => cases h
theorem xe_kr_inj {δ : xe_Dy} {s : State} {H : Heap} (hE : xg_EX δ s H) {x y : Option Nat} (hx : ∀ a, x = some a → 1000001 ≤ a ∧ a < 1000030) (hy : ∀ a, y = some a → 1000001 ≤ a ∧ a < 1000030) (h : x.map (xe_ro δ) = y.map (xe_ro δ)) : x = y := by
  cases x with
  | none => cases y with
    | none => rfl
    | some b => cases h
  | some a => cases y with
    | none => cases h
    | some b =>
      obtain ⟨i, hi, rfl⟩ := xe_kix (hx a rfl)
      obtain ⟨j, hj, rfl⟩ := xe_kix (hy b rfl)
      have h1 : xe_ro δ (1000001 + i) = xe_ro δ (1000001 + j) := Option.some.inj h
      rw [xe_ro_kind, xe_ro_kind] at h1
      have h2 := hE.2.2.2.2.2.1.2 i j hi hj h1
      rw [h2]
def xe_aceq (b : Nat) : xe_F := fun k ls st μ => match st with
  | v :: w :: r => match xe_kr v, xe_kr w with
    | some y, some x => if x = y then some (b, ls, r, μ) else some (k + 1, ls, r, μ)
    | _, _ => none
  | _ => none
def xe_acne (b : Nat) : xe_F := fun k ls st μ => match st with
  | v :: w :: r => match xe_kr v, xe_kr w with
    | some y, some x => if x = y then some (k + 1, ls, r, μ) else some (b, ls, r, μ)
    | _, _ => none
  | _ => none
theorem xo_aceq {δ : xe_Dy} {Y : xe_Y} {k pc : Nat} (hk : xe_pc Y k = pc) (hk1 : xe_pc Y (k + 1) = pc + 3) {b tgt : Nat} {off : Int} (hb1 : xe_pc Y b = tgt) (hd : decode (xy_b Y) pc = .ok (.if_acmp .eq off, 3)) (ht : (pc : Int) + off = (tgt : Int)) : xe_OKL δ Y k (xe_aceq b) := by
  intro p l e R s m args below meth c n0 s0 H locs cells slots Q lsJ ls st μ k' ls' st' μ' hC hfr hlo hR hl hf kk
  obtain ⟨hx, hb, hml, hown, hnm, hret, hlk, hts, hK, hE, hhd⟩ := hC
  unfold xe_aceq at hf
  split at hf
  · rename_i v w r
    split at hf
    · rename_i y x hy hx1
      obtain ⟨rfl, qy⟩ := xe_kr_spec hy
      obtain ⟨rfl, qx⟩ := xe_kr_spec hx1
      rw [hk, List.map_cons, List.map_cons, xe_v_rf, xe_v_rf]
      split at hf
      · rename_i he
        cases hf
        have kk := kk H locs cells slots lsJ hR hl
        rw [hb1] at kk
        exact lv_acmp_eq hx hb hd ht (fun _ => kk) (fun h => absurd (by rw [he]) h)
      · rename_i he
        cases hf
        have kk := kk H locs cells slots lsJ hR hl
        rw [hk1] at kk
        exact lv_acmp_eq hx hb hd ht (fun h => absurd (xe_kr_inj hE qx qy h) he) (fun _ => kk)
    · cases hf
  · cases hf
theorem xo_acne {δ : xe_Dy} {Y : xe_Y} {k pc : Nat} (hk : xe_pc Y k = pc) (hk1 : xe_pc Y (k + 1) = pc + 3) {b tgt : Nat} {off : Int} (hb1 : xe_pc Y b = tgt) (hd : decode (xy_b Y) pc = .ok (.if_acmp .ne off, 3)) (ht : (pc : Int) + off = (tgt : Int)) : xe_OKL δ Y k (xe_acne b) := by
  intro p l e R s m args below meth c n0 s0 H locs cells slots Q lsJ ls st μ k' ls' st' μ' hC hfr hlo hR hl hf kk
  obtain ⟨hx, hb, hml, hown, hnm, hret, hlk, hts, hK, hE, hhd⟩ := hC
  unfold xe_acne at hf
  split at hf
  · rename_i v w r
    split at hf
    · rename_i y x hy hx1
      obtain ⟨rfl, qy⟩ := xe_kr_spec hy
      obtain ⟨rfl, qx⟩ := xe_kr_spec hx1
      rw [hk, List.map_cons, List.map_cons, xe_v_rf, xe_v_rf]
      split at hf
      · rename_i he
        cases hf
        have kk := kk H locs cells slots lsJ hR hl
        rw [hk1] at kk
        exact lv_acmp_ne hx hb hd ht (fun h => absurd (by rw [he]) h) (fun _ => kk)
      · rename_i he
        cases hf
        have kk := kk H locs cells slots lsJ hR hl
        rw [hb1] at kk
        exact lv_acmp_ne hx hb hd ht (fun _ => kk) (fun h => absurd (xe_kr_inj hE qx qy h) he)
    · cases hf
  · cases hf
/-- one of the enum's constants into an array of them -/
def xe_astK : xe_F := fun k ls st μ => match st with
  | .ref v :: .int i :: .ref a :: r => match (xe_sh μ)[a]? with
    | some (.inr q) => if q.1 = 7 ∧ ¬ (i < 0 ∨ q.2 ≤ i.toNatClampNeg) ∧ 1000001 ≤ v ∧ v < 1000030 then some (k + 1, ls, r, xe_setR μ a i.toNatClampNeg (some v)) else none
    | _ => none
  | _ => none
theorem xo_astK {δ : xe_Dy} {Y : xe_Y} {k pc : Nat} (hk : xe_pc Y k = pc) (hk1 : xe_pc Y (k + 1) = pc + 1) (hd : decode (xy_b Y) pc = .ok (.aastore, 1)) : xe_OKL δ Y k xe_astK := by
  intro p l e R s m args below meth c n0 s0 H locs cells slots Q lsJ ls st μ k' ls' st' μ' hC hfr hlo hR hl hf kk
  obtain ⟨hx, hb, hml, hown, hnm, hret, hlk, hts, hK, hE, hhd⟩ := hC
  unfold xe_astK at hf
  split at hf
  · rename_i v i a r
    split at hf
    · rename_i q hsh
      split at hf
      · rename_i hq
        obtain ⟨t', n⟩ := q
        obtain ⟨rfl, hin, hv⟩ := hq
        obtain ⟨j, hj, rfl⟩ := xe_kix hv
        cases hf
        rw [hk]
        have ht : xg_tl[7]? = some (.object "LogicalTimes$Kind") := rfl
        have e1 := xe_ro_kind δ j
        have hO := ((hE.2.2.2.2.2.1.1 j hj).2.1).kept hR.2.2.1.2.1
        have hany : va_Any "LogicalTimes$Kind" s H (xe_ro δ (1000001 + j)) := by
          rw [e1]
          obtain ⟨cell, h1, h2, h3, -⟩ := hO
          obtain ⟨cC, kC, hfc, hkC, hkind, -⟩ := Cond.instantiable_spec (hts _ xg_kinst)
          cases h3.symm.trans hfc
          exact ⟨cell, h1, h2, ⟨kC, hkC⟩, fun comp h => by cases h.symm.trans hfc; exact va_assign (C := "LogicalTimes$Kind") ⟨hfc, kC, hkC, hkind⟩⟩
        refine va_astqM hx hb hK hR.1 hR.2.1 hR.2.2.1 a 7 (xe_at_R hsh (by decide)) (xe_tys_get δ ht) hany hin hd (fun H1 locs1 hP1 hD1 hS1 => ?_)
        have kk := kk H1 locs1 cells slots lsJ (xe_Rl_set hR (xe_ws_aR (some (1000001 + j)) hsh (by decide)) rfl rfl hP1 hD1 hS1) hl
        rw [hk1] at kk
        exact kk
      · cases hf
    · cases hf
  · cases hf
