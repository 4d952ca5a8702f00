/-! the operations on the stack and the locals (written by wip/whole/gen/ops.py) -/
def xe_push (v : Value) : xe_F := fun k ls st μ => some (k + 1, ls, v :: st, μ)
theorem xo_iconst {δ : xe_Dy} {Y : xe_Y} {k pc : Nat} (hk : xe_pc Y k = pc) (hk1 : xe_pc Y (k + 1) = pc + 1) {n : Int} {v : Int32} (hd : decode (xy_b Y) pc = .ok (.iconst n, 1)) (hv : Int32.ofInt n = v) : xe_OKL δ Y k (xe_push (.int v)) := by
  intro p l e R s m args below meth c n0 s0 H locs cells slots Q lsJ ls st μ k' ls' st' μ' hC hfr hlo hR hl hf kk
  obtain ⟨hx, hb, hml, hown, hnm, hret, hlk, hts, hK, hE, hhd⟩ := hC
  cases hf
  rw [hk]
  have kk := kk H locs cells slots lsJ hR hl
  rw [hk1] at kk
  exact lv_iconst hx hb hd hv kk
theorem xo_bipush {δ : xe_Dy} {Y : xe_Y} {k pc : Nat} (hk : xe_pc Y k = pc) (hk1 : xe_pc Y (k + 1) = pc + 2) {n : Int} {v : Int32} (hd : decode (xy_b Y) pc = .ok (.bipush n, 2)) (hv : (Int8.ofInt n).toInt32 = v) : xe_OKL δ Y k (xe_push (.int v)) := by
  intro p l e R s m args below meth c n0 s0 H locs cells slots Q lsJ ls st μ k' ls' st' μ' hC hfr hlo hR hl hf kk
  obtain ⟨hx, hb, hml, hown, hnm, hret, hlk, hts, hK, hE, hhd⟩ := hC
  cases hf
  rw [hk]
  have kk := kk H locs cells slots lsJ hR hl
  rw [hk1] at kk
  exact lv_bipush hx hb hd hv kk
theorem xo_sipush {δ : xe_Dy} {Y : xe_Y} {k pc : Nat} (hk : xe_pc Y k = pc) (hk1 : xe_pc Y (k + 1) = pc + 3) {n : Int} {v : Int32} (hd : decode (xy_b Y) pc = .ok (.sipush n, 3)) (hv : (Int16.ofInt n).toInt32 = v) : xe_OKL δ Y k (xe_push (.int v)) := by
  intro p l e R s m args below meth c n0 s0 H locs cells slots Q lsJ ls st μ k' ls' st' μ' hC hfr hlo hR hl hf kk
  obtain ⟨hx, hb, hml, hown, hnm, hret, hlk, hts, hK, hE, hhd⟩ := hC
  cases hf
  rw [hk]
  have kk := kk H locs cells slots lsJ hR hl
  rw [hk1] at kk
  exact lv_sipush hx hb hd hv kk
theorem xo_lconst {δ : xe_Dy} {Y : xe_Y} {k pc : Nat} (hk : xe_pc Y k = pc) (hk1 : xe_pc Y (k + 1) = pc + 1) {n : Fin 2} {v : Int64} (hd : decode (xy_b Y) pc = .ok (.lconst n, 1)) (hv : Int64.ofNat (n : Nat) = v) : xe_OKL δ Y k (xe_push (.long v)) := by
  intro p l e R s m args below meth c n0 s0 H locs cells slots Q lsJ ls st μ k' ls' st' μ' hC hfr hlo hR hl hf kk
  obtain ⟨hx, hb, hml, hown, hnm, hret, hlk, hts, hK, hE, hhd⟩ := hC
  cases hf
  rw [hk]
  have kk := kk H locs cells slots lsJ hR hl
  rw [hk1] at kk
  exact lv_lconst hx hb hd hv kk
theorem xo_null {δ : xe_Dy} {Y : xe_Y} {k pc : Nat} (hk : xe_pc Y k = pc) (hk1 : xe_pc Y (k + 1) = pc + 1) (hd : decode (xy_b Y) pc = .ok (.aconst_null, 1)) : xe_OKL δ Y k (xe_push (.null)) := by
  intro p l e R s m args below meth c n0 s0 H locs cells slots Q lsJ ls st μ k' ls' st' μ' hC hfr hlo hR hl hf kk
  obtain ⟨hx, hb, hml, hown, hnm, hret, hlk, hts, hK, hE, hhd⟩ := hC
  cases hf
  rw [hk]
  have kk := kk H locs cells slots lsJ hR hl
  rw [hk1] at kk
  exact lv_null hx hb hd kk
theorem xo_ldc {δ : xe_Dy} {Y : xe_Y} {k pc : Nat} (hk : xe_pc Y k = pc) (hk1 : xe_pc Y (k + 1) = pc + 2) {index : Nat} {v : Int32} (hw : Cond.constant (xy_n Y).cls index v ∈ xg_tb) (hd : decode (xy_b Y) pc = .ok (.ldc index, 2)) : xe_OKL δ Y k (xe_push (.int v)) := by
  intro p l e R s m args below meth c n0 s0 H locs cells slots Q lsJ ls st μ k' ls' st' μ' hC hfr hlo hR hl hf kk
  obtain ⟨hx, hb, hml, hown, hnm, hret, hlk, hts, hK, hE, hhd⟩ := hC
  cases hf
  rw [hk]
  have kk := kk H locs cells slots lsJ hR hl
  rw [hk1] at kk
  exact lv_ldc hx hb hown (hts _ hw) hd kk
theorem xo_ldc2 {δ : xe_Dy} {Y : xe_Y} {k pc : Nat} (hk : xe_pc Y k = pc) (hk1 : xe_pc Y (k + 1) = pc + 3) {index : Nat} {v : Int64} (hw : Cond.constantLong (xy_n Y).cls index v ∈ xg_tb) (hd : decode (xy_b Y) pc = .ok (.ldc2_w index, 3)) : xe_OKL δ Y k (xe_push (.long v)) := by
  intro p l e R s m args below meth c n0 s0 H locs cells slots Q lsJ ls st μ k' ls' st' μ' hC hfr hlo hR hl hf kk
  obtain ⟨hx, hb, hml, hown, hnm, hret, hlk, hts, hK, hE, hhd⟩ := hC
  cases hf
  rw [hk]
  have kk := kk H locs cells slots lsJ hR hl
  rw [hk1] at kk
  exact lv_ldc2 hx hb hown (hts _ hw) hd kk
def xe_ldI (i : Nat) : xe_F := fun k ls st μ => match ls[i]? with
  | some (some (.int x)) => some (k + 1, ls, .int x :: st, μ)
  | _ => none
def xe_ldL (i : Nat) : xe_F := fun k ls st μ => match ls[i]? with
  | some (some (.long x)) => some (k + 1, ls, .long x :: st, μ)
  | _ => none
def xe_ldA (i : Nat) : xe_F := fun k ls st μ => match ls[i]? with
  | some (some (.ref x)) => some (k + 1, ls, .ref x :: st, μ)
  | some (some .null) => some (k + 1, ls, .null :: st, μ)
  | _ => none
theorem xo_iload {δ : xe_Dy} {Y : xe_Y} {k pc : Nat} (hk : xe_pc Y k = pc) (hk1 : xe_pc Y (k + 1) = pc + 2) {i : Nat} (hd : decode (xy_b Y) pc = .ok (.iload i, 2)) : xe_OKL δ Y k (xe_ldI i) := by
  intro p l e R s m args below meth c n0 s0 H locs cells slots Q lsJ ls st μ k' ls' st' μ' hC hfr hlo hR hl hf kk
  obtain ⟨hx, hb, hml, hown, hnm, hret, hlk, hts, hK, hE, hhd⟩ := hC
  unfold xe_ldI at hf
  split at hf
  · rename_i x hx1
    cases hf
    rw [hk]
    have kk := kk H locs cells slots lsJ hR hl
    rw [hk1] at kk
    exact lv_iload hx hb hd (hl.2.2 _ (xe_lv_mem.mpr ⟨_, hx1, rfl⟩)) kk
  · cases hf
theorem xo_iload_n {δ : xe_Dy} {Y : xe_Y} {k pc : Nat} (hk : xe_pc Y k = pc) (hk1 : xe_pc Y (k + 1) = pc + 1) {q : Fin 4} {i : Nat} (hd : decode (xy_b Y) pc = .ok (.iload_n q, 1)) (hi : (q : Nat) = i) : xe_OKL δ Y k (xe_ldI i) := by
  intro p l e R s m args below meth c n0 s0 H locs cells slots Q lsJ ls st μ k' ls' st' μ' hC hfr hlo hR hl hf kk
  obtain ⟨hx, hb, hml, hown, hnm, hret, hlk, hts, hK, hE, hhd⟩ := hC
  unfold xe_ldI at hf
  split at hf
  · rename_i x hx1
    cases hf
    rw [hk]
    have kk := kk H locs cells slots lsJ hR hl
    rw [hk1] at kk
    exact lv_iload_n hx hb hd hi (hl.2.2 _ (xe_lv_mem.mpr ⟨_, hx1, rfl⟩)) kk
  · cases hf
theorem xo_lload {δ : xe_Dy} {Y : xe_Y} {k pc : Nat} (hk : xe_pc Y k = pc) (hk1 : xe_pc Y (k + 1) = pc + 2) {i : Nat} (hd : decode (xy_b Y) pc = .ok (.lload i, 2)) : xe_OKL δ Y k (xe_ldL i) := by
  intro p l e R s m args below meth c n0 s0 H locs cells slots Q lsJ ls st μ k' ls' st' μ' hC hfr hlo hR hl hf kk
  obtain ⟨hx, hb, hml, hown, hnm, hret, hlk, hts, hK, hE, hhd⟩ := hC
  unfold xe_ldL at hf
  split at hf
  · rename_i x hx1
    cases hf
    rw [hk]
    have kk := kk H locs cells slots lsJ hR hl
    rw [hk1] at kk
    exact lv_lload hx hb hd (hl.2.2 _ (xe_lv_mem.mpr ⟨_, hx1, rfl⟩)) kk
  · cases hf
theorem xo_lload_n {δ : xe_Dy} {Y : xe_Y} {k pc : Nat} (hk : xe_pc Y k = pc) (hk1 : xe_pc Y (k + 1) = pc + 1) {q : Fin 4} {i : Nat} (hd : decode (xy_b Y) pc = .ok (.lload_n q, 1)) (hi : (q : Nat) = i) : xe_OKL δ Y k (xe_ldL i) := by
  intro p l e R s m args below meth c n0 s0 H locs cells slots Q lsJ ls st μ k' ls' st' μ' hC hfr hlo hR hl hf kk
  obtain ⟨hx, hb, hml, hown, hnm, hret, hlk, hts, hK, hE, hhd⟩ := hC
  unfold xe_ldL at hf
  split at hf
  · rename_i x hx1
    cases hf
    rw [hk]
    have kk := kk H locs cells slots lsJ hR hl
    rw [hk1] at kk
    exact lv_lload_n hx hb hd hi (hl.2.2 _ (xe_lv_mem.mpr ⟨_, hx1, rfl⟩)) kk
  · cases hf
theorem xo_aload {δ : xe_Dy} {Y : xe_Y} {k pc : Nat} (hk : xe_pc Y k = pc) (hk1 : xe_pc Y (k + 1) = pc + 2) {i : Nat} (hd : decode (xy_b Y) pc = .ok (.aload i, 2)) : xe_OKL δ Y k (xe_ldA i) := by
  intro p l e R s m args below meth c n0 s0 H locs cells slots Q lsJ ls st μ k' ls' st' μ' hC hfr hlo hR hl hf kk
  obtain ⟨hx, hb, hml, hown, hnm, hret, hlk, hts, hK, hE, hhd⟩ := hC
  unfold xe_ldA at hf
  split at hf
  · rename_i x hx1
    cases hf
    rw [hk]
    have kk := kk H locs cells slots lsJ hR hl
    rw [hk1] at kk
    exact lv_aload hx hb hd (hl.2.2 _ (xe_lv_mem.mpr ⟨_, hx1, rfl⟩)) kk
  · rename_i hx1
    cases hf
    rw [hk]
    have kk := kk H locs cells slots lsJ hR hl
    rw [hk1] at kk
    exact lv_aloadN hx hb hd (hl.2.2 _ (xe_lv_mem.mpr ⟨_, hx1, rfl⟩)) kk
  · cases hf
theorem xo_aload_n {δ : xe_Dy} {Y : xe_Y} {k pc : Nat} (hk : xe_pc Y k = pc) (hk1 : xe_pc Y (k + 1) = pc + 1) {q : Fin 4} {i : Nat} (hd : decode (xy_b Y) pc = .ok (.aload_n q, 1)) (hi : (q : Nat) = i) : xe_OKL δ Y k (xe_ldA i) := by
  intro p l e R s m args below meth c n0 s0 H locs cells slots Q lsJ ls st μ k' ls' st' μ' hC hfr hlo hR hl hf kk
  obtain ⟨hx, hb, hml, hown, hnm, hret, hlk, hts, hK, hE, hhd⟩ := hC
  unfold xe_ldA at hf
  split at hf
  · rename_i x hx1
    cases hf
    rw [hk]
    have kk := kk H locs cells slots lsJ hR hl
    rw [hk1] at kk
    exact lv_aload_n hx hb hd hi (hl.2.2 _ (xe_lv_mem.mpr ⟨_, hx1, rfl⟩)) kk
  · rename_i hx1
    cases hf
    rw [hk]
    have kk := kk H locs cells slots lsJ hR hl
    rw [hk1] at kk
    exact lv_aload_nN hx hb hd hi (hl.2.2 _ (xe_lv_mem.mpr ⟨_, hx1, rfl⟩)) kk
  · cases hf
def xe_stI (i : Nat) : xe_F := fun k ls st μ => match st with
  | .int x :: r => some (k + 1, xe_st1 ls i (.int x), r, μ)
  | _ => none
def xe_stL (i : Nat) : xe_F := fun k ls st μ => match st with
  | .long x :: r => some (k + 1, xe_st2 ls i (.long x), r, μ)
  | _ => none
def xe_stA (i : Nat) : xe_F := fun k ls st μ => match st with
  | .ref x :: r => some (k + 1, xe_st1 ls i (.ref x), r, μ)
  | .null :: r => some (k + 1, xe_st1 ls i .null, r, μ)
  | _ => none
theorem xo_istore {δ : xe_Dy} {Y : xe_Y} {k pc : Nat} (hk : xe_pc Y k = pc) (hk1 : xe_pc Y (k + 1) = pc + 2) {i : Nat} (hd : decode (xy_b Y) pc = .ok (.istore i, 2)) (hn : i < xy_l Y) : xe_OKL δ Y k (xe_stI i) := by
  intro p l e R s m args below meth c n0 s0 H locs cells slots Q lsJ ls st μ k' ls' st' μ' hC hfr hlo hR hl hf kk
  obtain ⟨hx, hb, hml, hown, hnm, hret, hlk, hts, hK, hE, hhd⟩ := hC
  unfold xe_stI at hf
  split at hf
  · rename_i x r
    cases hf
    rw [hk]
    refine lv_istore hx hb hd hl hn rfl (fun lsJ' h' => ?_)
    have kk := kk H locs cells slots lsJ' hR (xe_st1_has h')
    rw [hk1] at kk
    exact kk
  · cases hf
theorem xo_istore_n {δ : xe_Dy} {Y : xe_Y} {k pc : Nat} (hk : xe_pc Y k = pc) (hk1 : xe_pc Y (k + 1) = pc + 1) {q : Fin 4} {i : Nat} (hd : decode (xy_b Y) pc = .ok (.istore_n q, 1)) (hi : (q : Nat) = i) (hn : i < xy_l Y) : xe_OKL δ Y k (xe_stI i) := by
  intro p l e R s m args below meth c n0 s0 H locs cells slots Q lsJ ls st μ k' ls' st' μ' hC hfr hlo hR hl hf kk
  obtain ⟨hx, hb, hml, hown, hnm, hret, hlk, hts, hK, hE, hhd⟩ := hC
  unfold xe_stI at hf
  split at hf
  · rename_i x r
    cases hf
    rw [hk]
    refine lv_istore_n hx hb hd hi hl hn rfl (fun lsJ' h' => ?_)
    have kk := kk H locs cells slots lsJ' hR (xe_st1_has h')
    rw [hk1] at kk
    exact kk
  · cases hf
theorem xo_lstore {δ : xe_Dy} {Y : xe_Y} {k pc : Nat} (hk : xe_pc Y k = pc) (hk1 : xe_pc Y (k + 1) = pc + 2) {i : Nat} (hd : decode (xy_b Y) pc = .ok (.lstore i, 2)) (hn : i + 1 < xy_l Y) : xe_OKL δ Y k (xe_stL i) := by
  intro p l e R s m args below meth c n0 s0 H locs cells slots Q lsJ ls st μ k' ls' st' μ' hC hfr hlo hR hl hf kk
  obtain ⟨hx, hb, hml, hown, hnm, hret, hlk, hts, hK, hE, hhd⟩ := hC
  unfold xe_stL at hf
  split at hf
  · rename_i x r
    cases hf
    rw [hk]
    refine lv_lstore hx hb hd hl hn rfl (fun lsJ' h' => ?_)
    have kk := kk H locs cells slots lsJ' hR (xe_st2_has h')
    rw [hk1] at kk
    exact kk
  · cases hf
theorem xo_lstore_n {δ : xe_Dy} {Y : xe_Y} {k pc : Nat} (hk : xe_pc Y k = pc) (hk1 : xe_pc Y (k + 1) = pc + 1) {q : Fin 4} {i : Nat} (hd : decode (xy_b Y) pc = .ok (.lstore_n q, 1)) (hi : (q : Nat) = i) (hn : i + 1 < xy_l Y) : xe_OKL δ Y k (xe_stL i) := by
  intro p l e R s m args below meth c n0 s0 H locs cells slots Q lsJ ls st μ k' ls' st' μ' hC hfr hlo hR hl hf kk
  obtain ⟨hx, hb, hml, hown, hnm, hret, hlk, hts, hK, hE, hhd⟩ := hC
  unfold xe_stL at hf
  split at hf
  · rename_i x r
    cases hf
    rw [hk]
    refine lv_lstore_n hx hb hd hi hl hn rfl (fun lsJ' h' => ?_)
    have kk := kk H locs cells slots lsJ' hR (xe_st2_has h')
    rw [hk1] at kk
    exact kk
  · cases hf
theorem xo_astore {δ : xe_Dy} {Y : xe_Y} {k pc : Nat} (hk : xe_pc Y k = pc) (hk1 : xe_pc Y (k + 1) = pc + 2) {i : Nat} (hd : decode (xy_b Y) pc = .ok (.astore i, 2)) (hn : i < xy_l Y) : xe_OKL δ Y k (xe_stA i) := by
  intro p l e R s m args below meth c n0 s0 H locs cells slots Q lsJ ls st μ k' ls' st' μ' hC hfr hlo hR hl hf kk
  obtain ⟨hx, hb, hml, hown, hnm, hret, hlk, hts, hK, hE, hhd⟩ := hC
  unfold xe_stA at hf
  split at hf
  · rename_i x r
    cases hf
    rw [hk]
    refine lv_astore hx hb hd hl hn rfl (fun lsJ' h' => ?_)
    have kk := kk H locs cells slots lsJ' hR (xe_st1_has h')
    rw [hk1] at kk
    exact kk
  · rename_i r
    cases hf
    rw [hk]
    refine lv_astoreN hx hb hd hl hn rfl (fun lsJ' h' => ?_)
    have kk := kk H locs cells slots lsJ' hR (xe_st1_has h')
    rw [hk1] at kk
    exact kk
  · cases hf
theorem xo_astore_n {δ : xe_Dy} {Y : xe_Y} {k pc : Nat} (hk : xe_pc Y k = pc) (hk1 : xe_pc Y (k + 1) = pc + 1) {q : Fin 4} {i : Nat} (hd : decode (xy_b Y) pc = .ok (.astore_n q, 1)) (hi : (q : Nat) = i) (hn : i < xy_l Y) : xe_OKL δ Y k (xe_stA i) := by
  intro p l e R s m args below meth c n0 s0 H locs cells slots Q lsJ ls st μ k' ls' st' μ' hC hfr hlo hR hl hf kk
  obtain ⟨hx, hb, hml, hown, hnm, hret, hlk, hts, hK, hE, hhd⟩ := hC
  unfold xe_stA at hf
  split at hf
  · rename_i x r
    cases hf
    rw [hk]
    refine lv_astore_n hx hb hd hi hl hn rfl (fun lsJ' h' => ?_)
    have kk := kk H locs cells slots lsJ' hR (xe_st1_has h')
    rw [hk1] at kk
    exact kk
  · rename_i r
    cases hf
    rw [hk]
    refine lv_astore_nN hx hb hd hi hl hn rfl (fun lsJ' h' => ?_)
    have kk := kk H locs cells slots lsJ' hR (xe_st1_has h')
    rw [hk1] at kk
    exact kk
  · cases hf
def xe_inc (i : Nat) (d : Int32) : xe_F := fun k ls st μ => match ls[i]? with
  | some (some (.int x)) => some (k + 1, xe_st1 ls i (.int (x + d)), st, μ)
  | _ => none
theorem xo_iinc {δ : xe_Dy} {Y : xe_Y} {k pc : Nat} (hk : xe_pc Y k = pc) (hk1 : xe_pc Y (k + 1) = pc + 3) {i : Nat} {n : Int} {d : Int32} (hd : decode (xy_b Y) pc = .ok (.iinc i n, 3)) (hv : Int32.ofInt n = d) (hn : i < xy_l Y) : xe_OKL δ Y k (xe_inc i d) := by
  intro p l e R s m args below meth c n0 s0 H locs cells slots Q lsJ ls st μ k' ls' st' μ' hC hfr hlo hR hl hf kk
  obtain ⟨hx, hb, hml, hown, hnm, hret, hlk, hts, hK, hE, hhd⟩ := hC
  unfold xe_inc at hf
  split at hf
  · rename_i x hx1
    cases hf
    rw [hk]
    subst hv
    obtain ⟨j, hj⟩ := List.getElem?_of_mem (xe_lv_mem (δ := δ).mpr ⟨_, hx1, rfl⟩)
    refine lv_iinc hx hb hd hl hj rfl hn rfl (fun lsJ' h' => ?_)
    have kk := kk H locs cells slots lsJ' hR (xe_st1_has h')
    rw [hk1] at kk
    exact kk
  · cases hf
def xe_i2 (g : Int32 → Int32 → Int32) : xe_F := fun k ls st μ => match st with
  | .int y :: .int x :: r => some (k + 1, ls, .int (g x y) :: r, μ)
  | _ => none
def xe_i2d (g : Int32 → Int32 → Int32) : xe_F := fun k ls st μ => match st with
  | .int y :: .int x :: r => if y = 0 then none else some (k + 1, ls, .int (g x y) :: r, μ)
  | _ => none
def xe_l2 (g : Int64 → Int64 → Int64) : xe_F := fun k ls st μ => match st with
  | .long y :: .long x :: r => some (k + 1, ls, .long (g x y) :: r, μ)
  | _ => none
def xe_l2d (g : Int64 → Int64 → Int64) : xe_F := fun k ls st μ => match st with
  | .long y :: .long x :: r => if y = 0 then none else some (k + 1, ls, .long (g x y) :: r, μ)
  | _ => none
theorem xo_iadd {δ : xe_Dy} {Y : xe_Y} {k pc : Nat} (hk : xe_pc Y k = pc) (hk1 : xe_pc Y (k + 1) = pc + 1) (hd : decode (xy_b Y) pc = .ok (.iadd, 1)) : xe_OKL δ Y k (xe_i2 (fun x y => x + y)) := by
  intro p l e R s m args below meth c n0 s0 H locs cells slots Q lsJ ls st μ k' ls' st' μ' hC hfr hlo hR hl hf kk
  obtain ⟨hx, hb, hml, hown, hnm, hret, hlk, hts, hK, hE, hhd⟩ := hC
  unfold xe_i2 at hf
  split at hf
  · rename_i y x r
    cases hf
    rw [hk]
    have kk := kk H locs cells slots lsJ hR hl
    rw [hk1] at kk
    exact lv_iadd hx hb hd kk
  · cases hf
theorem xo_isub {δ : xe_Dy} {Y : xe_Y} {k pc : Nat} (hk : xe_pc Y k = pc) (hk1 : xe_pc Y (k + 1) = pc + 1) (hd : decode (xy_b Y) pc = .ok (.isub, 1)) : xe_OKL δ Y k (xe_i2 (fun x y => x - y)) := by
  intro p l e R s m args below meth c n0 s0 H locs cells slots Q lsJ ls st μ k' ls' st' μ' hC hfr hlo hR hl hf kk
  obtain ⟨hx, hb, hml, hown, hnm, hret, hlk, hts, hK, hE, hhd⟩ := hC
  unfold xe_i2 at hf
  split at hf
  · rename_i y x r
    cases hf
    rw [hk]
    have kk := kk H locs cells slots lsJ hR hl
    rw [hk1] at kk
    exact lv_isub hx hb hd kk
  · cases hf
theorem xo_imul {δ : xe_Dy} {Y : xe_Y} {k pc : Nat} (hk : xe_pc Y k = pc) (hk1 : xe_pc Y (k + 1) = pc + 1) (hd : decode (xy_b Y) pc = .ok (.imul, 1)) : xe_OKL δ Y k (xe_i2 (fun x y => x * y)) := by
  intro p l e R s m args below meth c n0 s0 H locs cells slots Q lsJ ls st μ k' ls' st' μ' hC hfr hlo hR hl hf kk
  obtain ⟨hx, hb, hml, hown, hnm, hret, hlk, hts, hK, hE, hhd⟩ := hC
  unfold xe_i2 at hf
  split at hf
  · rename_i y x r
    cases hf
    rw [hk]
    have kk := kk H locs cells slots lsJ hR hl
    rw [hk1] at kk
    exact lv_imul hx hb hd kk
  · cases hf
theorem xo_iand {δ : xe_Dy} {Y : xe_Y} {k pc : Nat} (hk : xe_pc Y k = pc) (hk1 : xe_pc Y (k + 1) = pc + 1) (hd : decode (xy_b Y) pc = .ok (.iand, 1)) : xe_OKL δ Y k (xe_i2 (fun x y => x &&& y)) := by
  intro p l e R s m args below meth c n0 s0 H locs cells slots Q lsJ ls st μ k' ls' st' μ' hC hfr hlo hR hl hf kk
  obtain ⟨hx, hb, hml, hown, hnm, hret, hlk, hts, hK, hE, hhd⟩ := hC
  unfold xe_i2 at hf
  split at hf
  · rename_i y x r
    cases hf
    rw [hk]
    have kk := kk H locs cells slots lsJ hR hl
    rw [hk1] at kk
    exact lv_iand hx hb hd kk
  · cases hf
theorem xo_ior {δ : xe_Dy} {Y : xe_Y} {k pc : Nat} (hk : xe_pc Y k = pc) (hk1 : xe_pc Y (k + 1) = pc + 1) (hd : decode (xy_b Y) pc = .ok (.ior, 1)) : xe_OKL δ Y k (xe_i2 (fun x y => x ||| y)) := by
  intro p l e R s m args below meth c n0 s0 H locs cells slots Q lsJ ls st μ k' ls' st' μ' hC hfr hlo hR hl hf kk
  obtain ⟨hx, hb, hml, hown, hnm, hret, hlk, hts, hK, hE, hhd⟩ := hC
  unfold xe_i2 at hf
  split at hf
  · rename_i y x r
    cases hf
    rw [hk]
    have kk := kk H locs cells slots lsJ hR hl
    rw [hk1] at kk
    exact lv_ior hx hb hd kk
  · cases hf
theorem xo_ishl {δ : xe_Dy} {Y : xe_Y} {k pc : Nat} (hk : xe_pc Y k = pc) (hk1 : xe_pc Y (k + 1) = pc + 1) (hd : decode (xy_b Y) pc = .ok (.ishl, 1)) : xe_OKL δ Y k (xe_i2 (fun x y => x <<< (y &&& 31))) := by
  intro p l e R s m args below meth c n0 s0 H locs cells slots Q lsJ ls st μ k' ls' st' μ' hC hfr hlo hR hl hf kk
  obtain ⟨hx, hb, hml, hown, hnm, hret, hlk, hts, hK, hE, hhd⟩ := hC
  unfold xe_i2 at hf
  split at hf
  · rename_i y x r
    cases hf
    rw [hk]
    have kk := kk H locs cells slots lsJ hR hl
    rw [hk1] at kk
    exact lv_ishl hx hb hd kk
  · cases hf
theorem xo_ishr {δ : xe_Dy} {Y : xe_Y} {k pc : Nat} (hk : xe_pc Y k = pc) (hk1 : xe_pc Y (k + 1) = pc + 1) (hd : decode (xy_b Y) pc = .ok (.ishr, 1)) : xe_OKL δ Y k (xe_i2 (fun x y => x >>> (y &&& 31))) := by
  intro p l e R s m args below meth c n0 s0 H locs cells slots Q lsJ ls st μ k' ls' st' μ' hC hfr hlo hR hl hf kk
  obtain ⟨hx, hb, hml, hown, hnm, hret, hlk, hts, hK, hE, hhd⟩ := hC
  unfold xe_i2 at hf
  split at hf
  · rename_i y x r
    cases hf
    rw [hk]
    have kk := kk H locs cells slots lsJ hR hl
    rw [hk1] at kk
    exact lv_ishr hx hb hd kk
  · cases hf
theorem xo_idiv {δ : xe_Dy} {Y : xe_Y} {k pc : Nat} (hk : xe_pc Y k = pc) (hk1 : xe_pc Y (k + 1) = pc + 1) (hd : decode (xy_b Y) pc = .ok (.idiv, 1)) : xe_OKL δ Y k (xe_i2d (fun x y => x / y)) := by
  intro p l e R s m args below meth c n0 s0 H locs cells slots Q lsJ ls st μ k' ls' st' μ' hC hfr hlo hR hl hf kk
  obtain ⟨hx, hb, hml, hown, hnm, hret, hlk, hts, hK, hE, hhd⟩ := hC
  unfold xe_i2d at hf
  split at hf
  · rename_i y x r
    split at hf
    · cases hf
    rename_i hne
    cases hf
    rw [hk]
    have kk := kk H locs cells slots lsJ hR hl
    rw [hk1] at kk
    exact lv_idiv hx hb hd hne kk
  · cases hf
theorem xo_irem {δ : xe_Dy} {Y : xe_Y} {k pc : Nat} (hk : xe_pc Y k = pc) (hk1 : xe_pc Y (k + 1) = pc + 1) (hd : decode (xy_b Y) pc = .ok (.irem, 1)) : xe_OKL δ Y k (xe_i2d (fun x y => x - x / y * y)) := by
  intro p l e R s m args below meth c n0 s0 H locs cells slots Q lsJ ls st μ k' ls' st' μ' hC hfr hlo hR hl hf kk
  obtain ⟨hx, hb, hml, hown, hnm, hret, hlk, hts, hK, hE, hhd⟩ := hC
  unfold xe_i2d at hf
  split at hf
  · rename_i y x r
    split at hf
    · cases hf
    rename_i hne
    cases hf
    rw [hk]
    have kk := kk H locs cells slots lsJ hR hl
    rw [hk1] at kk
    exact lv_irem hx hb hd hne kk
  · cases hf
theorem xo_ladd {δ : xe_Dy} {Y : xe_Y} {k pc : Nat} (hk : xe_pc Y k = pc) (hk1 : xe_pc Y (k + 1) = pc + 1) (hd : decode (xy_b Y) pc = .ok (.ladd, 1)) : xe_OKL δ Y k (xe_l2 (fun x y => x + y)) := by
  intro p l e R s m args below meth c n0 s0 H locs cells slots Q lsJ ls st μ k' ls' st' μ' hC hfr hlo hR hl hf kk
  obtain ⟨hx, hb, hml, hown, hnm, hret, hlk, hts, hK, hE, hhd⟩ := hC
  unfold xe_l2 at hf
  split at hf
  · rename_i y x r
    cases hf
    rw [hk]
    have kk := kk H locs cells slots lsJ hR hl
    rw [hk1] at kk
    exact lv_ladd hx hb hd kk
  · cases hf
theorem xo_lsub {δ : xe_Dy} {Y : xe_Y} {k pc : Nat} (hk : xe_pc Y k = pc) (hk1 : xe_pc Y (k + 1) = pc + 1) (hd : decode (xy_b Y) pc = .ok (.lsub, 1)) : xe_OKL δ Y k (xe_l2 (fun x y => x - y)) := by
  intro p l e R s m args below meth c n0 s0 H locs cells slots Q lsJ ls st μ k' ls' st' μ' hC hfr hlo hR hl hf kk
  obtain ⟨hx, hb, hml, hown, hnm, hret, hlk, hts, hK, hE, hhd⟩ := hC
  unfold xe_l2 at hf
  split at hf
  · rename_i y x r
    cases hf
    rw [hk]
    have kk := kk H locs cells slots lsJ hR hl
    rw [hk1] at kk
    exact lv_lsub hx hb hd kk
  · cases hf
theorem xo_lmul {δ : xe_Dy} {Y : xe_Y} {k pc : Nat} (hk : xe_pc Y k = pc) (hk1 : xe_pc Y (k + 1) = pc + 1) (hd : decode (xy_b Y) pc = .ok (.lmul, 1)) : xe_OKL δ Y k (xe_l2 (fun x y => x * y)) := by
  intro p l e R s m args below meth c n0 s0 H locs cells slots Q lsJ ls st μ k' ls' st' μ' hC hfr hlo hR hl hf kk
  obtain ⟨hx, hb, hml, hown, hnm, hret, hlk, hts, hK, hE, hhd⟩ := hC
  unfold xe_l2 at hf
  split at hf
  · rename_i y x r
    cases hf
    rw [hk]
    have kk := kk H locs cells slots lsJ hR hl
    rw [hk1] at kk
    exact lv_lmul hx hb hd kk
  · cases hf
theorem xo_lor {δ : xe_Dy} {Y : xe_Y} {k pc : Nat} (hk : xe_pc Y k = pc) (hk1 : xe_pc Y (k + 1) = pc + 1) (hd : decode (xy_b Y) pc = .ok (.lor, 1)) : xe_OKL δ Y k (xe_l2 (fun x y => x ||| y)) := by
  intro p l e R s m args below meth c n0 s0 H locs cells slots Q lsJ ls st μ k' ls' st' μ' hC hfr hlo hR hl hf kk
  obtain ⟨hx, hb, hml, hown, hnm, hret, hlk, hts, hK, hE, hhd⟩ := hC
  unfold xe_l2 at hf
  split at hf
  · rename_i y x r
    cases hf
    rw [hk]
    have kk := kk H locs cells slots lsJ hR hl
    rw [hk1] at kk
    exact lv_lor hx hb hd kk
  · cases hf
theorem xo_ldiv {δ : xe_Dy} {Y : xe_Y} {k pc : Nat} (hk : xe_pc Y k = pc) (hk1 : xe_pc Y (k + 1) = pc + 1) (hd : decode (xy_b Y) pc = .ok (.ldiv, 1)) : xe_OKL δ Y k (xe_l2d (fun x y => x / y)) := by
  intro p l e R s m args below meth c n0 s0 H locs cells slots Q lsJ ls st μ k' ls' st' μ' hC hfr hlo hR hl hf kk
  obtain ⟨hx, hb, hml, hown, hnm, hret, hlk, hts, hK, hE, hhd⟩ := hC
  unfold xe_l2d at hf
  split at hf
  · rename_i y x r
    split at hf
    · cases hf
    rename_i hne
    cases hf
    rw [hk]
    have kk := kk H locs cells slots lsJ hR hl
    rw [hk1] at kk
    exact lv_ldiv hx hb hd hne kk
  · cases hf
theorem xo_lrem {δ : xe_Dy} {Y : xe_Y} {k pc : Nat} (hk : xe_pc Y k = pc) (hk1 : xe_pc Y (k + 1) = pc + 1) (hd : decode (xy_b Y) pc = .ok (.lrem, 1)) : xe_OKL δ Y k (xe_l2d (fun x y => x - x / y * y)) := by
  intro p l e R s m args below meth c n0 s0 H locs cells slots Q lsJ ls st μ k' ls' st' μ' hC hfr hlo hR hl hf kk
  obtain ⟨hx, hb, hml, hown, hnm, hret, hlk, hts, hK, hE, hhd⟩ := hC
  unfold xe_l2d at hf
  split at hf
  · rename_i y x r
    split at hf
    · cases hf
    rename_i hne
    cases hf
    rw [hk]
    have kk := kk H locs cells slots lsJ hR hl
    rw [hk1] at kk
    exact lv_lrem hx hb hd hne kk
  · cases hf
def xe_ineg : xe_F := fun k ls st μ => match st with
  | .int x :: r => some (k + 1, ls, .int (-x) :: r, μ)
  | _ => none
theorem xo_ineg {δ : xe_Dy} {Y : xe_Y} {k pc : Nat} (hk : xe_pc Y k = pc) (hk1 : xe_pc Y (k + 1) = pc + 1) (hd : decode (xy_b Y) pc = .ok (.ineg, 1)) : xe_OKL δ Y k xe_ineg := by
  intro p l e R s m args below meth c n0 s0 H locs cells slots Q lsJ ls st μ k' ls' st' μ' hC hfr hlo hR hl hf kk
  obtain ⟨hx, hb, hml, hown, hnm, hret, hlk, hts, hK, hE, hhd⟩ := hC
  unfold xe_ineg at hf
  split at hf
  · cases hf
    rw [hk]
    have kk := kk H locs cells slots lsJ hR hl
    rw [hk1] at kk
    exact lv_ineg hx hb hd kk
  · cases hf
def xe_i2l : xe_F := fun k ls st μ => match st with
  | .int x :: r => some (k + 1, ls, .long x.toInt64 :: r, μ)
  | _ => none
theorem xo_i2l {δ : xe_Dy} {Y : xe_Y} {k pc : Nat} (hk : xe_pc Y k = pc) (hk1 : xe_pc Y (k + 1) = pc + 1) (hd : decode (xy_b Y) pc = .ok (.i2l, 1)) : xe_OKL δ Y k xe_i2l := by
  intro p l e R s m args below meth c n0 s0 H locs cells slots Q lsJ ls st μ k' ls' st' μ' hC hfr hlo hR hl hf kk
  obtain ⟨hx, hb, hml, hown, hnm, hret, hlk, hts, hK, hE, hhd⟩ := hC
  unfold xe_i2l at hf
  split at hf
  · cases hf
    rw [hk]
    have kk := kk H locs cells slots lsJ hR hl
    rw [hk1] at kk
    exact lv_i2l hx hb hd rfl kk
  · cases hf
def xe_l2i : xe_F := fun k ls st μ => match st with
  | .long x :: r => some (k + 1, ls, .int x.toInt32 :: r, μ)
  | _ => none
theorem xo_l2i {δ : xe_Dy} {Y : xe_Y} {k pc : Nat} (hk : xe_pc Y k = pc) (hk1 : xe_pc Y (k + 1) = pc + 1) (hd : decode (xy_b Y) pc = .ok (.l2i, 1)) : xe_OKL δ Y k xe_l2i := by
  intro p l e R s m args below meth c n0 s0 H locs cells slots Q lsJ ls st μ k' ls' st' μ' hC hfr hlo hR hl hf kk
  obtain ⟨hx, hb, hml, hown, hnm, hret, hlk, hts, hK, hE, hhd⟩ := hC
  unfold xe_l2i at hf
  split at hf
  · cases hf
    rw [hk]
    have kk := kk H locs cells slots lsJ hR hl
    rw [hk1] at kk
    exact lv_l2i hx hb hd rfl kk
  · cases hf
def xe_i2b : xe_F := fun k ls st μ => match st with
  | .int x :: r => some (k + 1, ls, .int x.toInt8.toInt32 :: r, μ)
  | _ => none
theorem xo_i2b {δ : xe_Dy} {Y : xe_Y} {k pc : Nat} (hk : xe_pc Y k = pc) (hk1 : xe_pc Y (k + 1) = pc + 1) (hd : decode (xy_b Y) pc = .ok (.i2b, 1)) : xe_OKL δ Y k xe_i2b := by
  intro p l e R s m args below meth c n0 s0 H locs cells slots Q lsJ ls st μ k' ls' st' μ' hC hfr hlo hR hl hf kk
  obtain ⟨hx, hb, hml, hown, hnm, hret, hlk, hts, hK, hE, hhd⟩ := hC
  unfold xe_i2b at hf
  split at hf
  · cases hf
    rw [hk]
    have kk := kk H locs cells slots lsJ hR hl
    rw [hk1] at kk
    exact lv_i2b hx hb hd rfl kk
  · cases hf
def xe_lshl : xe_F := fun k ls st μ => match st with
  | .int y :: .long x :: r => some (k + 1, ls, .long (x <<< (y.toInt64 &&& 63)) :: r, μ)
  | _ => none
theorem xo_lshl {δ : xe_Dy} {Y : xe_Y} {k pc : Nat} (hk : xe_pc Y k = pc) (hk1 : xe_pc Y (k + 1) = pc + 1) (hd : decode (xy_b Y) pc = .ok (.lshl, 1)) : xe_OKL δ Y k xe_lshl := by
  intro p l e R s m args below meth c n0 s0 H locs cells slots Q lsJ ls st μ k' ls' st' μ' hC hfr hlo hR hl hf kk
  obtain ⟨hx, hb, hml, hown, hnm, hret, hlk, hts, hK, hE, hhd⟩ := hC
  unfold xe_lshl at hf
  split at hf
  · cases hf
    rw [hk]
    have kk := kk H locs cells slots lsJ hR hl
    rw [hk1] at kk
    exact lv_lshl hx hb hd rfl kk
  · cases hf
def xe_lcmp : xe_F := fun k ls st μ => match st with
  | .long y :: .long x :: r => some (k + 1, ls, .int (lg_cmp x y) :: r, μ)
  | _ => none
theorem xo_lcmp {δ : xe_Dy} {Y : xe_Y} {k pc : Nat} (hk : xe_pc Y k = pc) (hk1 : xe_pc Y (k + 1) = pc + 1) (hd : decode (xy_b Y) pc = .ok (.lcmp, 1)) : xe_OKL δ Y k xe_lcmp := by
  intro p l e R s m args below meth c n0 s0 H locs cells slots Q lsJ ls st μ k' ls' st' μ' hC hfr hlo hR hl hf kk
  obtain ⟨hx, hb, hml, hown, hnm, hret, hlk, hts, hK, hE, hhd⟩ := hC
  unfold xe_lcmp at hf
  split at hf
  · cases hf
    rw [hk]
    have kk := kk H locs cells slots lsJ hR hl
    rw [hk1] at kk
    exact W.lcmp hx hb hd kk
  · cases hf
def xe_dup : xe_F := fun k ls st μ => match st with
  | v :: r => if v.category = 1 then some (k + 1, ls, v :: v :: r, μ) else none
  | _ => none
theorem xo_dup {δ : xe_Dy} {Y : xe_Y} {k pc : Nat} (hk : xe_pc Y k = pc) (hk1 : xe_pc Y (k + 1) = pc + 1) (hd : decode (xy_b Y) pc = .ok (.dup, 1)) : xe_OKL δ Y k xe_dup := by
  intro p l e R s m args below meth c n0 s0 H locs cells slots Q lsJ ls st μ k' ls' st' μ' hC hfr hlo hR hl hf kk
  obtain ⟨hx, hb, hml, hown, hnm, hret, hlk, hts, hK, hE, hhd⟩ := hC
  unfold xe_dup at hf
  split at hf
  · split at hf
    · rename_i v r hv
      cases hf
      rw [hk]
      have kk := kk H locs cells slots lsJ hR hl
      rw [hk1] at kk
      exact lv_dup hx hb hd ((xe_v_cat δ v).trans hv) kk
    · cases hf
  · cases hf
def xe_pop : xe_F := fun k ls st μ => match st with
  | v :: r => if v.category = 1 then some (k + 1, ls, r, μ) else none
  | _ => none
theorem xo_pop {δ : xe_Dy} {Y : xe_Y} {k pc : Nat} (hk : xe_pc Y k = pc) (hk1 : xe_pc Y (k + 1) = pc + 1) (hd : decode (xy_b Y) pc = .ok (.pop, 1)) : xe_OKL δ Y k xe_pop := by
  intro p l e R s m args below meth c n0 s0 H locs cells slots Q lsJ ls st μ k' ls' st' μ' hC hfr hlo hR hl hf kk
  obtain ⟨hx, hb, hml, hown, hnm, hret, hlk, hts, hK, hE, hhd⟩ := hC
  unfold xe_pop at hf
  split at hf
  · split at hf
    · rename_i v r hv
      cases hf
      rw [hk]
      have kk := kk H locs cells slots lsJ hR hl
      rw [hk1] at kk
      exact lv_pop hx hb hd ((xe_v_cat δ v).trans hv) kk
    · cases hf
  · cases hf
def xe_dup2 : xe_F := fun k ls st μ => match st with
  | v :: w :: r => if v.category = 1 ∧ w.category = 1 then some (k + 1, ls, v :: w :: v :: w :: r, μ) else none
  | _ => none
theorem xo_dup2 {δ : xe_Dy} {Y : xe_Y} {k pc : Nat} (hk : xe_pc Y k = pc) (hk1 : xe_pc Y (k + 1) = pc + 1) (hd : decode (xy_b Y) pc = .ok (.dup2, 1)) : xe_OKL δ Y k xe_dup2 := by
  intro p l e R s m args below meth c n0 s0 H locs cells slots Q lsJ ls st μ k' ls' st' μ' hC hfr hlo hR hl hf kk
  obtain ⟨hx, hb, hml, hown, hnm, hret, hlk, hts, hK, hE, hhd⟩ := hC
  unfold xe_dup2 at hf
  split at hf
  · split at hf
    · rename_i v w r hv
      cases hf
      rw [hk]
      have kk := kk H locs cells slots lsJ hR hl
      rw [hk1] at kk
      exact lv_dup2_11 hx hb hd ((xe_v_cat δ v).trans hv.1) ((xe_v_cat δ w).trans hv.2) kk
    · cases hf
  · cases hf
def xe_ifeq (b : Nat) : xe_F := fun k ls st μ => match st with
  | .int x :: r => if x = 0 then some (b, ls, r, μ) else some (k + 1, ls, r, μ)
  | _ => none
theorem xo_ifeq {δ : xe_Dy} {Y : xe_Y} {k pc : Nat} (hk : xe_pc Y k = pc) (hk1 : xe_pc Y (k + 1) = pc + 3) {b tgt : Nat} {off : Int} (hb1 : xe_pc Y b = tgt) (hd : decode (xy_b Y) pc = .ok (.ifCond .eq off, 3)) (ht : (pc : Int) + off = (tgt : Int)) : xe_OKL δ Y k (xe_ifeq b) := by
  intro p l e R s m args below meth c n0 s0 H locs cells slots Q lsJ ls st μ k' ls' st' μ' hC hfr hlo hR hl hf kk
  obtain ⟨hx, hb, hml, hown, hnm, hret, hlk, hts, hK, hE, hhd⟩ := hC
  unfold xe_ifeq at hf
  split at hf
  · rename_i x r
    rw [hk]
    by_cases hc : x = 0
    · rw [if_pos hc] at hf
      cases hf
      have kk := kk H locs cells slots lsJ hR hl
      rw [hb1] at kk
      exact lv_if_eq hx hb hd ht (fun _ => kk) (fun h => absurd hc h)
    · rw [if_neg hc] at hf
      cases hf
      have kk := kk H locs cells slots lsJ hR hl
      rw [hk1] at kk
      exact lv_if_eq hx hb hd ht (fun h => absurd h hc) (fun _ => kk)
  · cases hf
def xe_iceq (b : Nat) : xe_F := fun k ls st μ => match st with
  | .int y :: .int x :: r => if x = y then some (b, ls, r, μ) else some (k + 1, ls, r, μ)
  | _ => none
theorem xo_iceq {δ : xe_Dy} {Y : xe_Y} {k pc : Nat} (hk : xe_pc Y k = pc) (hk1 : xe_pc Y (k + 1) = pc + 3) {b tgt : Nat} {off : Int} (hb1 : xe_pc Y b = tgt) (hd : decode (xy_b Y) pc = .ok (.if_icmp .eq off, 3)) (ht : (pc : Int) + off = (tgt : Int)) : xe_OKL δ Y k (xe_iceq b) := by
  intro p l e R s m args below meth c n0 s0 H locs cells slots Q lsJ ls st μ k' ls' st' μ' hC hfr hlo hR hl hf kk
  obtain ⟨hx, hb, hml, hown, hnm, hret, hlk, hts, hK, hE, hhd⟩ := hC
  unfold xe_iceq at hf
  split at hf
  · rename_i y x r
    rw [hk]
    by_cases hc : x = y
    · rw [if_pos hc] at hf
      cases hf
      have kk := kk H locs cells slots lsJ hR hl
      rw [hb1] at kk
      exact lv_icmp_eq hx hb hd ht (fun _ => kk) (fun h => absurd hc h)
    · rw [if_neg hc] at hf
      cases hf
      have kk := kk H locs cells slots lsJ hR hl
      rw [hk1] at kk
      exact lv_icmp_eq hx hb hd ht (fun h => absurd h hc) (fun _ => kk)
  · cases hf
def xe_ifne (b : Nat) : xe_F := fun k ls st μ => match st with
  | .int x :: r => if ¬ x = 0 then some (b, ls, r, μ) else some (k + 1, ls, r, μ)
  | _ => none
theorem xo_ifne {δ : xe_Dy} {Y : xe_Y} {k pc : Nat} (hk : xe_pc Y k = pc) (hk1 : xe_pc Y (k + 1) = pc + 3) {b tgt : Nat} {off : Int} (hb1 : xe_pc Y b = tgt) (hd : decode (xy_b Y) pc = .ok (.ifCond .ne off, 3)) (ht : (pc : Int) + off = (tgt : Int)) : xe_OKL δ Y k (xe_ifne b) := by
  intro p l e R s m args below meth c n0 s0 H locs cells slots Q lsJ ls st μ k' ls' st' μ' hC hfr hlo hR hl hf kk
  obtain ⟨hx, hb, hml, hown, hnm, hret, hlk, hts, hK, hE, hhd⟩ := hC
  unfold xe_ifne at hf
  split at hf
  · rename_i x r
    rw [hk]
    by_cases hc : ¬ x = 0
    · rw [if_pos hc] at hf
      cases hf
      have kk := kk H locs cells slots lsJ hR hl
      rw [hb1] at kk
      exact lv_if_ne hx hb hd ht (fun _ => kk) (fun h => absurd h hc)
    · rw [if_neg hc] at hf
      cases hf
      have kk := kk H locs cells slots lsJ hR hl
      rw [hk1] at kk
      exact lv_if_ne hx hb hd ht (fun h => absurd h hc) (fun _ => kk)
  · cases hf
def xe_icne (b : Nat) : xe_F := fun k ls st μ => match st with
  | .int y :: .int x :: r => if ¬ x = y then some (b, ls, r, μ) else some (k + 1, ls, r, μ)
  | _ => none
theorem xo_icne {δ : xe_Dy} {Y : xe_Y} {k pc : Nat} (hk : xe_pc Y k = pc) (hk1 : xe_pc Y (k + 1) = pc + 3) {b tgt : Nat} {off : Int} (hb1 : xe_pc Y b = tgt) (hd : decode (xy_b Y) pc = .ok (.if_icmp .ne off, 3)) (ht : (pc : Int) + off = (tgt : Int)) : xe_OKL δ Y k (xe_icne b) := by
  intro p l e R s m args below meth c n0 s0 H locs cells slots Q lsJ ls st μ k' ls' st' μ' hC hfr hlo hR hl hf kk
  obtain ⟨hx, hb, hml, hown, hnm, hret, hlk, hts, hK, hE, hhd⟩ := hC
  unfold xe_icne at hf
  split at hf
  · rename_i y x r
    rw [hk]
    by_cases hc : ¬ x = y
    · rw [if_pos hc] at hf
      cases hf
      have kk := kk H locs cells slots lsJ hR hl
      rw [hb1] at kk
      exact lv_icmp_ne hx hb hd ht (fun _ => kk) (fun h => absurd h hc)
    · rw [if_neg hc] at hf
      cases hf
      have kk := kk H locs cells slots lsJ hR hl
      rw [hk1] at kk
      exact lv_icmp_ne hx hb hd ht (fun h => absurd h hc) (fun _ => kk)
  · cases hf
def xe_iflt (b : Nat) : xe_F := fun k ls st μ => match st with
  | .int x :: r => if x < 0 then some (b, ls, r, μ) else some (k + 1, ls, r, μ)
  | _ => none
theorem xo_iflt {δ : xe_Dy} {Y : xe_Y} {k pc : Nat} (hk : xe_pc Y k = pc) (hk1 : xe_pc Y (k + 1) = pc + 3) {b tgt : Nat} {off : Int} (hb1 : xe_pc Y b = tgt) (hd : decode (xy_b Y) pc = .ok (.ifCond .lt off, 3)) (ht : (pc : Int) + off = (tgt : Int)) : xe_OKL δ Y k (xe_iflt b) := by
  intro p l e R s m args below meth c n0 s0 H locs cells slots Q lsJ ls st μ k' ls' st' μ' hC hfr hlo hR hl hf kk
  obtain ⟨hx, hb, hml, hown, hnm, hret, hlk, hts, hK, hE, hhd⟩ := hC
  unfold xe_iflt at hf
  split at hf
  · rename_i x r
    rw [hk]
    by_cases hc : x < 0
    · rw [if_pos hc] at hf
      cases hf
      have kk := kk H locs cells slots lsJ hR hl
      rw [hb1] at kk
      exact lv_if_lt hx hb hd ht (fun _ => kk) (fun h => absurd hc h)
    · rw [if_neg hc] at hf
      cases hf
      have kk := kk H locs cells slots lsJ hR hl
      rw [hk1] at kk
      exact lv_if_lt hx hb hd ht (fun h => absurd h hc) (fun _ => kk)
  · cases hf
def xe_iclt (b : Nat) : xe_F := fun k ls st μ => match st with
  | .int y :: .int x :: r => if x < y then some (b, ls, r, μ) else some (k + 1, ls, r, μ)
  | _ => none
theorem xo_iclt {δ : xe_Dy} {Y : xe_Y} {k pc : Nat} (hk : xe_pc Y k = pc) (hk1 : xe_pc Y (k + 1) = pc + 3) {b tgt : Nat} {off : Int} (hb1 : xe_pc Y b = tgt) (hd : decode (xy_b Y) pc = .ok (.if_icmp .lt off, 3)) (ht : (pc : Int) + off = (tgt : Int)) : xe_OKL δ Y k (xe_iclt b) := by
  intro p l e R s m args below meth c n0 s0 H locs cells slots Q lsJ ls st μ k' ls' st' μ' hC hfr hlo hR hl hf kk
  obtain ⟨hx, hb, hml, hown, hnm, hret, hlk, hts, hK, hE, hhd⟩ := hC
  unfold xe_iclt at hf
  split at hf
  · rename_i y x r
    rw [hk]
    by_cases hc : x < y
    · rw [if_pos hc] at hf
      cases hf
      have kk := kk H locs cells slots lsJ hR hl
      rw [hb1] at kk
      exact lv_icmp_lt hx hb hd ht (fun _ => kk) (fun h => absurd hc h)
    · rw [if_neg hc] at hf
      cases hf
      have kk := kk H locs cells slots lsJ hR hl
      rw [hk1] at kk
      exact lv_icmp_lt hx hb hd ht (fun h => absurd h hc) (fun _ => kk)
  · cases hf
def xe_ifge (b : Nat) : xe_F := fun k ls st μ => match st with
  | .int x :: r => if 0 ≤ x then some (b, ls, r, μ) else some (k + 1, ls, r, μ)
  | _ => none
theorem xo_ifge {δ : xe_Dy} {Y : xe_Y} {k pc : Nat} (hk : xe_pc Y k = pc) (hk1 : xe_pc Y (k + 1) = pc + 3) {b tgt : Nat} {off : Int} (hb1 : xe_pc Y b = tgt) (hd : decode (xy_b Y) pc = .ok (.ifCond .ge off, 3)) (ht : (pc : Int) + off = (tgt : Int)) : xe_OKL δ Y k (xe_ifge b) := by
  intro p l e R s m args below meth c n0 s0 H locs cells slots Q lsJ ls st μ k' ls' st' μ' hC hfr hlo hR hl hf kk
  obtain ⟨hx, hb, hml, hown, hnm, hret, hlk, hts, hK, hE, hhd⟩ := hC
  unfold xe_ifge at hf
  split at hf
  · rename_i x r
    rw [hk]
    by_cases hc : 0 ≤ x
    · rw [if_pos hc] at hf
      cases hf
      have kk := kk H locs cells slots lsJ hR hl
      rw [hb1] at kk
      exact lv_if_ge hx hb hd ht (fun _ => kk) (fun h => absurd hc h)
    · rw [if_neg hc] at hf
      cases hf
      have kk := kk H locs cells slots lsJ hR hl
      rw [hk1] at kk
      exact lv_if_ge hx hb hd ht (fun h => absurd h hc) (fun _ => kk)
  · cases hf
def xe_icge (b : Nat) : xe_F := fun k ls st μ => match st with
  | .int y :: .int x :: r => if y ≤ x then some (b, ls, r, μ) else some (k + 1, ls, r, μ)
  | _ => none
theorem xo_icge {δ : xe_Dy} {Y : xe_Y} {k pc : Nat} (hk : xe_pc Y k = pc) (hk1 : xe_pc Y (k + 1) = pc + 3) {b tgt : Nat} {off : Int} (hb1 : xe_pc Y b = tgt) (hd : decode (xy_b Y) pc = .ok (.if_icmp .ge off, 3)) (ht : (pc : Int) + off = (tgt : Int)) : xe_OKL δ Y k (xe_icge b) := by
  intro p l e R s m args below meth c n0 s0 H locs cells slots Q lsJ ls st μ k' ls' st' μ' hC hfr hlo hR hl hf kk
  obtain ⟨hx, hb, hml, hown, hnm, hret, hlk, hts, hK, hE, hhd⟩ := hC
  unfold xe_icge at hf
  split at hf
  · rename_i y x r
    rw [hk]
    by_cases hc : y ≤ x
    · rw [if_pos hc] at hf
      cases hf
      have kk := kk H locs cells slots lsJ hR hl
      rw [hb1] at kk
      exact lv_icmp_ge hx hb hd ht (fun _ => kk) (fun h => absurd hc h)
    · rw [if_neg hc] at hf
      cases hf
      have kk := kk H locs cells slots lsJ hR hl
      rw [hk1] at kk
      exact lv_icmp_ge hx hb hd ht (fun h => absurd h hc) (fun _ => kk)
  · cases hf
def xe_ifgt (b : Nat) : xe_F := fun k ls st μ => match st with
  | .int x :: r => if 0 < x then some (b, ls, r, μ) else some (k + 1, ls, r, μ)
  | _ => none
theorem xo_ifgt {δ : xe_Dy} {Y : xe_Y} {k pc : Nat} (hk : xe_pc Y k = pc) (hk1 : xe_pc Y (k + 1) = pc + 3) {b tgt : Nat} {off : Int} (hb1 : xe_pc Y b = tgt) (hd : decode (xy_b Y) pc = .ok (.ifCond .gt off, 3)) (ht : (pc : Int) + off = (tgt : Int)) : xe_OKL δ Y k (xe_ifgt b) := by
  intro p l e R s m args below meth c n0 s0 H locs cells slots Q lsJ ls st μ k' ls' st' μ' hC hfr hlo hR hl hf kk
  obtain ⟨hx, hb, hml, hown, hnm, hret, hlk, hts, hK, hE, hhd⟩ := hC
  unfold xe_ifgt at hf
  split at hf
  · rename_i x r
    rw [hk]
    by_cases hc : 0 < x
    · rw [if_pos hc] at hf
      cases hf
      have kk := kk H locs cells slots lsJ hR hl
      rw [hb1] at kk
      exact lv_if_gt hx hb hd ht (fun _ => kk) (fun h => absurd hc h)
    · rw [if_neg hc] at hf
      cases hf
      have kk := kk H locs cells slots lsJ hR hl
      rw [hk1] at kk
      exact lv_if_gt hx hb hd ht (fun h => absurd h hc) (fun _ => kk)
  · cases hf
def xe_icgt (b : Nat) : xe_F := fun k ls st μ => match st with
  | .int y :: .int x :: r => if y < x then some (b, ls, r, μ) else some (k + 1, ls, r, μ)
  | _ => none
theorem xo_icgt {δ : xe_Dy} {Y : xe_Y} {k pc : Nat} (hk : xe_pc Y k = pc) (hk1 : xe_pc Y (k + 1) = pc + 3) {b tgt : Nat} {off : Int} (hb1 : xe_pc Y b = tgt) (hd : decode (xy_b Y) pc = .ok (.if_icmp .gt off, 3)) (ht : (pc : Int) + off = (tgt : Int)) : xe_OKL δ Y k (xe_icgt b) := by
  intro p l e R s m args below meth c n0 s0 H locs cells slots Q lsJ ls st μ k' ls' st' μ' hC hfr hlo hR hl hf kk
  obtain ⟨hx, hb, hml, hown, hnm, hret, hlk, hts, hK, hE, hhd⟩ := hC
  unfold xe_icgt at hf
  split at hf
  · rename_i y x r
    rw [hk]
    by_cases hc : y < x
    · rw [if_pos hc] at hf
      cases hf
      have kk := kk H locs cells slots lsJ hR hl
      rw [hb1] at kk
      exact lv_icmp_gt hx hb hd ht (fun _ => kk) (fun h => absurd hc h)
    · rw [if_neg hc] at hf
      cases hf
      have kk := kk H locs cells slots lsJ hR hl
      rw [hk1] at kk
      exact lv_icmp_gt hx hb hd ht (fun h => absurd h hc) (fun _ => kk)
  · cases hf
def xe_ifle (b : Nat) : xe_F := fun k ls st μ => match st with
  | .int x :: r => if x ≤ 0 then some (b, ls, r, μ) else some (k + 1, ls, r, μ)
  | _ => none
theorem xo_ifle {δ : xe_Dy} {Y : xe_Y} {k pc : Nat} (hk : xe_pc Y k = pc) (hk1 : xe_pc Y (k + 1) = pc + 3) {b tgt : Nat} {off : Int} (hb1 : xe_pc Y b = tgt) (hd : decode (xy_b Y) pc = .ok (.ifCond .le off, 3)) (ht : (pc : Int) + off = (tgt : Int)) : xe_OKL δ Y k (xe_ifle b) := by
  intro p l e R s m args below meth c n0 s0 H locs cells slots Q lsJ ls st μ k' ls' st' μ' hC hfr hlo hR hl hf kk
  obtain ⟨hx, hb, hml, hown, hnm, hret, hlk, hts, hK, hE, hhd⟩ := hC
  unfold xe_ifle at hf
  split at hf
  · rename_i x r
    rw [hk]
    by_cases hc : x ≤ 0
    · rw [if_pos hc] at hf
      cases hf
      have kk := kk H locs cells slots lsJ hR hl
      rw [hb1] at kk
      exact lv_if_le hx hb hd ht (fun _ => kk) (fun h => absurd hc h)
    · rw [if_neg hc] at hf
      cases hf
      have kk := kk H locs cells slots lsJ hR hl
      rw [hk1] at kk
      exact lv_if_le hx hb hd ht (fun h => absurd h hc) (fun _ => kk)
  · cases hf
def xe_icle (b : Nat) : xe_F := fun k ls st μ => match st with
  | .int y :: .int x :: r => if x ≤ y then some (b, ls, r, μ) else some (k + 1, ls, r, μ)
  | _ => none
theorem xo_icle {δ : xe_Dy} {Y : xe_Y} {k pc : Nat} (hk : xe_pc Y k = pc) (hk1 : xe_pc Y (k + 1) = pc + 3) {b tgt : Nat} {off : Int} (hb1 : xe_pc Y b = tgt) (hd : decode (xy_b Y) pc = .ok (.if_icmp .le off, 3)) (ht : (pc : Int) + off = (tgt : Int)) : xe_OKL δ Y k (xe_icle b) := by
  intro p l e R s m args below meth c n0 s0 H locs cells slots Q lsJ ls st μ k' ls' st' μ' hC hfr hlo hR hl hf kk
  obtain ⟨hx, hb, hml, hown, hnm, hret, hlk, hts, hK, hE, hhd⟩ := hC
  unfold xe_icle at hf
  split at hf
  · rename_i y x r
    rw [hk]
    by_cases hc : x ≤ y
    · rw [if_pos hc] at hf
      cases hf
      have kk := kk H locs cells slots lsJ hR hl
      rw [hb1] at kk
      exact lv_icmp_le hx hb hd ht (fun _ => kk) (fun h => absurd hc h)
    · rw [if_neg hc] at hf
      cases hf
      have kk := kk H locs cells slots lsJ hR hl
      rw [hk1] at kk
      exact lv_icmp_le hx hb hd ht (fun h => absurd h hc) (fun _ => kk)
  · cases hf
def xe_goto (b : Nat) : xe_F := fun _ ls st μ => some (b, ls, st, μ)
theorem xo_goto {δ : xe_Dy} {Y : xe_Y} {k pc : Nat} (hk : xe_pc Y k = pc) {b tgt : Nat} {off : Int} (hb1 : xe_pc Y b = tgt) (hd : decode (xy_b Y) pc = .ok (.goto off, 3)) (ht : (pc : Int) + off = (tgt : Int)) : xe_OKL δ Y k (xe_goto b) := by
  intro p l e R s m args below meth c n0 s0 H locs cells slots Q lsJ ls st μ k' ls' st' μ' hC hfr hlo hR hl hf kk
  obtain ⟨hx, hb, hml, hown, hnm, hret, hlk, hts, hK, hE, hhd⟩ := hC
  cases hf
  rw [hk]
  have kk := kk H locs cells slots lsJ hR hl
  rw [hb1] at kk
  exact lv_goto hx hb hd ht kk
def xe_null (b : Nat) : xe_F := fun k ls st μ => match st with
  | .null :: r => some (b, ls, r, μ)
  | .ref _ :: r => some (k + 1, ls, r, μ)
  | _ => none
def xe_nonnull (b : Nat) : xe_F := fun k ls st μ => match st with
  | .ref _ :: r => some (b, ls, r, μ)
  | .null :: r => some (k + 1, ls, r, μ)
  | _ => none
theorem xo_ifnull {δ : xe_Dy} {Y : xe_Y} {k pc : Nat} (hk : xe_pc Y k = pc) (hk1 : xe_pc Y (k + 1) = pc + 3) {b tgt : Nat} {off : Int} (hb1 : xe_pc Y b = tgt) (hd : decode (xy_b Y) pc = .ok (.ifnull off, 3)) (ht : (pc : Int) + off = (tgt : Int)) : xe_OKL δ Y k (xe_null b) := by
  intro p l e R s m args below meth c n0 s0 H locs cells slots Q lsJ ls st μ k' ls' st' μ' hC hfr hlo hR hl hf kk
  obtain ⟨hx, hb, hml, hown, hnm, hret, hlk, hts, hK, hE, hhd⟩ := hC
  unfold xe_null at hf
  split at hf
  · cases hf
    rw [hk]
    have kk := kk H locs cells slots lsJ hR hl
    rw [hb1] at kk
    exact lv_ifnullN hx hb hd ht kk
  · cases hf
    rw [hk]
    have kk := kk H locs cells slots lsJ hR hl
    rw [hk1] at kk
    exact lv_ifnull hx hb hd kk
  · cases hf
theorem xo_ifnonnull {δ : xe_Dy} {Y : xe_Y} {k pc : Nat} (hk : xe_pc Y k = pc) (hk1 : xe_pc Y (k + 1) = pc + 3) {b tgt : Nat} {off : Int} (hb1 : xe_pc Y b = tgt) (hd : decode (xy_b Y) pc = .ok (.ifnonnull off, 3)) (ht : (pc : Int) + off = (tgt : Int)) : xe_OKL δ Y k (xe_nonnull b) := by
  intro p l e R s m args below meth c n0 s0 H locs cells slots Q lsJ ls st μ k' ls' st' μ' hC hfr hlo hR hl hf kk
  obtain ⟨hx, hb, hml, hown, hnm, hret, hlk, hts, hK, hE, hhd⟩ := hC
  unfold xe_nonnull at hf
  split at hf
  · cases hf
    rw [hk]
    have kk := kk H locs cells slots lsJ hR hl
    rw [hb1] at kk
    exact lv_ifnonnull hx hb hd ht kk
  · cases hf
    rw [hk]
    have kk := kk H locs cells slots lsJ hR hl
    rw [hk1] at kk
    exact lv_ifnonnullN hx hb hd kk
  · cases hf
def xe_sw (q : List (Int × Nat)) (dflt : Nat) : xe_F := fun _ ls st μ => match st with
  | .int x :: r => some (((q.find? (fun z => z.1 == x.toInt)).map (fun z => z.2)).getD dflt, ls, r, μ)
  | _ => none
