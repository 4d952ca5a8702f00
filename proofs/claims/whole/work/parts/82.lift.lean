/-! methods as functions over the memory: zK says that a run is as a function says -/
abbrev zO : Type := Option (xe_Out × xe_Mem)
/-- what no method changes: the references of layout.txt -/
def zRt (μ : xe_Mem) : Prop := ∀ a j b, (xv_rt.getD a []).lookup j = some b → xe_R μ a j = some b
/-- the cells of P are as in μ0 -/
def zFr (P : Nat → Bool) (μ0 μ : xe_Mem) : Prop := ∀ a, a < 265 → P a = true → ∀ j, xe_I μ a j = xe_I μ0 a j ∧ xe_L μ a j = xe_L μ0 a j ∧ xe_R μ a j = xe_R μ0 a j
def zPc (a : Nat) : Bool := Nat.ble 203 a
def zPr (a : Nat) : Bool := Nat.ble a 202 || Nat.beq a 264
/-- a memory on the way from μ0: no cell more, the cells of P as they were -/
def zT (P : Nat → Bool) (μ0 μ : xe_Mem) : Prop := xe_sh μ = xe_sh μ0 ∧ xe_sl μ = xe_sl μ0 ∧ (∃ g, xe_sh μ = xv_S ++ g) ∧ zRt μ ∧ zFr P μ0 μ
/-- an exception, at a, is thrown on the way from μ0 -/
def zX (P : Nat → Bool) (μ0 : xe_Mem) (a : Nat) (μ : xe_Mem) : Prop := (∃ ci, xe_sh μ = xe_sh μ0 ++ [.inl ci]) ∧ a = (xe_sh μ0).length ∧ xe_sl μ = xe_sl μ0 + 6 ∧ zRt μ ∧ zFr P μ0 μ
def zfu : Nat := 1000000000
theorem zT_F {c : Nat} {μ : xe_Mem} {P : Nat → Bool} (h : xF c μ) : zT P μ μ := ⟨rfl, rfl, h.1, h.2.1, fun _ _ _ _ => ⟨rfl, rfl, rfl⟩⟩
theorem zPc_lt {a : Nat} (h : a < 203) : zPc a = false := by
  unfold zPc
  cases hb : Nat.ble 203 a with
  | false => rfl
  | true =>
    have := Nat.le_of_ble_eq_true hb
    omega
section
variable {μ μ0 : xe_Mem} {P : Nat → Bool}
theorem zT_sh (h : zT P μ0 μ) {a : Nat} {s : xe_Sh} (ha : xv_S[a]? = some s) : (xe_sh μ)[a]? = some s := by
  obtain ⟨-, -, ⟨g, hg⟩, -⟩ := h
  rw [hg, List.getElem?_append_left (List.getElem?_eq_some_iff.mp ha).1]
  exact ha
theorem zT_r (h : zT P μ0 μ) {a j b : Nat} (hb : (xv_rt.getD a []).lookup j = some b) : xe_R μ a j = some b := h.2.2.2.1 a j b hb
theorem zT_setI (h : zT P μ0 μ) {a j : Nat} {v : Int32} (hp : P a = false) : zT P μ0 (xe_setI μ a j v) := by
  refine ⟨h.1, h.2.1, h.2.2.1, h.2.2.2.1, fun b hb hP i => ?_⟩
  obtain ⟨h1, h2, h3⟩ := h.2.2.2.2 b hb hP i
  refine ⟨?_, h2, h3⟩
  show xe_u _ a j v b i = _
  unfold xe_u
  rw [if_neg (fun hc => by rw [hc.1, hp] at hP; cases hP)]
  exact h1
theorem zT_setL (h : zT P μ0 μ) {a j : Nat} {v : Int64} (hp : P a = false) : zT P μ0 (xe_setL μ a j v) := by
  refine ⟨h.1, h.2.1, h.2.2.1, h.2.2.2.1, fun b hb hP i => ?_⟩
  obtain ⟨h1, h2, h3⟩ := h.2.2.2.2 b hb hP i
  refine ⟨h1, ?_, h3⟩
  show xe_u _ a j v b i = _
  unfold xe_u
  rw [if_neg (fun hc => by rw [hc.1, hp] at hP; cases hP)]
  exact h2
theorem zT_setR (h : zT P μ0 μ) {a j : Nat} {v : Option Nat} (hn : (xv_rt.getD a []).lookup j = none) (hp : P a = false) : zT P μ0 (xe_setR μ a j v) := by
  refine ⟨h.1, h.2.1, h.2.2.1, fun b i t ht => ?_, fun b hb hP i => ?_⟩
  · show xe_u _ a j v b i = some t
    unfold xe_u
    split
    · rename_i hc
      rw [hc.1, hc.2, hn] at ht
      cases ht
    · exact h.2.2.2.1 b i t ht
  · obtain ⟨h1, h2, h3⟩ := h.2.2.2.2 b hb hP i
    refine ⟨h1, h2, ?_⟩
    show xe_u _ a j v b i = _
    unfold xe_u
    rw [if_neg (fun hc => by rw [hc.1, hp] at hP; cases hP)]
    exact h3
theorem zT_row (h : zT P μ0 μ) {a : Nat} {g : Nat → Int32} (hp : P a = false) : zT P μ0 (μ.1, xe_w μ.2.1 a g, μ.2.2.1, μ.2.2.2.1, μ.2.2.2.2) := by
  refine ⟨h.1, h.2.1, h.2.2.1, h.2.2.2.1, fun b hb hP i => ?_⟩
  obtain ⟨h1, h2, h3⟩ := h.2.2.2.2 b hb hP i
  refine ⟨?_, h2, h3⟩
  show xe_w _ a g b i = _
  rw [xe_w_ne _ _ (fun hc => by rw [hc, hp] at hP; cases hP)]
  exact h1
theorem zT_exc (h : zT P μ0 μ) {ci : Nat} : zX P μ0 (xe_sh μ).length (xe_add μ (.inl ci) 6) := by
  obtain ⟨hs, hl, ⟨g, hg⟩, hr, hf⟩ := h
  have hlen : 265 ≤ μ.1.length := by
    rw [show μ.1 = _ from hg, List.length_append, xv_Sl]
    omega
  refine ⟨⟨ci, ?_⟩, by rw [hs], ?_, fun a j b hb => ?_, fun a ha hP j => ?_⟩
  · show xe_sh μ ++ [_] = _
    rw [hs]
  · show xe_sl μ + 6 = _
    rw [hl]
  · show xe_w μ.2.2.2.1 μ.1.length (fun _ => none) a j = some b
    have ha : a < 265 := by
      refine Nat.lt_of_not_le (fun h265 => ?_)
      rw [xv_zn _ (by rw [xv_rl]; omega)] at hb
      cases hb
    rw [xe_w_ne _ _ (by omega)]
    exact hr a j b hb
  · obtain ⟨h1, h2, h3⟩ := hf a ha hP j
    refine ⟨?_, ?_, ?_⟩
    · show xe_w μ.2.1 μ.1.length (fun _ => 0) a j = _
      rw [xe_w_ne _ _ (by omega)]
      exact h1
    · show xe_w μ.2.2.1 μ.1.length (fun _ => 0) a j = _
      rw [xe_w_ne _ _ (by omega)]
      exact h2
    · show xe_w μ.2.2.2.1 μ.1.length (fun _ => none) a j = _
      rw [xe_w_ne _ _ (by omega)]
      exact h3
theorem zX_ci {a : Nat} (h : zX P μ0 a μ) : ∃ ci, xe_ci μ a = some ci := by
  obtain ⟨⟨ci, hs⟩, ha, -⟩ := h
  refine ⟨ci, ?_⟩
  unfold xe_ci
  rw [hs, ha, List.getElem?_append_right (Nat.le_refl _), Nat.sub_self]
  rfl
end
/-! what functions are made of -/
def zq_o (a ci : Nat) (E : zO) : zO := if xv_S[a]? = some (.inl ci) ∧ a < 203 then E else none
def zq_a (a t : Nat) (f : Nat → zO) : zO := match xv_S[a]? with
  | some (.inr q) => if q.1 = t ∧ a < 203 then f q.2 else none
  | _ => none
def zq_x (i : Int32) (N : Nat) (f : Nat → zO) : zO := if i < 0 ∨ N ≤ i.toNatClampNeg then none else f i.toNatClampNeg
def zq_s (t : Option Nat) (f : Nat → zO) : zO := match t with
  | some b => f b
  | none => none
def zq_n (t : Option Nat) (A : zO) (f : Nat → zO) : zO := match t with
  | none => A
  | some b => f b
def zq_m (μ : xe_Mem) (f : xe_Mem → zO) : zO := f μ
def zq_vI (x : Int32) (f : Int32 → zO) : zO := f x
def zq_vL (x : Int64) (f : Int64 → zO) : zO := f x
def zq_vO (x : Option Nat) (f : Option Nat → zO) : zO := f x
def zq_z (x : Int32) (E : zO) : zO := if x = 0 ∨ x = 1 then E else none
def zq_d (x : Int32) (E : zO) : zO := if x = 0 then none else E
def zq_dL (x : Int64) (E : zO) : zO := if x = 0 then none else E
def zq_w (a j : Nat) (E : zO) : zO := if (xv_rt.getD a []).lookup j = none then E else none
def zq_k (a : Nat) (E : zO) : zO := if 1000001 ≤ a ∧ a < 1000030 then E else none
def zq_thr (c : Nat) (μ : xe_Mem) : zO := if (xe_sh μ).length < xg_CT ∧ xe_sl μ + 6 ≤ xg_ST then some (.inr (xe_sh μ).length, xe_add μ (.inl c) 6) else none
def zq_acp (t : Nat) (ok : Int32 → Bool) (b : Nat) (sp : Int32) (a : Nat) (dp n : Int32) (μ : xe_Mem) (f : xe_Mem → zO) : zO := match xe_acp t ok 0 [] [.int n, .int dp, .ref a, .int sp, .ref b] μ with
  | some w => f w.2.2.2
  | none => none
def zq_cV (r : zO) (f : xe_Mem → zO) : zO := match r with
  | some (.inl none, μ) => f μ
  | some (.inr a, μ) => some (.inr a, μ)
  | _ => none
def zq_cI (r : zO) (f : Int32 → xe_Mem → zO) : zO := match r with
  | some (.inl (some (.int v)), μ) => f v μ
  | some (.inr a, μ) => some (.inr a, μ)
  | _ => none
def zq_cR (r : zO) (f : Nat → xe_Mem → zO) : zO := match r with
  | some (.inl (some (.ref v)), μ) => f v μ
  | some (.inr a, μ) => some (.inr a, μ)
  | _ => none
def zq_cO (r : zO) (f : Option Nat → xe_Mem → zO) : zO := match r with
  | some (.inl (some (.ref v)), μ) => f (some v) μ
  | some (.inl (some .null), μ) => f none μ
  | some (.inr a, μ) => some (.inr a, μ)
  | _ => none
/-- the run from here is as R says -/
def zE (P : Nat → Bool) (μ0 : xe_Mem) (o : xe_Out) (μ : xe_Mem) : Prop := match o with
  | .inl _ => zT P μ0 μ
  | .inr a => zX P μ0 a μ
def zK (P : Nat → Bool) (μ0 : xe_Mem) (δ : xe_Dy) (d y k : Nat) (ls : xe_Ls) (st : List Value) (μ : xe_Mem) (R : zO) : Prop := ∀ o μ', R = some (o, μ') → xs_G δ d y k ls st μ o μ' ∧ zE P μ0 o μ'
section
variable {P : Nat → Bool} {μ0 : xe_Mem} {δ : xe_Dy} {d y k : Nat} {ls : xe_Ls} {st r : List Value} {μ : xe_Mem} {R A B : zO}
theorem zK_no : zK P μ0 δ d y k ls st μ none := fun _ _ e => by cases e
theorem zK_op {f : xe_F} {k' : Nat} {ls' : xe_Ls} {st' : List Value} {μ1 : xe_Mem} (hi : (xM_C δ y)[k]? = some (.inl f)) (hf : f k ls st μ = some (k', ls', st', μ1)) (h : zK P μ0 δ d y k' ls' st' μ1 R) : zK P μ0 δ d y k ls st μ R := fun o μ' e => ⟨xs_op hi hf (h o μ' e).1, (h o μ' e).2⟩
theorem zK_ite {p : Prop} [Decidable p] (hA : p → zK P μ0 δ d y k ls st μ A) (hB : ¬ p → zK P μ0 δ d y k ls st μ B) : zK P μ0 δ d y k ls st μ (if p then A else B) := by
  by_cases h : p
  · rw [if_pos h]; exact hA h
  · rw [if_neg h]; exact hB h
theorem zK_o {a ci : Nat} (h : xv_S[a]? = some (.inl ci) → zPc a = false → zK P μ0 δ d y k ls st μ A) : zK P μ0 δ d y k ls st μ (zq_o a ci A) := zK_ite (fun q => h q.1 (zPc_lt q.2)) (fun _ => zK_no)
theorem zK_a {a t : Nat} {f : Nat → zO} (h : ∀ N, xv_S[a]? = some (.inr (t, N)) → zPc a = false → zK P μ0 δ d y k ls st μ (f N)) : zK P μ0 δ d y k ls st μ (zq_a a t f) := by
  unfold zq_a
  split
  · rename_i q hq
    refine zK_ite (fun ht => h q.2 ?_ (zPc_lt ht.2)) (fun _ => zK_no)
    rw [hq, ← ht.1]
  · exact zK_no
theorem zK_x {i : Int32} {N : Nat} {f : Nat → zO} (h : ∀ j, i.toNatClampNeg = j → ¬ i < 0 → j < N → zK P μ0 δ d y k ls st μ (f j)) : zK P μ0 δ d y k ls st μ (zq_x i N f) := zK_ite (fun _ => zK_no) (fun hn => h _ rfl (fun h0 => hn (Or.inl h0)) (Nat.lt_of_not_le (fun h1 => hn (Or.inr h1))))
theorem zK_vI {x : Int32} {f : Int32 → zO} (h : ∀ x, zK P μ0 δ d y k ls (.int x :: r) μ (f x)) : zK P μ0 δ d y k ls (.int x :: r) μ (zq_vI x f) := h x
theorem zK_vL {x : Int64} {f : Int64 → zO} (h : ∀ x, zK P μ0 δ d y k ls (.long x :: r) μ (f x)) : zK P μ0 δ d y k ls (.long x :: r) μ (zq_vL x f) := h x
theorem zK_z {x : Int32} (h : x = 0 ∨ x = 1 → zK P μ0 δ d y k ls st μ A) : zK P μ0 δ d y k ls st μ (zq_z x A) := zK_ite h (fun _ => zK_no)
theorem zK_dv {x : Int32} (h : ¬ x = 0 → zK P μ0 δ d y k ls st μ A) : zK P μ0 δ d y k ls st μ (zq_d x A) := zK_ite (fun _ => zK_no) h
theorem zK_dvL {x : Int64} (h : ¬ x = 0 → zK P μ0 δ d y k ls st μ A) : zK P μ0 δ d y k ls st μ (zq_dL x A) := zK_ite (fun _ => zK_no) h
theorem zK_w {a j : Nat} (h : (xv_rt.getD a []).lookup j = none → zK P μ0 δ d y k ls st μ A) : zK P μ0 δ d y k ls st μ (zq_w a j A) := zK_ite h (fun _ => zK_no)
theorem zK_k {a : Nat} (h : 1000001 ≤ a ∧ a < 1000030 → zK P μ0 δ d y k ls st μ A) : zK P μ0 δ d y k ls st μ (zq_k a A) := zK_ite h (fun _ => zK_no)
/-! ends -/
theorem zK_ret0 (hi : (xM_C δ y)[k]? = some (.inr (.inr 0))) (hT : zT P μ0 μ) : zK P μ0 δ d y k ls [] μ (some (.inl none, μ)) := fun _ _ e => by cases e; exact ⟨xs_ret0 hi, hT⟩
theorem zK_ret1 {v : Int32} (hi : (xM_C δ y)[k]? = some (.inr (.inr 1))) (hT : zT P μ0 μ) : zK P μ0 δ d y k ls [.int v] μ (some (.inl (some (.int v)), μ)) := fun _ _ e => by cases e; exact ⟨xs_ret1 hi, hT⟩
theorem zK_ret3 {v : Int32} (hi : (xM_C δ y)[k]? = some (.inr (.inr 3))) (hv : v = 0 ∨ v = 1) (hT : zT P μ0 μ) : zK P μ0 δ d y k ls [.int v] μ (some (.inl (some (.int v)), μ)) := fun _ _ e => by cases e; exact ⟨xs_ret3 hi hv, hT⟩
theorem zK_ret3z {v : Int32} (hi : (xM_C δ y)[k]? = some (.inr (.inr 3))) (hT : zT P μ0 μ) : zK P μ0 δ d y k ls [.int v] μ (zq_z v (some (.inl (some (.int v)), μ))) := zK_z (fun hv => zK_ret3 hi hv hT)
theorem zK_ret4 {a : Nat} (hi : (xM_C δ y)[k]? = some (.inr (.inr 4))) (hT : zT P μ0 μ) : zK P μ0 δ d y k ls [.ref a] μ (some (.inl (some (.ref a)), μ)) := fun _ _ e => by cases e; exact ⟨xs_ret4 hi, hT⟩
theorem zK_ret4o {t : Option Nat} (hi : (xM_C δ y)[k]? = some (.inr (.inr 4))) (hT : zT P μ0 μ) : zK P μ0 δ d y k ls [va_rf t] μ (some (.inl (some (va_rf t)), μ)) := fun _ _ e => by
  cases e
  cases t with
  | none => exact ⟨xs_ret4n hi, hT⟩
  | some a => exact ⟨xs_ret4 hi, hT⟩
theorem zK_thr {c : Nat} (hi : (xM_C δ y)[k]? = some (.inr (.inr (c + 6)))) (h3 : (st.map fun v => v.category).sum ≤ 20) (h4 : ∀ c, xM_H y k c = some none) (hT : zT P μ0 μ) : zK P μ0 δ d y k ls st μ (zq_thr c μ) := by
  refine zK_ite (fun h => ?_) (fun _ => zK_no)
  intro o μ' e
  cases e
  exact ⟨xs_thr hi h.1 h.2 h3 (h4 c), zT_exc hT⟩
/-! fields and arrays -/
theorem zK_gI {ci j a : Nat} (hi : (xM_C δ y)[k]? = some (.inl (xe_gtI ci j))) (hs : xv_S[a]? = some (.inl ci)) (hT : zT P μ0 μ) (h : zK P μ0 δ d y (k + 1) ls (.int (xe_I μ a j) :: r) μ R) : zK P μ0 δ d y k ls (.ref a :: r) μ R := zK_op hi (if_pos (zT_sh hT hs)) h
theorem zK_gRl {ci j a b : Nat} (hi : (xM_C δ y)[k]? = some (.inl (xe_gtR ci j))) (hs : xv_S[a]? = some (.inl ci)) (hb : (xv_rt.getD a []).lookup j = some b) (hT : zT P μ0 μ) (h : zK P μ0 δ d y (k + 1) ls (.ref b :: r) μ R) : zK P μ0 δ d y k ls (.ref a :: r) μ R := zK_op hi (if_pos (zT_sh hT hs)) (by rw [zT_r hT hb]; exact h)
theorem zK_gRs {ci j a : Nat} {f : Nat → zO} (hi : (xM_C δ y)[k]? = some (.inl (xe_gtR ci j))) (hs : xv_S[a]? = some (.inl ci)) (hT : zT P μ0 μ) (h : ∀ b, zK P μ0 δ d y (k + 1) ls (.ref b :: r) μ (f b)) : zK P μ0 δ d y k ls (.ref a :: r) μ (zq_s (xe_R μ a j) f) := by
  refine zK_op hi (if_pos (zT_sh hT hs)) ?_
  cases xe_R μ a j with
  | none => exact zK_no
  | some b => exact h b
theorem zK_pI {ci j a : Nat} {v : Int32} {f : xe_Mem → zO} (hi : (xM_C δ y)[k]? = some (.inl (xe_ptI ci j))) (hs : xv_S[a]? = some (.inl ci)) (hT : zT P μ0 μ) (hp : P a = false) (h : ∀ μ, zT P μ0 μ → zK P μ0 δ d y (k + 1) ls r μ (f μ)) : zK P μ0 δ d y k ls (.int v :: .ref a :: r) μ (zq_m (xe_setI μ a j v) f) := zK_op hi (if_pos (zT_sh hT hs)) (h _ (zT_setI hT hp))
theorem zK_pZ {ci j a : Nat} {v : Int32} {f : xe_Mem → zO} (hi : (xM_C δ y)[k]? = some (.inl (xe_ptZ ci j))) (hs : xv_S[a]? = some (.inl ci)) (hv : v = 0 ∨ v = 1) (hT : zT P μ0 μ) (hp : P a = false) (h : ∀ μ, zT P μ0 μ → zK P μ0 δ d y (k + 1) ls r μ (f μ)) : zK P μ0 δ d y k ls (.int v :: .ref a :: r) μ (zq_m (xe_setI μ a j v) f) := zK_op hi (if_pos ⟨zT_sh hT hs, hv⟩) (h _ (zT_setI hT hp))
theorem zK_pR {ci j a b : Nat} {f : xe_Mem → zO} (hi : (xM_C δ y)[k]? = some (.inl (xe_ptR ci j))) (hs : xv_S[a]? = some (.inl ci)) (hn : (xv_rt.getD a []).lookup j = none) (hT : zT P μ0 μ) (hp : P a = false) (h : ∀ μ, zT P μ0 μ → zK P μ0 δ d y (k + 1) ls r μ (f μ)) : zK P μ0 δ d y k ls (.ref b :: .ref a :: r) μ (zq_m (xe_setR μ a j (some b)) f) := zK_op hi (if_pos (zT_sh hT hs)) (h _ (zT_setR hT hn hp))
theorem zK_aI {t a j N : Nat} {i : Int32} (hi : (xM_C δ y)[k]? = some (.inl (xe_aldI t))) (hs : xv_S[a]? = some (.inr (t, N))) (hT : zT P μ0 μ) (hj : i.toNatClampNeg = j) (h0 : ¬ i < 0) (hN : j < N) (h : zK P μ0 δ d y (k + 1) ls (.int (xe_I μ a j) :: r) μ R) : zK P μ0 δ d y k ls (.int i :: .ref a :: r) μ R := by
  refine zK_op hi ?_ h
  unfold xe_aldI
  dsimp only
  rw [zT_sh hT hs]
  dsimp only
  rw [hj, if_pos ⟨rfl, fun hc => hc.elim h0 (fun hc => Nat.not_le.mpr hN hc)⟩]
theorem zK_aL {a j N : Nat} {i : Int32} (hi : (xM_C δ y)[k]? = some (.inl xe_aldL)) (hs : xv_S[a]? = some (.inr (1, N))) (hT : zT P μ0 μ) (hj : i.toNatClampNeg = j) (h0 : ¬ i < 0) (hN : j < N) (h : zK P μ0 δ d y (k + 1) ls (.long (xe_L μ a j) :: r) μ R) : zK P μ0 δ d y k ls (.int i :: .ref a :: r) μ R := by
  refine zK_op hi ?_ h
  unfold xe_aldL
  dsimp only
  rw [zT_sh hT hs]
  dsimp only
  rw [hj, if_pos ⟨rfl, fun hc => hc.elim h0 (fun hc => Nat.not_le.mpr hN hc)⟩]
theorem zK_aO {t a j N : Nat} {i : Int32} {f : Option Nat → zO} (hi : (xM_C δ y)[k]? = some (.inl (xe_aldR t))) (hs : xv_S[a]? = some (.inr (t, N))) (hT : zT P μ0 μ) (hj : i.toNatClampNeg = j) (h0 : ¬ i < 0) (hN : j < N) (h : ∀ t, zK P μ0 δ d y (k + 1) ls (va_rf t :: r) μ (f t)) : zK P μ0 δ d y k ls (.int i :: .ref a :: r) μ (zq_vO (xe_R μ a j) f) := by
  refine zK_op hi ?_ (h _)
  unfold xe_aldR
  dsimp only
  rw [zT_sh hT hs]
  dsimp only
  rw [hj, if_pos ⟨rfl, fun hc => hc.elim h0 (fun hc => Nat.not_le.mpr hN hc)⟩]
theorem zK_aR {t a j N : Nat} {i : Int32} {f : Nat → zO} (hi : (xM_C δ y)[k]? = some (.inl (xe_aldR t))) (hs : xv_S[a]? = some (.inr (t, N))) (hT : zT P μ0 μ) (hj : i.toNatClampNeg = j) (h0 : ¬ i < 0) (hN : j < N) (h : ∀ b, zK P μ0 δ d y (k + 1) ls (.ref b :: r) μ (f b)) : zK P μ0 δ d y k ls (.int i :: .ref a :: r) μ (zq_s (xe_R μ a j) f) := by
  refine zK_aO (f := fun t => zq_s t f) hi hs hT hj h0 hN (fun t => ?_)
  cases t with
  | none => exact zK_no
  | some b => exact h b
theorem zK_sI {t a j N : Nat} {g : Int32 → Int32} {i x : Int32} {f : xe_Mem → zO} (hi : (xM_C δ y)[k]? = some (.inl (xe_astI t g))) (hs : xv_S[a]? = some (.inr (t, N))) (hT : zT P μ0 μ) (hj : i.toNatClampNeg = j) (h0 : ¬ i < 0) (hN : j < N) (hp : P a = false) (h : ∀ μ, zT P μ0 μ → zK P μ0 δ d y (k + 1) ls r μ (f μ)) : zK P μ0 δ d y k ls (.int x :: .int i :: .ref a :: r) μ (zq_m (xe_setI μ a j (g x)) f) := by
  refine zK_op hi ?_ (h _ (zT_setI hT hp))
  unfold xe_astI
  dsimp only
  rw [zT_sh hT hs]
  dsimp only
  rw [hj, if_pos ⟨rfl, fun hc => hc.elim h0 (fun hc => Nat.not_le.mpr hN hc)⟩]
theorem zK_sL {a j N : Nat} {i : Int32} {x : Int64} {f : xe_Mem → zO} (hi : (xM_C δ y)[k]? = some (.inl xe_astL)) (hs : xv_S[a]? = some (.inr (1, N))) (hT : zT P μ0 μ) (hj : i.toNatClampNeg = j) (h0 : ¬ i < 0) (hN : j < N) (hp : P a = false) (h : ∀ μ, zT P μ0 μ → zK P μ0 δ d y (k + 1) ls r μ (f μ)) : zK P μ0 δ d y k ls (.long x :: .int i :: .ref a :: r) μ (zq_m (xe_setL μ a j x) f) := by
  refine zK_op hi ?_ (h _ (zT_setL hT hp))
  unfold xe_astL
  dsimp only
  rw [zT_sh hT hs]
  dsimp only
  rw [hj, if_pos ⟨rfl, fun hc => hc.elim h0 (fun hc => Nat.not_le.mpr hN hc)⟩]
theorem zK_sR {t ci a b j N : Nat} {i : Int32} {f : xe_Mem → zO} (hi : (xM_C δ y)[k]? = some (.inl (xe_astR t ci))) (hs : xv_S[a]? = some (.inr (t, N))) (hT : zT P μ0 μ) (hj : i.toNatClampNeg = j) (h0 : ¬ i < 0) (hN : j < N) (hb : xv_S[b]? = some (.inl ci)) (hw : (xv_rt.getD a []).lookup j = none) (hp : P a = false) (h : ∀ μ, zT P μ0 μ → zK P μ0 δ d y (k + 1) ls r μ (f μ)) : zK P μ0 δ d y k ls (.ref b :: .int i :: .ref a :: r) μ (zq_m (xe_setR μ a j (some b)) f) := by
  refine zK_op hi ?_ (h _ (zT_setR hT hw hp))
  unfold xe_astR
  dsimp only
  rw [zT_sh hT hs]
  dsimp only
  rw [hj, if_pos ⟨rfl, fun hc => hc.elim h0 (fun hc => Nat.not_le.mpr hN hc), zT_sh hT hb⟩]
theorem zK_sN {t ci a j N : Nat} {i : Int32} {f : xe_Mem → zO} (hi : (xM_C δ y)[k]? = some (.inl (xe_astR t ci))) (hs : xv_S[a]? = some (.inr (t, N))) (hT : zT P μ0 μ) (hj : i.toNatClampNeg = j) (h0 : ¬ i < 0) (hN : j < N) (hw : (xv_rt.getD a []).lookup j = none) (hp : P a = false) (h : ∀ μ, zT P μ0 μ → zK P μ0 δ d y (k + 1) ls r μ (f μ)) : zK P μ0 δ d y k ls (.null :: .int i :: .ref a :: r) μ (zq_m (xe_setR μ a j none) f) := by
  refine zK_op hi ?_ (h _ (zT_setR hT hw hp))
  unfold xe_astR
  dsimp only
  rw [zT_sh hT hs]
  dsimp only
  rw [hj, if_pos ⟨rfl, fun hc => hc.elim h0 (fun hc => Nat.not_le.mpr hN hc)⟩]
theorem zK_sK {a b j N : Nat} {i : Int32} {f : xe_Mem → zO} (hi : (xM_C δ y)[k]? = some (.inl xe_astK)) (hs : xv_S[a]? = some (.inr (7, N))) (hT : zT P μ0 μ) (hj : i.toNatClampNeg = j) (h0 : ¬ i < 0) (hN : j < N) (hb : 1000001 ≤ b ∧ b < 1000030) (hw : (xv_rt.getD a []).lookup j = none) (hp : P a = false) (h : ∀ μ, zT P μ0 μ → zK P μ0 δ d y (k + 1) ls r μ (f μ)) : zK P μ0 δ d y k ls (.ref b :: .int i :: .ref a :: r) μ (zq_m (xe_setR μ a j (some b)) f) := by
  refine zK_op hi ?_ (h _ (zT_setR hT hw hp))
  unfold xe_astK
  dsimp only
  rw [zT_sh hT hs]
  dsimp only
  rw [hj, if_pos ⟨rfl, fun hc => hc.elim h0 (fun hc => Nat.not_le.mpr hN hc), hb⟩]
theorem zK_alen {t a N : Nat} (hi : (xM_C δ y)[k]? = some (.inl xe_alen)) (hs : xv_S[a]? = some (.inr (t, N))) (ht : t < xg_tl.length) (hT : zT P μ0 μ) (h : zK P μ0 δ d y (k + 1) ls (.int (Int32.ofNat N) :: r) μ R) : zK P μ0 δ d y k ls (.ref a :: r) μ R := by
  refine zK_op hi ?_ h
  unfold xe_alen
  dsimp only
  rw [zT_sh hT hs]
  dsimp only
  rw [if_pos ht]
theorem zK_acp0 {t a b : Nat} {ok : Int32 → Bool} {sp dp n : Int32} {w : Nat × xe_Ls × List Value × xe_Mem} (hT : zT P μ0 μ) (hw : xe_acp t ok 0 [] [.int n, .int dp, .ref a, .int sp, .ref b] μ = some w) : xe_acp t ok k ls [.int n, .int dp, .ref a, .int sp, .ref b] μ = some (k + 1, ls, [], w.2.2.2) ∧ (P a = false → zT P μ0 w.2.2.2) := by
  unfold xe_acp at hw ⊢
  dsimp only at hw ⊢
  split at hw
  · split at hw
    · rename_i hc
      cases hw
      rw [if_pos hc]
      exact ⟨rfl, fun hp => zT_row hT hp⟩
    · cases hw
  · cases hw
theorem zK_acp {t a b : Nat} {ok : Int32 → Bool} {sp dp n : Int32} {f : xe_Mem → zO} (hi : (xM_C δ y)[k]? = some (.inl (xe_acp t ok))) (hT : zT P μ0 μ) (hp : P a = false) (h : ∀ μ, zT P μ0 μ → zK P μ0 δ d y (k + 1) ls [] μ (f μ)) : zK P μ0 δ d y k ls [.int n, .int dp, .ref a, .int sp, .ref b] μ (zq_acp t ok b sp a dp n μ f) := by
  unfold zq_acp
  split
  · rename_i w hw
    obtain ⟨h1, h2⟩ := zK_acp0 (k := k) (ls := ls) hT hw
    exact zK_op hi h1 (h _ (h2 hp))
  · exact zK_no
/-! branches -/
theorem zK_ifeq {b : Nat} {x : Int32} (hi : (xM_C δ y)[k]? = some (.inl (xe_ifeq b))) (hA : x = 0 → zK P μ0 δ d y b ls r μ A) (hB : ¬ x = 0 → zK P μ0 δ d y (k + 1) ls r μ B) : zK P μ0 δ d y k ls (.int x :: r) μ (if x = 0 then A else B) := zK_ite (fun h => zK_op hi (if_pos h) (hA h)) (fun h => zK_op hi (if_neg h) (hB h))
theorem zK_ifne {b : Nat} {x : Int32} (hi : (xM_C δ y)[k]? = some (.inl (xe_ifne b))) (hA : x = 0 → zK P μ0 δ d y (k + 1) ls r μ A) (hB : ¬ x = 0 → zK P μ0 δ d y b ls r μ B) : zK P μ0 δ d y k ls (.int x :: r) μ (if x = 0 then A else B) := zK_ite (fun h => zK_op hi (if_neg (fun hn => hn h)) (hA h)) (fun h => zK_op hi (if_pos h) (hB h))
theorem zK_iflt {b : Nat} {x : Int32} (hi : (xM_C δ y)[k]? = some (.inl (xe_iflt b))) (hA : x < 0 → zK P μ0 δ d y b ls r μ A) (hB : ¬ x < 0 → zK P μ0 δ d y (k + 1) ls r μ B) : zK P μ0 δ d y k ls (.int x :: r) μ (if x < 0 then A else B) := zK_ite (fun h => zK_op hi (if_pos h) (hA h)) (fun h => zK_op hi (if_neg h) (hB h))
theorem zK_ifge {b : Nat} {x : Int32} (hi : (xM_C δ y)[k]? = some (.inl (xe_ifge b))) (hA : 0 ≤ x → zK P μ0 δ d y b ls r μ A) (hB : ¬ 0 ≤ x → zK P μ0 δ d y (k + 1) ls r μ B) : zK P μ0 δ d y k ls (.int x :: r) μ (if 0 ≤ x then A else B) := zK_ite (fun h => zK_op hi (if_pos h) (hA h)) (fun h => zK_op hi (if_neg h) (hB h))
theorem zK_ifgt {b : Nat} {x : Int32} (hi : (xM_C δ y)[k]? = some (.inl (xe_ifgt b))) (hA : 0 < x → zK P μ0 δ d y b ls r μ A) (hB : ¬ 0 < x → zK P μ0 δ d y (k + 1) ls r μ B) : zK P μ0 δ d y k ls (.int x :: r) μ (if 0 < x then A else B) := zK_ite (fun h => zK_op hi (if_pos h) (hA h)) (fun h => zK_op hi (if_neg h) (hB h))
theorem zK_ifle {b : Nat} {x : Int32} (hi : (xM_C δ y)[k]? = some (.inl (xe_ifle b))) (hA : x ≤ 0 → zK P μ0 δ d y b ls r μ A) (hB : ¬ x ≤ 0 → zK P μ0 δ d y (k + 1) ls r μ B) : zK P μ0 δ d y k ls (.int x :: r) μ (if x ≤ 0 then A else B) := zK_ite (fun h => zK_op hi (if_pos h) (hA h)) (fun h => zK_op hi (if_neg h) (hB h))
theorem zK_iceq {b : Nat} {x z : Int32} (hi : (xM_C δ y)[k]? = some (.inl (xe_iceq b))) (hA : x = z → zK P μ0 δ d y b ls r μ A) (hB : ¬ x = z → zK P μ0 δ d y (k + 1) ls r μ B) : zK P μ0 δ d y k ls (.int z :: .int x :: r) μ (if x = z then A else B) := zK_ite (fun h => zK_op hi (if_pos h) (hA h)) (fun h => zK_op hi (if_neg h) (hB h))
theorem zK_icne {b : Nat} {x z : Int32} (hi : (xM_C δ y)[k]? = some (.inl (xe_icne b))) (hA : x = z → zK P μ0 δ d y (k + 1) ls r μ A) (hB : ¬ x = z → zK P μ0 δ d y b ls r μ B) : zK P μ0 δ d y k ls (.int z :: .int x :: r) μ (if x = z then A else B) := zK_ite (fun h => zK_op hi (if_neg (fun hn => hn h)) (hA h)) (fun h => zK_op hi (if_pos h) (hB h))
theorem zK_iclt {b : Nat} {x z : Int32} (hi : (xM_C δ y)[k]? = some (.inl (xe_iclt b))) (hA : x < z → zK P μ0 δ d y b ls r μ A) (hB : ¬ x < z → zK P μ0 δ d y (k + 1) ls r μ B) : zK P μ0 δ d y k ls (.int z :: .int x :: r) μ (if x < z then A else B) := zK_ite (fun h => zK_op hi (if_pos h) (hA h)) (fun h => zK_op hi (if_neg h) (hB h))
theorem zK_icge {b : Nat} {x z : Int32} (hi : (xM_C δ y)[k]? = some (.inl (xe_icge b))) (hA : z ≤ x → zK P μ0 δ d y b ls r μ A) (hB : ¬ z ≤ x → zK P μ0 δ d y (k + 1) ls r μ B) : zK P μ0 δ d y k ls (.int z :: .int x :: r) μ (if z ≤ x then A else B) := zK_ite (fun h => zK_op hi (if_pos h) (hA h)) (fun h => zK_op hi (if_neg h) (hB h))
theorem zK_icgt {b : Nat} {x z : Int32} (hi : (xM_C δ y)[k]? = some (.inl (xe_icgt b))) (hA : z < x → zK P μ0 δ d y b ls r μ A) (hB : ¬ z < x → zK P μ0 δ d y (k + 1) ls r μ B) : zK P μ0 δ d y k ls (.int z :: .int x :: r) μ (if z < x then A else B) := zK_ite (fun h => zK_op hi (if_pos h) (hA h)) (fun h => zK_op hi (if_neg h) (hB h))
theorem zK_icle {b : Nat} {x z : Int32} (hi : (xM_C δ y)[k]? = some (.inl (xe_icle b))) (hA : x ≤ z → zK P μ0 δ d y b ls r μ A) (hB : ¬ x ≤ z → zK P μ0 δ d y (k + 1) ls r μ B) : zK P μ0 δ d y k ls (.int z :: .int x :: r) μ (if x ≤ z then A else B) := zK_ite (fun h => zK_op hi (if_pos h) (hA h)) (fun h => zK_op hi (if_neg h) (hB h))
theorem zK_nullN {b : Nat} {f : Nat → zO} (hi : (xM_C δ y)[k]? = some (.inl (xe_null b))) (h : zK P μ0 δ d y b ls r μ A) : zK P μ0 δ d y k ls (va_rf none :: r) μ (zq_n none A f) := zK_op hi rfl h
theorem zK_nullS {b a : Nat} {f : Nat → zO} (hi : (xM_C δ y)[k]? = some (.inl (xe_null b))) (h : zK P μ0 δ d y (k + 1) ls r μ (f a)) : zK P μ0 δ d y k ls (va_rf (some a) :: r) μ (zq_n (some a) A f) := zK_op hi rfl h
theorem zK_nonnullN {b : Nat} {f : Nat → zO} (hi : (xM_C δ y)[k]? = some (.inl (xe_nonnull b))) (h : zK P μ0 δ d y (k + 1) ls r μ A) : zK P μ0 δ d y k ls (va_rf none :: r) μ (zq_n none A f) := zK_op hi rfl h
theorem zK_nonnullS {b a : Nat} {f : Nat → zO} (hi : (xM_C δ y)[k]? = some (.inl (xe_nonnull b))) (h : zK P μ0 δ d y b ls r μ (f a)) : zK P μ0 δ d y k ls (va_rf (some a) :: r) μ (zq_n (some a) A f) := zK_op hi rfl h
theorem ze_kr {a : Nat} (h : 1000001 ≤ a ∧ a < 1000030) : xe_kr (.ref a) = some (some a) := if_pos h
theorem zK_aceq {b p q : Nat} (hi : (xM_C δ y)[k]? = some (.inl (xe_aceq b))) (hp : 1000001 ≤ p ∧ p < 1000030) (hq : 1000001 ≤ q ∧ q < 1000030) (hA : p = q → zK P μ0 δ d y b ls r μ A) (hB : ¬ p = q → zK P μ0 δ d y (k + 1) ls r μ B) : zK P μ0 δ d y k ls (.ref q :: .ref p :: r) μ (if p = q then A else B) := by
  refine zK_ite (fun h => zK_op hi ?_ (hA h)) (fun h => zK_op hi ?_ (hB h))
  · unfold xe_aceq
    dsimp only
    rw [ze_kr hp, ze_kr hq]
    exact if_pos (by rw [h])
  · unfold xe_aceq
    dsimp only
    rw [ze_kr hp, ze_kr hq]
    exact if_neg (fun e => h (Option.some.inj e))
theorem zK_acne {b p q : Nat} (hi : (xM_C δ y)[k]? = some (.inl (xe_acne b))) (hp : 1000001 ≤ p ∧ p < 1000030) (hq : 1000001 ≤ q ∧ q < 1000030) (hA : p = q → zK P μ0 δ d y (k + 1) ls r μ A) (hB : ¬ p = q → zK P μ0 δ d y b ls r μ B) : zK P μ0 δ d y k ls (.ref q :: .ref p :: r) μ (if p = q then A else B) := by
  refine zK_ite (fun h => zK_op hi ?_ (hA h)) (fun h => zK_op hi ?_ (hB h))
  · unfold xe_acne
    dsimp only
    rw [ze_kr hp, ze_kr hq]
    exact if_pos (by rw [h])
  · unfold xe_acne
    dsimp only
    rw [ze_kr hp, ze_kr hq]
    exact if_neg (fun e => h (Option.some.inj e))
theorem zt_ne {x : Int32} (c : Int32) {v : Int} (hc : c.toInt = v) (h : ¬ x = c) : x.toInt ≠ v := fun e => h (Int32.toInt_inj.mp (e.trans hc.symm))
theorem zK_tswD {lo : Int} {bs : List Nat} {dflt : Nat} {x : Int32} (hi : (xM_C δ y)[k]? = some (.inl (xe_tsw lo bs dflt))) (hx : x.toInt < lo ∨ lo + bs.length ≤ x.toInt) (h : zK P μ0 δ d y dflt ls r μ R) : zK P μ0 δ d y k ls (.int x :: r) μ R := by
  refine zK_op hi ?_ h
  show some ((if x.toInt < lo ∨ lo + bs.length ≤ x.toInt then dflt else bs.getD (x.toInt - lo).toNat 0), ls, r, μ) = _
  rw [if_pos hx]
/-! the rest -/
theorem zK_i2d {g : Int32 → Int32 → Int32} {x z : Int32} (hi : (xM_C δ y)[k]? = some (.inl (xe_i2d g))) (hz : ¬ z = 0) (h : zK P μ0 δ d y (k + 1) ls (.int (g x z) :: r) μ R) : zK P μ0 δ d y k ls (.int z :: .int x :: r) μ R := zK_op hi (if_neg hz) h
theorem zK_l2d {g : Int64 → Int64 → Int64} {x z : Int64} (hi : (xM_C δ y)[k]? = some (.inl (xe_l2d g))) (hz : ¬ z = 0) (h : zK P μ0 δ d y (k + 1) ls (.long (g x z) :: r) μ R) : zK P μ0 δ d y k ls (.long z :: .long x :: r) μ R := zK_op hi (if_neg hz) h
theorem zK_imax {x z : Int32} (hi : (xM_C δ y)[k]? = some (.inl xe_imax)) (hr : (r.map fun v => v.category).sum ≤ 40) (h : zK P μ0 δ d y (k + 1) ls (.int (if x < z then z else x) :: r) μ R) : zK P μ0 δ d y k ls (.int z :: .int x :: r) μ R := zK_op hi (if_pos hr) h
theorem zK_imin {x z : Int32} (hi : (xM_C δ y)[k]? = some (.inl xe_imin)) (hr : (r.map fun v => v.category).sum ≤ 40) (h : zK P μ0 δ d y (k + 1) ls (.int (if z < x then z else x) :: r) μ R) : zK P μ0 δ d y k ls (.int z :: .int x :: r) μ R := zK_op hi (if_pos hr) h
theorem ze_ldO {i : Nat} {t : Option Nat} (h : ls[i]? = some (some (va_rf t))) : xe_ldA i k ls st μ = some (k + 1, ls, va_rf t :: st, μ) := by
  unfold xe_ldA
  rw [h]
  cases t <;> rfl
theorem ze_incO {i : Nat} {t : Option Nat} {x dd : Int32} (h0 : ls[i]? = some (some (va_rf t))) (h1 : ls[i + 1]? = some (some (.int x))) : xe_inc (i + 1) dd k ls st μ = some (k + 1, ls.set (i + 1) (some (.int (x + dd))), st, μ) := by
  unfold xe_inc
  rw [h1]
  dsimp only
  unfold xe_st1 xe_cut
  dsimp only
  rw [h0]
  cases t <;> rfl
theorem ze_stO {i : Nat} {t : Option Nat} : xe_stA i k ls (va_rf t :: st) μ = some (k + 1, xe_st1 ls i (va_rf t), st, μ) := by cases t <;> rfl
theorem ze_rcvG {ci a : Nat} {as : List Value} : xe_rcv μ (ci + 1) (.ref a :: as) = if ci = 100 then decide (1000001 ≤ a ∧ a < 1000030) else if ci = 101 then decide (1000031 ≤ a ∧ a < 1000060) else decide ((xe_sh μ)[a]? = some (.inl ci)) := rfl
theorem ze_rcvK {a : Nat} {as : List Value} (h : 1000001 ≤ a ∧ a < 1000030) : xe_rcv μ 101 (.ref a :: as) = true := (ze_rcvG (ci := 100)).trans ((if_pos rfl).trans (decide_eq_true h))
theorem ze_rcvT {a : Nat} {as : List Value} (h : 1000031 ≤ a ∧ a < 1000060) : xe_rcv μ 102 (.ref a :: as) = true := (ze_rcvG (ci := 101)).trans ((if_neg (by decide)).trans ((if_pos rfl).trans (decide_eq_true h)))
theorem ze_rcvS {a : Nat} {as : List Value} (h : 1000001 ≤ a ∧ a < 1000030) : xe_rcv μ 102 (.ref (1000031 + (a - 1000001)) :: as) = true := ze_rcvT (by omega)
theorem zk_in {j : Nat} (h : j < 29) : 1000001 ≤ 1000001 + j ∧ 1000001 + j < 1000030 := by omega
theorem zK_xaa {j : Nat} {i : Int32} (hi : (xM_C δ y)[k]? = some (.inl xe_xaa)) (hj : i.toNatClampNeg = j) (h0 : ¬ i < 0) (hN : j < 29) (h : zK P μ0 δ d y (k + 1) ls (.ref (1000001 + j) :: r) μ R) : zK P μ0 δ d y k ls (.int i :: .ref 1000030 :: r) μ R := by
  refine zK_op hi ?_ h
  unfold xe_xaa
  dsimp only
  rw [hj, if_pos ⟨rfl, fun hc => hc.elim h0 (fun hc => Nat.not_le.mpr hN hc)⟩]
theorem zK_gsp {a : Nat} (hi : (xM_C δ y)[k]? = some (.inl xe_gsp)) (ha : 1000001 ≤ a ∧ a < 1000030) (h : zK P μ0 δ d y (k + 1) ls (.ref (1000031 + (a - 1000001)) :: r) μ R) : zK P μ0 δ d y k ls (.ref a :: r) μ R := zK_op hi (if_pos ha) h
theorem zK_gtE {a : Nat} {tbl : List Int32} (hi : (xM_C δ y)[k]? = some (.inl (xe_gtE tbl))) (ha : 1000001 ≤ a ∧ a < 1000030) (h : zK P μ0 δ d y (k + 1) ls (.int (List.getD tbl (a - 1000001) 0) :: r) μ R) : zK P μ0 δ d y k ls (.ref a :: r) μ R := zK_op hi (if_pos ha) h
/-! calls -/
theorem zK_t {z na rc a : Nat} {as rest : List Value} {μ1 : xe_Mem} (hi : (xM_C δ y)[k]? = some (.inr (.inl (z, na, rc)))) (hst : st = as.reverse ++ rest) (hna : as.length = na) (hrc : xe_rcv μ rc as = true) (hsum : (rest.map fun v => v.category).sum ≤ 20) (hl : (xe_l0 as).length ≤ xM_L z) (h33 : xM_L z ≤ 33) (hH : ∀ ci, xM_H y k ci = some none) (hD : xs_M δ d z as μ (.inr a) μ1) (hT : zX P μ0 a μ1) : zK P μ0 δ (d + 1) y k ls st μ (some (.inr a, μ1)) := by
  intro o μ' e
  cases e
  obtain ⟨ci, hci⟩ := zX_ci hT
  exact ⟨xs_callT hi hst hna hrc hsum hl h33 hD hci (hH ci), hT⟩
theorem zK_cV {z na rc : Nat} {as rest : List Value} {r1 : zO} {f : xe_Mem → zO} (hi : (xM_C δ y)[k]? = some (.inr (.inl (z, na, rc)))) (hst : st = as.reverse ++ rest) (hna : as.length = na) (hrc : xe_rcv μ rc as = true) (hsum : (rest.map fun v => v.category).sum ≤ 20) (hl : (xe_l0 as).length ≤ xM_L z) (h33 : xM_L z ≤ 33) (hH : ∀ ci, xM_H y k ci = some none) (hd : 1 ≤ d) (hD : zK P μ0 δ (d - 1) z 0 (xe_init as (xM_L z)) [] μ r1) (h : ∀ μ1, zT P μ0 μ1 → zK P μ0 δ d y (k + 1) ls rest μ1 (f μ1)) : zK P μ0 δ d y k ls st μ (zq_cV r1 f) := by
  obtain ⟨d, rfl⟩ : ∃ d', d = d' + 1 := ⟨d - 1, by omega⟩
  match r1, hD with
  | none, _ => exact zK_no
  | some (.inr a, μ1), hD =>
    obtain ⟨g, t⟩ := hD _ _ rfl
    exact zK_t hi hst hna hrc hsum hl h33 hH g t
  | some (.inl (some v), μ1), _ => exact zK_no
  | some (.inl none, μ1), hD =>
    obtain ⟨g, t⟩ := hD _ _ rfl
    intro o μ' e
    obtain ⟨g2, t2⟩ := h _ t o μ' e
    exact ⟨xs_call hi hst hna hrc hsum hl h33 g g2, t2⟩
theorem zK_cI {z na rc : Nat} {as rest : List Value} {r1 : zO} {f : Int32 → xe_Mem → zO} (hi : (xM_C δ y)[k]? = some (.inr (.inl (z, na, rc)))) (hst : st = as.reverse ++ rest) (hna : as.length = na) (hrc : xe_rcv μ rc as = true) (hsum : (rest.map fun v => v.category).sum ≤ 20) (hl : (xe_l0 as).length ≤ xM_L z) (h33 : xM_L z ≤ 33) (hH : ∀ ci, xM_H y k ci = some none) (hd : 1 ≤ d) (hD : zK P μ0 δ (d - 1) z 0 (xe_init as (xM_L z)) [] μ r1) (h : ∀ v μ1, zT P μ0 μ1 → zK P μ0 δ d y (k + 1) ls (.int v :: rest) μ1 (f v μ1)) : zK P μ0 δ d y k ls st μ (zq_cI r1 f) := by
  obtain ⟨d, rfl⟩ : ∃ d', d = d' + 1 := ⟨d - 1, by omega⟩
  match r1, hD with
  | none, _ => exact zK_no
  | some (.inr a, μ1), hD =>
    obtain ⟨g, t⟩ := hD _ _ rfl
    exact zK_t hi hst hna hrc hsum hl h33 hH g t
  | some (.inl none, μ1), _ => exact zK_no
  | some (.inl (some v), μ1), hD =>
    cases v with
    | int v =>
      obtain ⟨g, t⟩ := hD _ _ rfl
      intro o μ' e
      obtain ⟨g2, t2⟩ := h v _ t o μ' e
      exact ⟨xs_call hi hst hna hrc hsum hl h33 g g2, t2⟩
    | _ => exact zK_no
theorem zK_cR {z na rc : Nat} {as rest : List Value} {r1 : zO} {f : Nat → xe_Mem → zO} (hi : (xM_C δ y)[k]? = some (.inr (.inl (z, na, rc)))) (hst : st = as.reverse ++ rest) (hna : as.length = na) (hrc : xe_rcv μ rc as = true) (hsum : (rest.map fun v => v.category).sum ≤ 20) (hl : (xe_l0 as).length ≤ xM_L z) (h33 : xM_L z ≤ 33) (hH : ∀ ci, xM_H y k ci = some none) (hd : 1 ≤ d) (hD : zK P μ0 δ (d - 1) z 0 (xe_init as (xM_L z)) [] μ r1) (h : ∀ v μ1, zT P μ0 μ1 → zK P μ0 δ d y (k + 1) ls (.ref v :: rest) μ1 (f v μ1)) : zK P μ0 δ d y k ls st μ (zq_cR r1 f) := by
  obtain ⟨d, rfl⟩ : ∃ d', d = d' + 1 := ⟨d - 1, by omega⟩
  match r1, hD with
  | none, _ => exact zK_no
  | some (.inr a, μ1), hD =>
    obtain ⟨g, t⟩ := hD _ _ rfl
    exact zK_t hi hst hna hrc hsum hl h33 hH g t
  | some (.inl none, μ1), _ => exact zK_no
  | some (.inl (some v), μ1), hD =>
    cases v with
    | ref v =>
      obtain ⟨g, t⟩ := hD _ _ rfl
      intro o μ' e
      obtain ⟨g2, t2⟩ := h v _ t o μ' e
      exact ⟨xs_call hi hst hna hrc hsum hl h33 g g2, t2⟩
    | _ => exact zK_no
theorem zK_cO {z na rc : Nat} {as rest : List Value} {r1 : zO} {f : Option Nat → xe_Mem → zO} (hi : (xM_C δ y)[k]? = some (.inr (.inl (z, na, rc)))) (hst : st = as.reverse ++ rest) (hna : as.length = na) (hrc : xe_rcv μ rc as = true) (hsum : (rest.map fun v => v.category).sum ≤ 20) (hl : (xe_l0 as).length ≤ xM_L z) (h33 : xM_L z ≤ 33) (hH : ∀ ci, xM_H y k ci = some none) (hd : 1 ≤ d) (hD : zK P μ0 δ (d - 1) z 0 (xe_init as (xM_L z)) [] μ r1) (h : ∀ v μ1, zT P μ0 μ1 → zK P μ0 δ d y (k + 1) ls (va_rf v :: rest) μ1 (f v μ1)) : zK P μ0 δ d y k ls st μ (zq_cO r1 f) := by
  obtain ⟨d, rfl⟩ : ∃ d', d = d' + 1 := ⟨d - 1, by omega⟩
  match r1, hD with
  | none, _ => exact zK_no
  | some (.inr a, μ1), hD =>
    obtain ⟨g, t⟩ := hD _ _ rfl
    exact zK_t hi hst hna hrc hsum hl h33 hH g t
  | some (.inl none, μ1), _ => exact zK_no
  | some (.inl (some v), μ1), hD =>
    cases v with
    | ref v =>
      obtain ⟨g, t⟩ := hD _ _ rfl
      intro o μ' e
      obtain ⟨g2, t2⟩ := h (some v) _ t o μ' e
      exact ⟨xs_call hi hst hna hrc hsum hl h33 g g2, t2⟩
    | null =>
      obtain ⟨g, t⟩ := hD _ _ rfl
      intro o μ' e
      obtain ⟨g2, t2⟩ := h none _ t o μ' e
      exact ⟨xs_call hi hst hna hrc hsum hl h33 g g2, t2⟩
    | _ => exact zK_no
end
/-! spellings -/
def zsp (a : Nat) : List Int32 := xg_sp.getD (1000060 + (a - 1000031) - 1000060) []
def zD25 (a0 : Nat) (μ : xe_Mem) : zO := if 1000031 ≤ a0 ∧ a0 < 1000060 then some (.inl (some (.int (Int32.ofNat (zsp a0).length >>> ((0 : Int32) &&& 31)))), μ) else none
def zch (c : Int32) : Int32 := ((c &&& 255).toUInt32 % 65536).toInt32
def zD27 (a0 : Nat) (a1 : Int32) (μ : xe_Mem) : zO := if 1000031 ≤ a0 ∧ a0 < 1000060 then zq_x a1 (zsp a0).length fun j => if 0 ≤ zch ((zsp a0).getD j 0) ∧ zch ((zsp a0).getD j 0) < 128 then some (.inl (some (.int (zch ((zsp a0).getD j 0)))), μ) else none else none
section
variable {P : Nat → Bool} {μ0 : xe_Mem} {δ : xe_Dy} {d : Nat} {μ : xe_Mem} {a0 : Nat}
theorem zsp_len : (zsp a0).length < 100 := by
  have h : ∀ l ∈ xg_sp, l.length < 100 := by decide +kernel
  unfold zsp
  rw [List.getD_eq_getElem?_getD]
  cases hq : xg_sp[1000060 + (a0 - 1000031) - 1000060]? with
  | none => exact (by decide : 0 < 100)
  | some l => exact h l (List.mem_of_getElem? hq)
theorem z26 (ha : 1000031 ≤ a0 ∧ a0 < 1000060) : xs_M δ d 26 [.ref a0] μ (.inl (some (.int 0))) μ := by
  refine xs_op (y := 26) rfl rfl ?_
  refine xs_ifeqF rfl (by decide) ?_
  refine xs_op rfl rfl ?_
  refine xs_op rfl (if_pos ha) ?_
  refine xs_op rfl rfl ?_
  exact xs_ret5 rfl (by decide)
theorem z28 (ha : 1000031 ≤ a0 ∧ a0 < 1000060) : xs_M δ d 28 [.ref a0] μ (.inl (some (.int 1))) μ := by
  refine xs_op (y := 28) rfl rfl ?_
  refine xs_ifeqF rfl (by decide) ?_
  refine xs_op rfl rfl ?_
  refine xs_op rfl (if_pos ha) ?_
  refine xs_ifneF rfl rfl ?_
  refine xs_op rfl rfl ?_
  refine xs_op rfl rfl ?_
  exact xs_ret3 rfl (Or.inr rfl)
theorem z31 {i n : Int32} {v : Value} (hv : v = .null ∨ v = .ref 1000089) (h0 : ¬ i < 0) (h1 : i < n) : xs_M δ d 31 [.int i, .int n, v] μ (.inl (some (.int i))) μ := by
  rcases hv with rfl | rfl
  · refine xs_op (y := 31) rfl rfl ?_
    refine xs_ifltF rfl h0 ?_
    refine xs_op rfl rfl ?_
    refine xs_op rfl rfl ?_
    refine xs_icltT rfl h1 ?_
    refine xs_op rfl rfl ?_
    exact xs_ret1 rfl
  · refine xs_op (y := 31) rfl rfl ?_
    refine xs_ifltF rfl h0 ?_
    refine xs_op rfl rfl ?_
    refine xs_op rfl rfl ?_
    refine xs_icltT rfl h1 ?_
    refine xs_op rfl rfl ?_
    exact xs_ret1 rfl
theorem z30 {i n : Int32} (h0 : ¬ i < 0) (h1 : i < n) : xs_M δ (d + 1) 30 [.int i, .int n] μ (.inl none) μ := by
  refine xs_op (y := 30) rfl rfl ?_
  refine xs_op rfl rfl ?_
  refine xs_op rfl rfl ?_
  have hf : xe_fmt δ = .null ∨ xe_fmt δ = .ref 1000089 := by
    unfold xe_fmt
    split
    · exact Or.inl rfl
    · exact Or.inr rfl
  generalize xe_fmt δ = v at hf
  rcases hf with rfl | rfl
  · refine xs_cv rfl (as := [.int i, .int n, .null]) (rest := []) rfl rfl rfl (Nat.le_of_ble_eq_true rfl) (Nat.le_of_ble_eq_true rfl) (by decide) (z31 (Or.inl rfl) h0 h1) ?_
    refine xs_op rfl rfl ?_
    exact xs_ret0 rfl
  · refine xs_cv rfl (as := [.int i, .int n, .ref 1000089]) (rest := []) rfl rfl rfl (Nat.le_of_ble_eq_true rfl) (Nat.le_of_ble_eq_true rfl) (by decide) (z31 (Or.inr rfl) h0 h1) ?_
    refine xs_op rfl rfl ?_
    exact xs_ret0 rfl
theorem z_xln (ha : 1000031 ≤ a0 ∧ a0 < 1000060) {k : Nat} {ls : xe_Ls} {r : List Value} : xe_xln k ls (.ref (1000060 + (a0 - 1000031)) :: r) μ = some (k + 1, ls, .int (Int32.ofNat (zsp a0).length) :: r, μ) := by
  unfold xe_xln
  dsimp only
  rw [if_neg (show ¬ (1000060 + (a0 - 1000031) = 1000030) by omega), if_pos (show 1000060 ≤ 1000060 + (a0 - 1000031) ∧ 1000060 + (a0 - 1000031) < 1000089 by omega)]
  rfl
theorem z_xba (ha : 1000031 ≤ a0 ∧ a0 < 1000060) {k j : Nat} {i : Int32} {ls : xe_Ls} {r : List Value} (hj : i.toNatClampNeg = j) (h0 : ¬ i < 0) (hN : j < (zsp a0).length) : xe_xba k ls (.int i :: .ref (1000060 + (a0 - 1000031)) :: r) μ = some (k + 1, ls, .int ((zsp a0).getD j 0) :: r, μ) := by
  unfold xe_xba
  dsimp only
  have hN2 : ¬ (i < 0 ∨ (xg_sp.getD (1000060 + (a0 - 1000031) - 1000060) []).length ≤ i.toNatClampNeg) := fun hn => hn.elim h0 (fun hn => by rw [hj] at hn; exact Nat.not_le.mpr hN hn)
  rw [if_pos ⟨(show 1000060 ≤ 1000060 + (a0 - 1000031) ∧ 1000060 + (a0 - 1000031) < 1000089 by omega), hN2⟩, hj]
  rfl
theorem z29 {i : Int32} {j : Nat} (ha : 1000031 ≤ a0 ∧ a0 < 1000060) (hj : i.toNatClampNeg = j) (h0 : ¬ i < 0) (hN : j < (zsp a0).length) (hc : 0 ≤ zch ((zsp a0).getD j 0) ∧ zch ((zsp a0).getD j 0) < 128) : xs_M δ (d + 2) 29 [.ref (1000060 + (a0 - 1000031)), .int i] μ (.inl (some (.int (zch ((zsp a0).getD j 0))))) μ := by
  have hl := zsp_len (a0 := a0)
  have hi : i < Int32.ofNat (zsp a0).length := by
    have e : (Int32.ofNat (zsp a0).length).toInt = ((zsp a0).length : Int) := nI_toInt (by omega)
    rw [Int32.lt_iff_toInt_lt, e]
    have h1 : i.toNatClampNeg = i.toInt.toNat := rfl
    have h2 : ¬ i.toInt < 0 := fun hn => h0 (Int32.lt_iff_toInt_lt.mpr hn)
    omega
  refine xs_op (y := 29) rfl rfl ?_
  refine xs_op rfl rfl ?_
  refine xs_op rfl (z_xln ha) ?_
  refine xs_c0 rfl (as := [.int i, .int (Int32.ofNat (zsp a0).length)]) (rest := []) rfl rfl rfl (Nat.le_of_ble_eq_true rfl) (Nat.le_of_ble_eq_true rfl) (by decide) (z30 h0 hi) ?_
  refine xs_op rfl rfl ?_
  refine xs_op rfl rfl ?_
  refine xs_op rfl (z_xba ha hj h0 hN) ?_
  refine xs_op rfl rfl ?_
  refine xs_op rfl rfl ?_
  refine xs_op rfl rfl ?_
  exact xs_ret5 rfl hc
theorem zD25_ok (hd : 8 ≤ d) (a0 : Nat) (μ : xe_Mem) (hT : zT P μ0 μ) : zK P μ0 δ d 25 0 (xe_init [.ref a0] (xM_L 25)) [] μ (zD25 a0 μ) := by
  obtain ⟨d, rfl⟩ : ∃ d', d = d' + 1 := ⟨d - 1, by omega⟩
  refine zK_ite (fun ha => ?_) (fun _ => zK_no)
  intro o μ' e
  cases e
  refine ⟨?_, hT⟩
  refine xs_op (y := 25) rfl rfl ?_
  refine xs_op rfl (if_pos ha) ?_
  refine xs_op rfl (z_xln ha) ?_
  refine xs_op rfl rfl ?_
  refine xs_cv rfl (as := [.ref a0]) (rest := [.int (Int32.ofNat (zsp a0).length)]) rfl rfl (ze_rcvT ha) (Nat.le_of_ble_eq_true rfl) (Nat.le_of_ble_eq_true rfl) (by decide) (z26 ha) ?_
  refine xs_op rfl rfl ?_
  exact xs_ret1 rfl
theorem zD27_ok (hd : 8 ≤ d) (a0 : Nat) (a1 : Int32) (μ : xe_Mem) (hT : zT P μ0 μ) : zK P μ0 δ d 27 0 (xe_init [.ref a0, .int a1] (xM_L 27)) [] μ (zD27 a0 a1 μ) := by
  obtain ⟨d, rfl⟩ : ∃ d', d = d' + 3 := ⟨d - 3, by omega⟩
  refine zK_ite (fun ha => ?_) (fun _ => zK_no)
  refine zK_x (fun j hj h0 hN => ?_)
  refine zK_ite (fun hc => ?_) (fun _ => zK_no)
  intro o μ' e
  cases e
  refine ⟨?_, hT⟩
  refine xs_op (y := 27) rfl rfl ?_
  refine xs_cv rfl (as := [.ref a0]) (rest := []) rfl rfl (ze_rcvT ha) (Nat.le_of_ble_eq_true rfl) (Nat.le_of_ble_eq_true rfl) (by decide) (z28 ha) ?_
  refine xs_ifeqF rfl (by decide) ?_
  refine xs_op rfl rfl ?_
  refine xs_op rfl (if_pos ha) ?_
  refine xs_op rfl rfl ?_
  refine xs_cv rfl (as := [.ref (1000060 + (a0 - 1000031)), .int a1]) (rest := []) rfl rfl rfl (Nat.le_of_ble_eq_true rfl) (Nat.le_of_ble_eq_true rfl) (by decide) (z29 ha hj h0 hN hc) ?_
  exact xs_ret5 rfl hc
end
