/-! what never changes once both objects stand; steps over fields and arrays -/
theorem xv_lk {α β : Type} [BEq α] [LawfulBEq α] {l : List (α × β)} {a : α} {b : β} (h : l.lookup a = some b) : (a, b) ∈ l := by
  induction l with
  | nil => simp at h
  | cons q l ih =>
    obtain ⟨c, e⟩ := q
    rw [List.lookup_cons] at h
    split at h
    · rename_i hq
      have := eq_of_beq hq
      cases h
      subst this
      exact List.mem_cons_self
    · exact List.mem_cons_of_mem _ (ih h)
theorem xv_zi {α : Type} (l : List (List α)) {a : Nat} (ha : a < l.length) : (l.getD a [], a) ∈ l.zipIdx := by
  rw [List.mem_zipIdx_iff_getElem?]
  simp [List.getD_eq_getElem?_getD, List.getElem?_eq_getElem ha]
theorem xv_zn {α : Type} (l : List (List α)) {a : Nat} (ha : ¬ a < l.length) : l.getD a [] = [] := by
  rw [List.getD_eq_getElem?_getD, List.getElem?_eq_none (by omega)]
  rfl
theorem xv_Sl : xv_S.length = 265 := by decide +kernel
theorem xv_rl : xv_rt.length = 265 := by decide +kernel
/-- c more cells, of six slots each, at the most -/
def xF (c : Nat) (μ : xe_Mem) : Prop := (∃ g, xe_sh μ = xv_S ++ g) ∧ (∀ a j b, (xv_rt.getD a []).lookup j = some b → xe_R μ a j = some b) ∧ (xe_sh μ).length ≤ 265 + c ∧ xe_sl μ ≤ 63779 + 6 * c
section
variable {c : Nat} {μ : xe_Mem}
theorem xF_sh (h : xF c μ) {a : Nat} {s : xe_Sh} (ha : xv_S[a]? = some s) : (xe_sh μ)[a]? = some s := by
  obtain ⟨⟨g, hg⟩, -⟩ := h
  rw [hg, List.getElem?_append_left (List.getElem?_eq_some_iff.mp ha).1]
  exact ha
theorem xF_r (h : xF c μ) {a j b : Nat} (hb : (xv_rt.getD a []).lookup j = some b) : xe_R μ a j = some b := h.2.1 a j b hb
theorem xF_len (h : xF c μ) (hc : c ≤ 512) : (xe_sh μ).length < xg_CT := by
  have h1 := h.2.2.1
  have : xg_CT = 600000 := rfl
  omega
theorem xF_sl (h : xF c μ) (hc : c ≤ 512) : xe_sl μ + 6 ≤ xg_ST := by
  have h1 := h.2.2.2
  have : xg_ST = 7290000 := rfl
  omega
theorem xF_setI (h : xF c μ) {a j : Nat} {v : Int32} : xF c (xe_setI μ a j v) := h
theorem xF_setL (h : xF c μ) {a j : Nat} {v : Int64} : xF c (xe_setL μ a j v) := h
theorem xF_setR (h : xF c μ) {a j : Nat} {v : Option Nat} (hn : (xv_rt.getD a []).lookup j = none) : xF c (xe_setR μ a j v) := by
  refine ⟨h.1, fun b i t ht => ?_, h.2.2⟩
  show xe_u _ a j v b i = some t
  unfold xe_u
  split
  · rename_i hc
    rw [hc.1, hc.2, hn] at ht
    cases ht
  · exact h.2.1 b i t ht
theorem xF_exc (h : xF c μ) {ci : Nat} : xF (c + 1) (xe_add μ (.inl ci) 6) := by
  obtain ⟨⟨g, hg⟩, hr, hl, hs⟩ := h
  have hlen : 265 ≤ μ.1.length := by
    rw [show μ.1 = _ from hg, List.length_append, xv_Sl]
    omega
  refine ⟨⟨g ++ [.inl ci], ?_⟩, fun a j b hb => ?_, ?_, ?_⟩
  · show xe_sh μ ++ [_] = _
    rw [hg, List.append_assoc]
  · show xe_w μ.2.2.2.1 μ.1.length (fun _ => none) a j = some b
    have ha : a < 265 := by
      refine Nat.lt_of_not_le (fun h265 => ?_)
      rw [xv_zn _ (by rw [xv_rl]; omega)] at hb
      cases hb
    rw [xe_w_ne _ _ (by omega)]
    exact hr a j b hb
  · show (xe_sh μ ++ [_]).length ≤ _
    rw [List.length_append]
    show (xe_sh μ).length + 1 ≤ _
    omega
  · show xe_sl μ + 6 ≤ _
    omega
end
theorem xF_0 : xF 0 xv_0 := by
  have h := xv_ok
  unfold xv_chk at h
  simp only [Bool.and_eq_true, decide_eq_true_eq, List.all_eq_true] at h
  obtain ⟨⟨⟨⟨h1, h2⟩, h3⟩, h4⟩, h5⟩ := h
  refine ⟨⟨[], by rw [List.append_nil]; exact h1⟩, fun a j b hb => ?_, by rw [show xe_sh xv_0 = xv_S from h1, xv_Sl]; omega, by show xv_0.2.2.2.2 ≤ _; omega⟩
  have hm := xv_lk hb
  by_cases ha : a < xv_rt.length
  · have h9 := h3 (xv_rt.getD a [], a) (xv_zi xv_rt ha) (j, b) hm
    exact h9
  · rw [xv_zn _ ha] at hm
    cases hm
theorem xI_0 {a j : Nat} {v : Int32} (hb : (xv_it.getD a []).lookup j = some v) : xe_I xv_0 a j = v := by
  have h := xv_ok
  unfold xv_chk at h
  simp only [Bool.and_eq_true, decide_eq_true_eq, List.all_eq_true] at h
  obtain ⟨⟨⟨⟨h1, h2⟩, h3⟩, h4⟩, h5⟩ := h
  have hm := xv_lk hb
  by_cases ha : a < xv_it.length
  · have h9 := h4 (xv_it.getD a [], a) (xv_zi xv_it ha) (j, v) hm
    exact h9
  · rw [xv_zn _ ha] at hm
    cases hm
section
variable {δ : xe_Dy} {d y k : Nat} {ls : xe_Ls} {r : List Value} {μ μ' : xe_Mem} {o : xe_Out}
theorem xs_gI {ci j a : Nat} (hi : (xM_C δ y)[k]? = some (.inl (xe_gtI ci j))) (hs : (xe_sh μ)[a]? = some (.inl ci)) (h : xs_G δ d y (k + 1) ls (.int (xe_I μ a j) :: r) μ o μ') : xs_G δ d y k ls (.ref a :: r) μ o μ' := xs_op hi (if_pos hs) h
/-- an int field whose value is known -/
theorem xs_gIv {ci j a : Nat} {v : Int32} (hi : (xM_C δ y)[k]? = some (.inl (xe_gtI ci j))) (hs : (xe_sh μ)[a]? = some (.inl ci)) (hv : xe_I μ a j = v) (h : xs_G δ d y (k + 1) ls (.int v :: r) μ o μ') : xs_G δ d y k ls (.ref a :: r) μ o μ' := xs_gI hi hs (by rw [hv]; exact h)
theorem xs_gR {ci j a b : Nat} (hi : (xM_C δ y)[k]? = some (.inl (xe_gtR ci j))) (hs : (xe_sh μ)[a]? = some (.inl ci)) (hb : xe_R μ a j = some b) (h : xs_G δ d y (k + 1) ls (.ref b :: r) μ o μ') : xs_G δ d y k ls (.ref a :: r) μ o μ' := xs_op hi (if_pos hs) (by rw [hb]; exact h)
theorem xs_gN {ci j a : Nat} (hi : (xM_C δ y)[k]? = some (.inl (xe_gtR ci j))) (hs : (xe_sh μ)[a]? = some (.inl ci)) (hb : xe_R μ a j = none) (h : xs_G δ d y (k + 1) ls (.null :: r) μ o μ') : xs_G δ d y k ls (.ref a :: r) μ o μ' := xs_op hi (if_pos hs) (by rw [hb]; exact h)
theorem xs_pI {ci j a : Nat} {v : Int32} (hi : (xM_C δ y)[k]? = some (.inl (xe_ptI ci j))) (hs : (xe_sh μ)[a]? = some (.inl ci)) (h : xs_G δ d y (k + 1) ls r (xe_setI μ a j v) o μ') : xs_G δ d y k ls (.int v :: .ref a :: r) μ o μ' := xs_op hi (if_pos hs) h
theorem xs_pZ {ci j a : Nat} {v : Int32} (hi : (xM_C δ y)[k]? = some (.inl (xe_ptZ ci j))) (hs : (xe_sh μ)[a]? = some (.inl ci)) (hv : v = 0 ∨ v = 1) (h : xs_G δ d y (k + 1) ls r (xe_setI μ a j v) o μ') : xs_G δ d y k ls (.int v :: .ref a :: r) μ o μ' := xs_op hi (if_pos ⟨hs, hv⟩) h
theorem xs_pR {ci j a b : Nat} (hi : (xM_C δ y)[k]? = some (.inl (xe_ptR ci j))) (hs : (xe_sh μ)[a]? = some (.inl ci)) (h : xs_G δ d y (k + 1) ls r (xe_setR μ a j (some b)) o μ') : xs_G δ d y k ls (.ref b :: .ref a :: r) μ o μ' := xs_op hi (if_pos hs) h
theorem xs_pN {ci j a : Nat} (hi : (xM_C δ y)[k]? = some (.inl (xe_ptR ci j))) (hs : (xe_sh μ)[a]? = some (.inl ci)) (h : xs_G δ d y (k + 1) ls r (xe_setR μ a j none) o μ') : xs_G δ d y k ls (.null :: .ref a :: r) μ o μ' := xs_op hi (if_pos hs) h
/-- arrays, at a place i that is j -/
theorem xs_aI {t a j N : Nat} {i : Int32} (hi : (xM_C δ y)[k]? = some (.inl (xe_aldI t))) (hs : (xe_sh μ)[a]? = some (.inr (t, N))) (hj : i.toNatClampNeg = j) (h0 : ¬ i < 0) (hN : j < N) (h : xs_G δ d y (k + 1) ls (.int (xe_I μ a j) :: r) μ o μ') : xs_G δ d y k ls (.int i :: .ref a :: r) μ o μ' := by
  refine xs_op hi ?_ h
  unfold xe_aldI
  dsimp only
  rw [hs]
  dsimp only
  rw [hj, if_pos ⟨rfl, fun hc => hc.elim h0 (fun hc => Nat.not_le.mpr hN hc)⟩]
theorem xs_aL {a j N : Nat} {i : Int32} (hi : (xM_C δ y)[k]? = some (.inl xe_aldL)) (hs : (xe_sh μ)[a]? = some (.inr (1, N))) (hj : i.toNatClampNeg = j) (h0 : ¬ i < 0) (hN : j < N) (h : xs_G δ d y (k + 1) ls (.long (xe_L μ a j) :: r) μ o μ') : xs_G δ d y k ls (.int i :: .ref a :: r) μ o μ' := by
  refine xs_op hi ?_ h
  unfold xe_aldL
  dsimp only
  rw [hs]
  dsimp only
  rw [hj, if_pos ⟨rfl, fun hc => hc.elim h0 (fun hc => Nat.not_le.mpr hN hc)⟩]
theorem xs_aR {t a j N : Nat} {i : Int32} {v : Value} (hi : (xM_C δ y)[k]? = some (.inl (xe_aldR t))) (hs : (xe_sh μ)[a]? = some (.inr (t, N))) (hj : i.toNatClampNeg = j) (h0 : ¬ i < 0) (hN : j < N) (hv : va_rf (xe_R μ a j) = v) (h : xs_G δ d y (k + 1) ls (v :: r) μ o μ') : xs_G δ d y k ls (.int i :: .ref a :: r) μ o μ' := by
  subst hv
  refine xs_op hi ?_ h
  unfold xe_aldR
  dsimp only
  rw [hs]
  dsimp only
  rw [hj, if_pos ⟨rfl, fun hc => hc.elim h0 (fun hc => Nat.not_le.mpr hN hc)⟩]
theorem xs_sI {t a j N : Nat} {g : Int32 → Int32} {i x : Int32} (hi : (xM_C δ y)[k]? = some (.inl (xe_astI t g))) (hs : (xe_sh μ)[a]? = some (.inr (t, N))) (hj : i.toNatClampNeg = j) (h0 : ¬ i < 0) (hN : j < N) (h : xs_G δ d y (k + 1) ls r (xe_setI μ a j (g x)) o μ') : xs_G δ d y k ls (.int x :: .int i :: .ref a :: r) μ o μ' := by
  refine xs_op hi ?_ h
  unfold xe_astI
  dsimp only
  rw [hs]
  dsimp only
  rw [hj, if_pos ⟨rfl, fun hc => hc.elim h0 (fun hc => Nat.not_le.mpr hN hc)⟩]
theorem xs_sL {a j N : Nat} {i : Int32} {x : Int64} (hi : (xM_C δ y)[k]? = some (.inl xe_astL)) (hs : (xe_sh μ)[a]? = some (.inr (1, N))) (hj : i.toNatClampNeg = j) (h0 : ¬ i < 0) (hN : j < N) (h : xs_G δ d y (k + 1) ls r (xe_setL μ a j x) o μ') : xs_G δ d y k ls (.long x :: .int i :: .ref a :: r) μ o μ' := by
  refine xs_op hi ?_ h
  unfold xe_astL
  dsimp only
  rw [hs]
  dsimp only
  rw [hj, if_pos ⟨rfl, fun hc => hc.elim h0 (fun hc => Nat.not_le.mpr hN hc)⟩]
end
/-! branches; calls that come back -/
section
variable {δ : xe_Dy} {d y k : Nat} {ls : xe_Ls} {r : List Value} {μ μ1 μ' : xe_Mem} {o : xe_Out}
theorem xs_ifeqT {b : Nat} {x : Int32} (hi : (xM_C δ y)[k]? = some (.inl (xe_ifeq b))) (hx : x = 0) (h : xs_G δ d y b ls r μ o μ') : xs_G δ d y k ls (.int x :: r) μ o μ' := xs_op hi (if_pos hx) h
theorem xs_ifeqF {b : Nat} {x : Int32} (hi : (xM_C δ y)[k]? = some (.inl (xe_ifeq b))) (hx : ¬ x = 0) (h : xs_G δ d y (k + 1) ls r μ o μ') : xs_G δ d y k ls (.int x :: r) μ o μ' := xs_op hi (if_neg hx) h
theorem xs_ifneT {b : Nat} {x : Int32} (hi : (xM_C δ y)[k]? = some (.inl (xe_ifne b))) (hx : ¬ x = 0) (h : xs_G δ d y b ls r μ o μ') : xs_G δ d y k ls (.int x :: r) μ o μ' := xs_op hi (if_pos hx) h
theorem xs_ifneF {b : Nat} {x : Int32} (hi : (xM_C δ y)[k]? = some (.inl (xe_ifne b))) (hx : x = 0) (h : xs_G δ d y (k + 1) ls r μ o μ') : xs_G δ d y k ls (.int x :: r) μ o μ' := xs_op hi (if_neg (fun hn => hn hx)) h
theorem xs_ifltT {b : Nat} {x : Int32} (hi : (xM_C δ y)[k]? = some (.inl (xe_iflt b))) (hx : x < 0) (h : xs_G δ d y b ls r μ o μ') : xs_G δ d y k ls (.int x :: r) μ o μ' := xs_op hi (if_pos hx) h
theorem xs_ifltF {b : Nat} {x : Int32} (hi : (xM_C δ y)[k]? = some (.inl (xe_iflt b))) (hx : ¬ x < 0) (h : xs_G δ d y (k + 1) ls r μ o μ') : xs_G δ d y k ls (.int x :: r) μ o μ' := xs_op hi (if_neg hx) h
theorem xs_ifgeT {b : Nat} {x : Int32} (hi : (xM_C δ y)[k]? = some (.inl (xe_ifge b))) (hx : 0 ≤ x) (h : xs_G δ d y b ls r μ o μ') : xs_G δ d y k ls (.int x :: r) μ o μ' := xs_op hi (if_pos hx) h
theorem xs_ifgeF {b : Nat} {x : Int32} (hi : (xM_C δ y)[k]? = some (.inl (xe_ifge b))) (hx : ¬ 0 ≤ x) (h : xs_G δ d y (k + 1) ls r μ o μ') : xs_G δ d y k ls (.int x :: r) μ o μ' := xs_op hi (if_neg hx) h
theorem xs_ifgtT {b : Nat} {x : Int32} (hi : (xM_C δ y)[k]? = some (.inl (xe_ifgt b))) (hx : 0 < x) (h : xs_G δ d y b ls r μ o μ') : xs_G δ d y k ls (.int x :: r) μ o μ' := xs_op hi (if_pos hx) h
theorem xs_ifgtF {b : Nat} {x : Int32} (hi : (xM_C δ y)[k]? = some (.inl (xe_ifgt b))) (hx : ¬ 0 < x) (h : xs_G δ d y (k + 1) ls r μ o μ') : xs_G δ d y k ls (.int x :: r) μ o μ' := xs_op hi (if_neg hx) h
theorem xs_ifleT {b : Nat} {x : Int32} (hi : (xM_C δ y)[k]? = some (.inl (xe_ifle b))) (hx : x ≤ 0) (h : xs_G δ d y b ls r μ o μ') : xs_G δ d y k ls (.int x :: r) μ o μ' := xs_op hi (if_pos hx) h
theorem xs_ifleF {b : Nat} {x : Int32} (hi : (xM_C δ y)[k]? = some (.inl (xe_ifle b))) (hx : ¬ x ≤ 0) (h : xs_G δ d y (k + 1) ls r μ o μ') : xs_G δ d y k ls (.int x :: r) μ o μ' := xs_op hi (if_neg hx) h
theorem xs_iceqT {b : Nat} {x z : Int32} (hi : (xM_C δ y)[k]? = some (.inl (xe_iceq b))) (hx : x = z) (h : xs_G δ d y b ls r μ o μ') : xs_G δ d y k ls (.int z :: .int x :: r) μ o μ' := xs_op hi (if_pos hx) h
theorem xs_iceqF {b : Nat} {x z : Int32} (hi : (xM_C δ y)[k]? = some (.inl (xe_iceq b))) (hx : ¬ x = z) (h : xs_G δ d y (k + 1) ls r μ o μ') : xs_G δ d y k ls (.int z :: .int x :: r) μ o μ' := xs_op hi (if_neg hx) h
theorem xs_icneT {b : Nat} {x z : Int32} (hi : (xM_C δ y)[k]? = some (.inl (xe_icne b))) (hx : ¬ x = z) (h : xs_G δ d y b ls r μ o μ') : xs_G δ d y k ls (.int z :: .int x :: r) μ o μ' := xs_op hi (if_pos hx) h
theorem xs_icneF {b : Nat} {x z : Int32} (hi : (xM_C δ y)[k]? = some (.inl (xe_icne b))) (hx : x = z) (h : xs_G δ d y (k + 1) ls r μ o μ') : xs_G δ d y k ls (.int z :: .int x :: r) μ o μ' := xs_op hi (if_neg (fun hn => hn hx)) h
theorem xs_icltT {b : Nat} {x z : Int32} (hi : (xM_C δ y)[k]? = some (.inl (xe_iclt b))) (hx : x < z) (h : xs_G δ d y b ls r μ o μ') : xs_G δ d y k ls (.int z :: .int x :: r) μ o μ' := xs_op hi (if_pos hx) h
theorem xs_icltF {b : Nat} {x z : Int32} (hi : (xM_C δ y)[k]? = some (.inl (xe_iclt b))) (hx : ¬ x < z) (h : xs_G δ d y (k + 1) ls r μ o μ') : xs_G δ d y k ls (.int z :: .int x :: r) μ o μ' := xs_op hi (if_neg hx) h
theorem xs_icgeT {b : Nat} {x z : Int32} (hi : (xM_C δ y)[k]? = some (.inl (xe_icge b))) (hx : z ≤ x) (h : xs_G δ d y b ls r μ o μ') : xs_G δ d y k ls (.int z :: .int x :: r) μ o μ' := xs_op hi (if_pos hx) h
theorem xs_icgeF {b : Nat} {x z : Int32} (hi : (xM_C δ y)[k]? = some (.inl (xe_icge b))) (hx : ¬ z ≤ x) (h : xs_G δ d y (k + 1) ls r μ o μ') : xs_G δ d y k ls (.int z :: .int x :: r) μ o μ' := xs_op hi (if_neg hx) h
theorem xs_icgtT {b : Nat} {x z : Int32} (hi : (xM_C δ y)[k]? = some (.inl (xe_icgt b))) (hx : z < x) (h : xs_G δ d y b ls r μ o μ') : xs_G δ d y k ls (.int z :: .int x :: r) μ o μ' := xs_op hi (if_pos hx) h
theorem xs_icgtF {b : Nat} {x z : Int32} (hi : (xM_C δ y)[k]? = some (.inl (xe_icgt b))) (hx : ¬ z < x) (h : xs_G δ d y (k + 1) ls r μ o μ') : xs_G δ d y k ls (.int z :: .int x :: r) μ o μ' := xs_op hi (if_neg hx) h
theorem xs_icleT {b : Nat} {x z : Int32} (hi : (xM_C δ y)[k]? = some (.inl (xe_icle b))) (hx : x ≤ z) (h : xs_G δ d y b ls r μ o μ') : xs_G δ d y k ls (.int z :: .int x :: r) μ o μ' := xs_op hi (if_pos hx) h
theorem xs_icleF {b : Nat} {x z : Int32} (hi : (xM_C δ y)[k]? = some (.inl (xe_icle b))) (hx : ¬ x ≤ z) (h : xs_G δ d y (k + 1) ls r μ o μ') : xs_G δ d y k ls (.int z :: .int x :: r) μ o μ' := xs_op hi (if_neg hx) h
theorem xs_cv {z na rc : Nat} {as rest : List Value} {st : List Value} {v : Value} (hi : (xM_C δ y)[k]? = some (.inr (.inl (z, na, rc)))) (hst : st = as.reverse ++ rest) (hna : as.length = na) (hrc : xe_rcv μ rc as = true) (hsum : (rest.map fun v => v.category).sum ≤ 20) (hl : (xe_l0 as).length ≤ xM_L z) (h33 : xM_L z ≤ 33) (hr : xs_M δ d z as μ (.inl (some v)) μ1) (h : xs_G δ (d + 1) y (k + 1) ls (v :: rest) μ1 o μ') : xs_G δ (d + 1) y k ls st μ o μ' := xs_call hi hst hna hrc hsum hl h33 hr h
theorem xs_c0 {z na rc : Nat} {as rest : List Value} {st : List Value} (hi : (xM_C δ y)[k]? = some (.inr (.inl (z, na, rc)))) (hst : st = as.reverse ++ rest) (hna : as.length = na) (hrc : xe_rcv μ rc as = true) (hsum : (rest.map fun v => v.category).sum ≤ 20) (hl : (xe_l0 as).length ≤ xM_L z) (h33 : xM_L z ≤ 33) (hr : xs_M δ d z as μ (.inl none) μ1) (h : xs_G δ (d + 1) y (k + 1) ls rest μ1 o μ') : xs_G δ (d + 1) y k ls st μ o μ' := xs_call hi hst hna hrc hsum hl h33 hr h
theorem xs_i2d {g : Int32 → Int32 → Int32} {x z : Int32} (hi : (xM_C δ y)[k]? = some (.inl (xe_i2d g))) (hz : ¬ z = 0) (h : xs_G δ d y (k + 1) ls (.int (g x z) :: r) μ o μ') : xs_G δ d y k ls (.int z :: .int x :: r) μ o μ' := xs_op hi (if_neg hz) h
theorem xs_l2d {g : Int64 → Int64 → Int64} {x z : Int64} (hi : (xM_C δ y)[k]? = some (.inl (xe_l2d g))) (hz : ¬ z = 0) (h : xs_G δ d y (k + 1) ls (.long (g x z) :: r) μ o μ') : xs_G δ d y k ls (.long z :: .long x :: r) μ o μ' := xs_op hi (if_neg hz) h
end
