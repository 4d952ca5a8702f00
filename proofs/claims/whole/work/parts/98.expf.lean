/-! an expression: minus and brackets -/
theorem zWt_up {r : Nat → Int32} {k : Nat} {v : Int32} : ∀ W : List Nat, zWt r W → W.length ≤ k → zWt (va_up r k v) W := by
  intro W
  induction W with
  | nil => intro _ _; trivial
  | cons x W ih =>
    intro h hk
    rw [List.length_cons] at hk
    exact ⟨(va_up_ne _ _ (by omega)).trans h.1, ih h.2 (by omega)⟩
theorem zCs_up {r : Nat → Int32} {k : Nat} {v : Int32} : ∀ W : List Bool, zCs r W → W.length ≤ k → zCs (va_up r k v) W := by
  intro W
  induction W with
  | nil => intro _ _; trivial
  | cons x W ih =>
    intro h hk
    rw [List.length_cons] at hk
    exact ⟨(va_up_ne _ _ (by omega)).trans h.1, ih h.2 (by omega)⟩
theorem zPd_f {μ μ' : xe_Mem} {L' : Nat} (hf : zfI (zXc L') μ μ') : ∀ (Pn : List Nat) (L : Nat), L + Pn.length ≤ L' → zPd μ L Pn → zPd μ' L Pn := by
  intro Pn
  induction Pn with
  | nil => intro _ _ _; trivial
  | cons q Q ih =>
    intro L hl h
    rw [List.length_cons] at hl
    refine ⟨?_, ?_, ih (L + 1) (by omega) h.2.2⟩
    · rw [(hf 9 (by decide)).1 L (zXc_9 (by omega)).1]; exact h.1
    · rw [(hf 10 (by decide)).1 L (zXc_9 (by omega)).2]; exact h.2.1
theorem zPd_1 {μ : xe_Mem} {q : Nat} : ∀ (Pn : List Nat) (L : Nat), zPd μ L Pn → xe_I μ 9 (L + Pn.length) = zac q → xe_I μ 10 (L + Pn.length) = 0 → zPd μ L (Pn ++ [q]) := by
  intro Pn
  induction Pn with
  | nil => intro L _ h1 h2; exact ⟨h1, h2, trivial⟩
  | cons x Q ih =>
    intro L h h1 h2
    rw [List.length_cons, show L + (Q.length + 1) = L + 1 + Q.length by omega] at h1 h2
    exact ⟨h.1, h.2.1, ih (L + 1) h.2.2 h1 h2⟩
theorem zCd_p {μ ν : xe_Mem} {off a0 : Nat} : ∀ (Pn : List Nat) (L : Nat), (∀ q ∈ Pn, 18 ≤ q ∧ q ≤ 24) → zCd μ ν off a0 L → zPd μ L Pn → zTw ν (L + off) Pn → zCd μ ν off a0 (L + Pn.length) := by
  intro Pn
  induction Pn with
  | nil => intro L _ h _ _; exact h
  | cons q Q ih =>
    intro L hq h h1 h2
    rw [List.length_cons, show L + (Q.length + 1) = L + 1 + Q.length by omega]
    refine ih (L + 1) (fun x hx => hq x (List.mem_cons_of_mem _ hx)) (zCd_1 h ?_) h1.2.2 ?_
    · have := hq q List.mem_cons_self
      exact Or.inr (Or.inr (Or.inl ⟨q, this.1, this.2, h1.1, h2.1, h2.2.1⟩))
    · rw [show L + 1 + off = L + off + 1 by omega]
      exact h2.2.2
section
variable {N P S Lc t : Nat} {tk : Bool} {off a0 : Nat} {ab : Nat → Bool} {T : Int32} {μ ν : xe_Mem} {p c L ub dep : Nat} {W : List Nat} {cs : List Bool} {F f : Nat}
theorem zTk_r {ν' : xe_Mem} {q pl : Nat} (h : zTk μ ν p q pl) (h7 : xe_I ν' 207 p = xe_I ν 207 p) (h8 : xe_I ν' 208 p = xe_I ν 208 p) (h9 : xe_L ν' 209 p = xe_L ν 209 p) : zTk μ ν' p q pl := by
  obtain ⟨a1, a2, a3, a4, a5⟩ := h
  exact ⟨a1, a2, by rw [h8]; exact a3, a4, by rw [h7, h9]; exact a5⟩
/-- the reference's memory behind a minus that is pushed -/
def zpsh (ν : xe_Mem) (W dep x : Nat) : xe_Mem := xe_setI (xe_setI (xe_setI ν 203 60 (nI (dep + 1))) 248 W (nI x)) 203 61 (nI (W + 1))
theorem zpsh_f {U w x : Nat} : zfI (zXr U t) ν (zpsh ν w dep x) := zfI_t (zfI_t (zfI_s rfl) (zfI_s rfl)) (zfI_s rfl)
theorem zpsh_o {w x a j : Nat} (h : a ≠ 248) (h2 : a ≠ 203 ∨ (j ≠ 60 ∧ j ≠ 61)) : xe_I (zpsh ν w dep x) a j = xe_I ν a j := by
  unfold zpsh
  rw [xu_In (by omega), xu_In (by omega), xu_In (by omega)]
theorem zpsh_r {w x : Nat} : xe_I (zpsh ν w dep x) 248 = va_up (xe_I ν 248) w (nI x) := by
  unfold zpsh
  rw [zr_II, if_neg (by decide), zr_II, if_pos rfl, zr_II, if_neg (by decide)]
theorem zpsh_60 {w x : Nat} : xe_I (zpsh ν w dep x) 203 60 = nI (dep + 1) := by
  unfold zpsh
  rw [xu_In (by omega), xu_In (by omega)]
  exact xu_I
theorem zpsh_61 {w x : Nat} : xe_I (zpsh ν w dep x) 203 61 = nI (w + 1) := xu_I
/-- operand's minus or bracket, not the ninth: what is pushed -/
theorem z161_8 {q pl : Nat} (hq : q = 21 ∨ q = 16) (hk : zTk μ ν p q pl) (r1 : xe_I ν 203 10 = nI p) (h3 : p < 3001) (r3 : xe_I ν 203 60 = nI dep) (hd : dep < 8) (r4 : xe_I ν 203 61 = nI W.length) (hW : W.length < 70) {c0 : Int32 → xe_Mem → zO} : zD161_8 c0 T ν = if q = 21 then zD161_55 c0 T (zpsh ν W.length dep 95) else zq_m (xe_setI (zpsh ν W.length dep 40) 203 64 (xe_I (zpsh ν W.length dep 40) 203 64 + 1)) fun m82 => zq_x (xe_I m82 203 64) 12 fun j84 => zq_m (xe_setI m82 249 j84 0) fun m88 => zD161_55 c0 T m88 := by
  have e1 : xe_I (xe_setI ν 203 60 (nI (dep + 1))) 203 10 = nI p := (xu_In (by omega)).trans r1
  have e4 : xe_I (xe_setI ν 203 60 (nI (dep + 1))) 203 61 = nI W.length := (xu_In (by omega)).trans r4
  have k1 : zTk μ (xe_setI ν 203 60 (nI (dep + 1))) p q pl := zTk_r hk (xu_In (by omega)) (xu_In (by omega)) rfl
  have k2 : ∀ x, zTk μ (zpsh ν W.length dep x) p q pl := fun x => zTk_r hk (zpsh_o (by decide) (Or.inl (by decide))) (zpsh_o (by decide) (Or.inl (by decide))) rfl
  have e2 : ∀ x, xe_I (zpsh ν W.length dep x) 203 10 = nI p := fun x => (zpsh_o (by decide) (Or.inr (by decide))).trans r1
  unfold zD161_8
  simp only [zq_m]
  rw [r3, if_neg (fun e => by
    rw [show (8 : Int32) = nI 8 from rfl, zi_eq (by omega) (by decide)] at e
    omega), nI_1, show zD147 45 (xe_setI ν 203 60 (nI (dep + 1))) = _ from z147 e1 h3 k1 (K := 21) (by decide) (by decide), zcI_ok, e4]
  have e5 : ∀ x, xe_I (xe_setI (xe_setI ν 203 60 (nI (dep + 1))) 248 W.length x) 203 61 = nI W.length := fun x => (xu_In (by omega)).trans e4
  rcases hq with rfl | rfl
  · rw [if_neg (by decide), if_pos rfl]
    unfold zD161_32
    simp only [zq_m]
    rw [zx_nI hW (by decide), e5, nI_1]
    show zq_cI (zD147 40 (zpsh ν W.length dep 95)) _ = _
    rw [show zD147 40 (zpsh ν W.length dep 95) = _ from z147 (e2 95) h3 (k2 95) (K := 16) (by decide) (by decide), zcI_ok, if_pos (by decide)]
  · rw [if_pos (by decide), if_neg (by decide)]
    unfold zD161_32
    simp only [zq_m]
    rw [zx_nI hW (by decide), e5, nI_1]
    show zq_cI (zD147 40 (zpsh ν W.length dep 40)) _ = _
    rw [show zD147 40 (zpsh ν W.length dep 40) = _ from z147 (e2 40) h3 (k2 40) (K := 16) (by decide) (by decide), zcI_ok, if_neg (by decide)]
    rfl
theorem z161_8n (r3 : xe_I ν 203 60 = nI 8) {c0 : Int32 → xe_Mem → zO} : zD161_8 c0 T ν = zint 0 (xe_setI ν 203 11 1) := by
  unfold zD161_8
  rw [r3, if_pos (show nI 8 = (8 : Int32) from rfl), z150, zcI_ok]
  exact zz_0
end
