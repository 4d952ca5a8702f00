/-! an expression: what holds for every depth -/
/-- the next token is no sign of the level l or above it, or a second comparison -/
def zNx (μ : xe_Mem) (p l : Nat) (cs : List Bool) : Prop := ∀ q, q < 29 → xe_R μ 4 p = some (1000001 + q) → 18 ≤ q → q ≤ 24 → zlv q < l ∨ (l = 0 ∧ zlv q = 0 ∧ ∃ ct, cs = true :: ct)
def zLo (N P S Lc t : Nat) (tk : Bool) (off a0 : Nat) (ab : Nat → Bool) (T : Int32) (l : Nat) (μ ν : xe_Mem) (p c L dep : Nat) (W : List Nat) (cs : List Bool) (A B : zO) : Prop :=
  (∃ μ' ν' p' c' L' ub' F' g' Pn cs', A = some (.inl none, μ') ∧ B = zC T F' g' ν' ∧ zEA N P S Lc t tk off a0 ab μ' ν' p' c' L' ub' dep Pn W cs' ∧ (∀ q ∈ Pn, 18 ≤ q ∧ q ≤ 24 ∧ l ≤ zlv q) ∧ zNx μ' p' l cs' ∧ (cs' = cs ∨ (l = 0 ∧ ∃ ct, cs = false :: ct ∧ cs' = true :: ct)) ∧ p < p' ∧ c < c' ∧ p' + c = p + c' ∧ L < L' + Pn.length ∧ L' + Pn.length + p ≤ L + p' ∧ L ≤ L' ∧ zEp P S μ' L (L' + Pn.length) ∧ zfI (zXc L) μ μ' ∧ zfI (zXr (L + off) t) ν ν' ∧ xe_sh μ' = xe_sh μ ∧ xe_sl μ' = xe_sl μ ∧ 200 ≤ F' + c' ∧ 192 + dep ≤ g') ∨ zFl N L (L + off) t μ ν A B
def zWo (W : List Nat) (l : Nat) : Prop := W = [] ∨ ∃ x W', W = x :: W' ∧ x < 256 ∧ x ≠ 95 ∧ ztg x ≤ l
def zSo (N P S Lc t : Nat) (tk : Bool) (off a0 : Nat) (ab : Nat → Bool) (T : Int32) (n : Nat) : Prop := ∀ (μ ν : xe_Mem) (p c L ub dep : Nat) (W : List Nat) (cs : List Bool) (F f : Nat), 5 * (8 - dep) + 1 ≤ n → zEA N P S Lc t tk off a0 ab μ ν p c L ub dep [] W cs → 200 ≤ F + c → 200 ≤ f + c → zOo N P S Lc t tk off a0 ab T μ ν p c L dep W cs ((zKE n).2 (nI dep) μ) (zA T F f ν)
def zSl (N P S Lc t : Nat) (tk : Bool) (off a0 : Nat) (ab : Nat → Bool) (T : Int32) (n : Nat) : Prop := ∀ (l : Nat), l ≤ 3 → ∀ (μ ν : xe_Mem) (p c L ub dep : Nat) (W : List Nat) (cs : List Bool) (F f : Nat), 5 * (8 - dep) + 5 ≤ n + l → zEA N P S Lc t tk off a0 ab μ ν p c L ub dep [] W cs → zWo W l → (l = 0 → ∃ ct, cs = false :: ct) → 200 ≤ F + c → 200 ≤ f + c → zLo N P S Lc t tk off a0 ab T l μ ν p c L dep W cs ((zKE n).1 (nI l) (nI dep) μ) (zA T F f ν)
section
variable {N P S Lc t : Nat} {tk : Bool} {off a0 : Nat} {ab : Nat → Bool} {T : Int32} {μ ν : xe_Mem} {p c L ub dep : Nat} {W : List Nat} {cs : List Bool} {F f : Nat}
/-- both refuse here and now -/
theorem z_here (h : zEA N P S Lc t tk off a0 ab μ ν p c L ub dep [] W cs) {A B : zO} (hA : A = zq_thr 12 μ) {ν' : xe_Mem} (hB : B = zint 0 ν') (h10 : xe_I ν' 203 10 = nI p) (hg : zfI (zXf (L + off) t) ν ν') : zFl N L (L + off) t μ ν A B := by
  obtain ⟨hx, ⟨e1, -, -, e4⟩, -, -, -, -, b1, -, -, -, -, -, -, -, -, -, b11⟩ := h
  exact ⟨μ, ν', p, by rw [hA, zthr hx.2.2.2.2.1 hx.2.2.2.2.2], hB, ⟨b1, ub, b11, e4⟩, e1, h10, zfI_rfl, hg, rfl, rfl⟩
/-- a minus is passed: both go on to its operand -/
theorem z_min1 (h : zEA N P S Lc t tk off a0 ab μ ν p c L ub dep [] W cs) (hN : p + 1 < N) (hc : c < 60) (hd : dep < 8) : zEA N P S Lc t tk off a0 ab (ztk μ p c) (zrtk (zpsh ν W.length dep 95) p c) (p + 1) (c + 1) L ub (dep + 1) [] (95 :: W) cs ∧ zfI (zXc L) μ (ztk μ p c) ∧ zfI (zXr (L + off) t) ν (zrtk (zpsh ν W.length dep 95) p c) := by
  obtain ⟨hx, ⟨e1, e2, e3, e4⟩, ⟨r1, r2, r3, r4, r5, r6, r7, r8⟩, hcd, -, hub, b1, b2, b3, b4, b5, b6, b7, b8, b9, b10, b11⟩ := h
  have F1 : zfI (zXc L) μ (ztk μ p c) := ztk_f
  have F2 : zfI (zXr (L + off) t) ν (zrtk (zpsh ν W.length dep 95) p c) := zfI_t zpsh_f zrtk_f
  simp only [List.length_nil, Nat.zero_add, Nat.add_zero] at b2 b4 b8 e3
  have t2 : ∀ a j, (a ≠ 203 ∨ (j ≠ 59 ∧ j ≠ 10)) → xe_I (zrtk (zpsh ν W.length dep 95) p c) a j = xe_I (zpsh ν W.length dep 95) a j := fun a j q => by
    unfold zrtk
    rw [xu_In (by omega), xu_In (by omega)]
  refine ⟨⟨zCx_f hx F1 F2 rfl rfl, ⟨xu_I, ?_, ?_, ?_⟩, ⟨xu_I, ?_, ?_, ?_, ?_, ?_, ?_, ?_⟩, zCd_f hcd (Nat.le_refl L) (Nat.le_refl _) F1 F2, trivial, fun htk q hq => ?_, ?_⟩, F1, F2⟩
  · unfold ztk
    rw [xu_In (by omega)]
    exact xu_I
  · unfold ztk
    rw [xu_In (by omega), xu_In (by omega)]
    exact e3
  · unfold ztk
    rw [xu_In (by omega), xu_In (by omega)]
    exact e4
  · unfold zrtk
    rw [xu_In (by omega)]
    exact xu_I
  · rw [t2 203 60 (Or.inr (by decide))]; exact zpsh_60
  · rw [t2 203 61 (Or.inr (by decide))]; exact zpsh_61
  · have : xe_I (zrtk (zpsh ν W.length dep 95) p c) 248 = va_up (xe_I ν 248) W.length (nI 95) := by
      rw [← zpsh_r (ν := ν) (dep := dep)]
      exact funext fun j => t2 248 j (Or.inl (by decide))
    rw [this]
    exact ⟨va_up_self _ _ _, zWt_up W r5 (Nat.le_refl _)⟩
  · rw [t2 203 64 (Or.inr (by decide)), zpsh_o (by decide) (Or.inr (by decide))]; exact r6
  · have : xe_I (zrtk (zpsh ν W.length dep 95) p c) 249 = xe_I ν 249 := funext fun j => by rw [t2 249 j (Or.inl (by decide)), zpsh_o (by decide) (Or.inl (by decide))]
    rw [this]; exact r7
  · rw [t2 203 47 (Or.inr (by decide)), zpsh_o (by decide) (Or.inr (by decide))]; exact r8
  · rw [t2 226 (12 * t + q) (Or.inl (by decide)), zpsh_o (by decide) (Or.inl (by decide))]
    exact hub htk q hq
  · show zBd N (p + 1) (c + 1) L (dep + 1) off a0 t ub (0 + (95 :: W).length) cs.length
    rw [List.length_cons]
    exact ⟨hN, by omega, by omega, by omega, by omega, b6, by omega, b8, b9, b10, b11⟩
/-- an operand that is turned: NEGATE in both -/
theorem z_min2 (h : zEA N P S Lc t tk off a0 ab μ ν p c L ub (dep + 1) [] (95 :: W) cs) (hL : L + 1 ≤ p) (hc : c ≤ 60) (hd : cs.length ≤ dep + 1) {g h' : Nat} (hh : 1 ≤ h') : zB T F g h' ν = zB T F g (h' - 1) (zrad (xe_setI (xe_setI ν 203 61 (nI W.length)) 203 60 (nI dep)) (L + off) 5 0) ∧ zEA N P S Lc t tk off a0 ab (zadd μ L 5 0) (zrad (xe_setI (xe_setI ν 203 61 (nI W.length)) 203 60 (nI dep)) (L + off) 5 0) p c (L + 1) ub dep [] W cs ∧ zfI (zXc L) μ (zadd μ L 5 0) ∧ zfI (zXr (L + off) t) ν (zrad (xe_setI (xe_setI ν 203 61 (nI W.length)) 203 60 (nI dep)) (L + off) 5 0) ∧ zD58 5 0 μ = zint (nI L) (zadd μ L 5 0) := by
  obtain ⟨hx, ⟨e1, e2, e3, e4⟩, ⟨r1, r2, r3, r4, r5, r6, r7, r8⟩, hcd, -, hub, b1, b2, b3, b4, b5, b6, b7, b8, b9, b10, b11⟩ := h
  have hN2 := hx.1.2.1
  have F1 : zfI (zXc L) μ (zadd μ L 5 0) := zadd_f
  have F2 : zfI (zXr (L + off) t) ν (zrad (xe_setI (xe_setI ν 203 61 (nI W.length)) 203 60 (nI dep)) (L + off) 5 0) := zfI_t (zfI_t (zfI_s rfl) (zfI_s rfl)) (zfI_w zrad_f zXs_r)
  simp only [List.length_nil, Nat.zero_add, Nat.add_zero, List.length_cons] at b2 b4 b8 e3
  have r4' : xe_I ν 203 61 = nI (W.length + 1) := r4
  refine ⟨?_, ⟨zCx_f hx F1 F2 rfl rfl, ⟨?_, ?_, ?_, ?_⟩, ⟨?_, ?_, ?_, ?_, ?_, ?_, ?_, ?_⟩, ?_, trivial, fun htk q hq => ?_, ?_⟩, F1, F2, z58 e3 (by omega)⟩
  · obtain ⟨h', rfl⟩ : ∃ g, h' = g + 1 := ⟨h' - 1, by omega⟩
    unfold zB
    rw [z_turn (W := W) (by omega) r4' r5.1 r3 r8 (by omega)]
    rfl
  · rw [zadd_o (Or.inl (by decide)) (by decide) (by decide)]; exact e1
  · rw [zadd_o (Or.inl (by decide)) (by decide) (by decide)]; exact e2
  · exact zadd_s
  · rw [zadd_o (Or.inl (by decide)) (by decide) (by decide)]; exact e4
  · rw [zrad_o (Or.inr (by decide)) (by decide) (by decide), xu_In (by omega), xu_In (by omega)]; exact r1
  · rw [zrad_o (Or.inr (by decide)) (by decide) (by decide), xu_In (by omega), xu_In (by omega)]; exact r2
  · rw [zrad_o (Or.inr (by decide)) (by decide) (by decide)]; exact xu_I
  · rw [zrad_o (Or.inr (by decide)) (by decide) (by decide), xu_In (by omega)]; exact xu_I
  · have : xe_I (zrad (xe_setI (xe_setI ν 203 61 (nI W.length)) 203 60 (nI dep)) (L + off) 5 0) 248 = xe_I ν 248 := funext fun j => by rw [zrad_o (Or.inl (by decide)) (by decide) (by decide), xu_In (by omega), xu_In (by omega)]
    rw [this]; exact r5.2
  · rw [zrad_o (Or.inr (by decide)) (by decide) (by decide), xu_In (by omega), xu_In (by omega)]; exact r6
  · have : xe_I (zrad (xe_setI (xe_setI ν 203 61 (nI W.length)) 203 60 (nI dep)) (L + off) 5 0) 249 = xe_I ν 249 := funext fun j => by rw [zrad_o (Or.inl (by decide)) (by decide) (by decide), xu_In (by omega), xu_In (by omega)]
    rw [this]; exact r7
  · rw [zrad_s]
    congr 1
    omega
  · refine zCd_1 (zCd_f hcd (Nat.le_refl L) (Nat.le_refl _) F1 F2) ?_
    rw [zadd_e.1, zrad_e.1]
    exact Or.inr (Or.inl ⟨rfl, rfl⟩)
  · rw [zrad_o (Or.inl (by decide)) (by decide) (by decide), xu_In (by omega), xu_In (by omega)]
    exact hub htk q hq
  · show zBd N p c (L + 1) dep off a0 t ub (0 + W.length) cs.length
    exact ⟨b1, hL, hc, by omega, hd, b6, by omega, by omega, b9, b10, b11⟩
end
