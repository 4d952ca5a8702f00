/-! running: what both hold while they follow a row of instructions -/
def zXfo (P v5 a j : Nat) : Prop := (a = 8 ∧ (j = 4 ∨ j = 6)) ∨ a = 11 ∨ a = 12 ∨ a = 13 ∨ (a = v5 ∧ j < P)
def zYfo (a j : Nat) : Prop := (251 ≤ a ∧ a ≤ 254) ∧ j = j
/-- a row of twelve numbers of the class -/
def zVv (v : Nat) : Prop := 64 ≤ v ∧ v < 201 ∧ xv_S[v]? = some (.inr (0, 12))
def zLk (P v3 v5 : Nat) (μ0 ν0 μ ν : xe_Mem) (h rd : Nat) : Prop := (xe_I μ 8 4 = nI h ∧ xe_I μ 8 6 = nI rd ∧ xe_sh μ = xe_sh μ0) ∧ (∀ j, j < h → xe_I μ 11 j = xe_I ν 253 j) ∧ (∀ j, j < rd → xe_I μ 12 j = xe_I ν 254 j) ∧ (∀ j, j < 6 → xe_I μ 13 j = xe_I ν 251 j) ∧ (∀ j, j < P → xe_I μ v3 j = xe_I ν 250 j) ∧ (∀ j, j < P → xe_I μ v5 j = xe_I ν 252 j) ∧ (∀ j, j < 4 → xe_I μ 201 j = xe_I ν 257 j) ∧ zfG (zXfo P v5) zZu zZu μ0 μ ∧ zfG zYfo zZu zZu ν0 ν
section
variable {μ0 ν0 μ ν : xe_Mem} {x : Int32} {P h rd v3 v5 p : Nat}
theorem zLk_push (hL : zLk P v3 v5 μ0 ν0 μ ν h rd) (h3 : zVv v3) (h5 : zVv v5) : zLk P v3 v5 μ0 ν0 (xe_setI (xe_setI μ 11 h x) 8 4 (nI (h + 1))) (xe_setI ν 253 h x) (h + 1) rd := by
  obtain ⟨⟨a1, a2⟩, a3, a4, a5, a6, a7, a8, a9, a10⟩ := hL
  obtain ⟨c1, c2, -⟩ := h3
  obtain ⟨d1, d2, -⟩ := h5
  refine ⟨⟨xu_I, ?_⟩, fun j hj => ?_, fun j hj => ?_, fun j hj => ?_, fun j hj => ?_, fun j hj => ?_, fun j hj => ?_, zfG_t a9 (zfG_t (zfG_I (by unfold zXfo; omega)) (zfG_I (by unfold zXfo; omega))), zfG_t a10 (zfG_I (by unfold zYfo; omega))⟩
  · rw [xu_In (by omega), xu_In (by omega)]; exact a2
  · rw [xu_In (by omega)]
    by_cases e : j = h
    · subst e; rw [xu_I, xu_I]
    · rw [xu_In (by omega), xu_In (by omega)]; exact a3 j (by omega)
  · rw [xu_In (by omega), xu_In (by omega), xu_In (by omega)]; exact a4 j hj
  · rw [xu_In (by omega), xu_In (by omega), xu_In (by omega)]; exact a5 j hj
  · rw [xu_In (by omega), xu_In (by omega), xu_In (by omega)]; exact a6 j hj
  · rw [xu_In (by omega), xu_In (by omega), xu_In (by omega)]; exact a7 j hj
  · rw [xu_In (by omega), xu_In (by omega), xu_In (by omega)]; exact a8 j hj
theorem zLk_pop (hL : zLk P v3 v5 μ0 ν0 μ ν (h + 1) rd) (h3 : zVv v3) (h5 : zVv v5) : zLk P v3 v5 μ0 ν0 (xe_setI μ 8 4 (nI h)) ν h rd := by
  obtain ⟨⟨a1, a2⟩, a3, a4, a5, a6, a7, a8, a9, a10⟩ := hL
  obtain ⟨c1, c2, -⟩ := h3
  obtain ⟨d1, d2, -⟩ := h5
  refine ⟨⟨xu_I, ?_⟩, fun j hj => ?_, fun j hj => ?_, fun j hj => ?_, fun j hj => ?_, fun j hj => ?_, fun j hj => ?_, zfG_t a9 (zfG_I (by unfold zXfo; omega)), a10⟩
  · rw [xu_In (by omega)]; exact a2
  · rw [xu_In (by omega)]; exact a3 j (by omega)
  · rw [xu_In (by omega)]; exact a4 j hj
  · rw [xu_In (by omega)]; exact a5 j hj
  · rw [xu_In (by omega)]; exact a6 j hj
  · rw [xu_In (by omega)]; exact a7 j hj
  · rw [xu_In (by omega)]; exact a8 j hj
theorem zLk_port (hL : zLk P v3 v5 μ0 ν0 μ ν h rd) (h5 : zVv v5) (hne : v3 ≠ v5) (hp : p < P) : zLk P v3 v5 μ0 ν0 (xe_setI μ v5 p x) (xe_setI ν 252 p x) h rd := by
  obtain ⟨⟨a1, a2⟩, a3, a4, a5, a6, a7, a8, a9, a10⟩ := hL
  obtain ⟨d1, d2, -⟩ := h5
  refine ⟨⟨?_, ?_⟩, fun j hj => ?_, fun j hj => ?_, fun j hj => ?_, fun j hj => ?_, fun j hj => ?_, fun j hj => ?_, zfG_t a9 (zfG_I (by unfold zXfo; omega)), zfG_t a10 (zfG_I (by unfold zYfo; omega))⟩
  · rw [xu_In (by omega)]; exact a1
  · rw [xu_In (by omega)]; exact a2
  · rw [xu_In (by omega), xu_In (by omega)]; exact a3 j hj
  · rw [xu_In (by omega), xu_In (by omega)]; exact a4 j hj
  · rw [xu_In (by omega), xu_In (by omega)]; exact a5 j hj
  · rw [xu_In (by omega), xu_In (by omega)]; exact a6 j hj
  · by_cases e : j = p
    · subst e; rw [xu_I, xu_I]
    · rw [xu_In (by omega), xu_In (by omega)]; exact a7 j hj
  · rw [xu_In (by omega), xu_In (by omega)]; exact a8 j hj
theorem zLk_loc (hL : zLk P v3 v5 μ0 ν0 μ ν h rd) (h3 : zVv v3) (h5 : zVv v5) : zLk P v3 v5 μ0 ν0 (xe_setI μ 13 p x) (xe_setI ν 251 p x) h rd := by
  obtain ⟨⟨a1, a2⟩, a3, a4, a5, a6, a7, a8, a9, a10⟩ := hL
  obtain ⟨c1, c2, -⟩ := h3
  obtain ⟨d1, d2, -⟩ := h5
  refine ⟨⟨?_, ?_⟩, fun j hj => ?_, fun j hj => ?_, fun j hj => ?_, fun j hj => ?_, fun j hj => ?_, fun j hj => ?_, zfG_t a9 (zfG_I (by unfold zXfo; omega)), zfG_t a10 (zfG_I (by unfold zYfo; omega))⟩
  · rw [xu_In (by omega)]; exact a1
  · rw [xu_In (by omega)]; exact a2
  · rw [xu_In (by omega), xu_In (by omega)]; exact a3 j hj
  · rw [xu_In (by omega), xu_In (by omega)]; exact a4 j hj
  · by_cases e : j = p
    · subst e; rw [xu_I, xu_I]
    · rw [xu_In (by omega), xu_In (by omega)]; exact a5 j hj
  · rw [xu_In (by omega), xu_In (by omega)]; exact a6 j hj
  · rw [xu_In (by omega), xu_In (by omega)]; exact a7 j hj
  · rw [xu_In (by omega), xu_In (by omega)]; exact a8 j hj
/-- the round rd is set, and r' rounds are open then -/
theorem zLk_rd {r' : Nat} (hL : zLk P v3 v5 μ0 ν0 μ ν h rd) (h3 : zVv v3) (h5 : zVv v5) (hr : r' ≤ p + 1) (hr2 : p ≤ rd) : zLk P v3 v5 μ0 ν0 (xe_setI (xe_setI μ 12 p x) 8 6 (nI r')) (xe_setI ν 254 p x) h r' := by
  obtain ⟨⟨a1, a2⟩, a3, a4, a5, a6, a7, a8, a9, a10⟩ := hL
  obtain ⟨c1, c2, -⟩ := h3
  obtain ⟨d1, d2, -⟩ := h5
  refine ⟨⟨?_, xu_I, a2.2⟩, fun j hj => ?_, fun j hj => ?_, fun j hj => ?_, fun j hj => ?_, fun j hj => ?_, fun j hj => ?_, zfG_t a9 (zfG_t (zfG_I (by unfold zXfo; omega)) (zfG_I (by unfold zXfo; omega))), zfG_t a10 (zfG_I (by unfold zYfo; omega))⟩
  · rw [xu_In (by omega), xu_In (by omega)]; exact a1
  · rw [xu_In (by omega), xu_In (by omega), xu_In (by omega)]; exact a3 j hj
  · rw [xu_In (by omega)]
    by_cases e : j = p
    · subst e; rw [xu_I, xu_I]
    · rw [xu_In (by omega), xu_In (by omega)]; exact a4 j (by omega)
  · rw [xu_In (by omega), xu_In (by omega), xu_In (by omega)]; exact a5 j hj
  · rw [xu_In (by omega), xu_In (by omega), xu_In (by omega)]; exact a6 j hj
  · rw [xu_In (by omega), xu_In (by omega), xu_In (by omega)]; exact a7 j hj
  · rw [xu_In (by omega), xu_In (by omega), xu_In (by omega)]; exact a8 j hj
end
/-- both go s steps on -/
def zGo (v3 v5 b0 off : Nat) (v1 : Int32) (i h rd : Nat) (μ ν : xe_Mem) (i' h' rd' : Nat) (μ' ν' : xe_Mem) (s : Nat) : Prop := (∀ g n, n + s ≤ 1000000 → zD110_14 (g + s) (nI b0) v3 v5 (nI i) (nI n) μ = zD110_14 g (nI b0) v3 v5 (nI i') (nI (n + s)) μ') ∧ (∀ G, zD190_33 (G + s) v1 (nI h) (nI rd) (nI (i + off)) ν = zD190_33 G v1 (nI h') (nI rd') (nI (i' + off)) ν')
section
variable {μ0 ν0 μ ν μ1 ν1 μ2 ν2 : xe_Mem} {x v1 : Int32} {i i1 i2 h h1 h2 rd rd1 rd2 v3 v5 p b0 off s s1 s2 : Nat}
theorem zGo_0 : zGo v3 v5 b0 off v1 i h rd μ ν i h rd μ ν 0 := ⟨fun _ _ _ => rfl, fun _ => rfl⟩
theorem zGo_t (g1 : zGo v3 v5 b0 off v1 i h rd μ ν i1 h1 rd1 μ1 ν1 s1) (g2 : zGo v3 v5 b0 off v1 i1 h1 rd1 μ1 ν1 i2 h2 rd2 μ2 ν2 s2) : zGo v3 v5 b0 off v1 i h rd μ ν i2 h2 rd2 μ2 ν2 (s1 + s2) := by
  refine ⟨fun g n hn => ?_, fun G => ?_⟩
  · rw [show g + (s1 + s2) = g + s2 + s1 by omega, g1.1 (g + s2) n (by omega), g2.1 g (n + s1) (by omega), Nat.add_assoc n s1 s2]
  · rw [show G + (s1 + s2) = G + s2 + s1 by omega, g1.2, g2.2]
theorem zGo_1 (g1 : ∀ g n, n < 1000000 → zD110_14 (g + 1) (nI b0) v3 v5 (nI i) (nI n) μ = zD110_14 g (nI b0) v3 v5 (nI i1) (nI (n + 1)) μ1) (g2 : ∀ G, zD190_33 (G + 1) v1 (nI h) (nI rd) (nI (i + off)) ν = zD190_33 G v1 (nI h1) (nI rd1) (nI (i1 + off)) ν1) : zGo v3 v5 b0 off v1 i h rd μ ν i1 h1 rd1 μ1 ν1 1 := ⟨fun g n hn => g1 g n (by omega), g2⟩
end
