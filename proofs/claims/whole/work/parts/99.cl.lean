/-! running: a run begins in both -/
def zXbg (t a j : Nat) : Prop := zXfe a j ∨ (63 + 5 * t ≤ a ∧ a ≤ 65 + 5 * t) ∨ (a = 194 ∧ j = 8)
def zYbg (t a j : Nat) : Prop := (250 ≤ a ∧ a ≤ 254) ∨ (a = 203 ∧ j = 77) ∨ ((a = 259 ∨ a = 260) ∧ j = t) ∨ ((261 ≤ a ∧ a ≤ 263) ∧ 12 * t ≤ j ∧ j < 12 * t + 12)
def zcbg (μ : xe_Mem) (b : Nat) (x e : Int32) : xe_Mem := xe_setI (xe_setI (xe_setI (xe_setI (xe_setI (xe_setI μ b 0 x) b 1 e) b 3 0) b 4 0) b 2 (-1)) 194 8 (xe_I μ 194 8 + (if x = 0 then 1 else 0))
def zrbg (ν : xe_Mem) (t : Nat) (x : Int32) : xe_Mem := if x = 0 then xe_setI (xe_setI (xe_setI ν 259 t x) 260 t (-1)) 203 77 (xe_I ν 203 77 + 1) else xe_setI (xe_setI ν 259 t x) 260 t (-1)
theorem z116e {μ : xe_Mem} {t : Nat} {x : Int32} (ht : t < 24) : zD116_30 (61 + 5 * t) (63 + 5 * t) (63 + 5 * t) x μ = some (.inl none, zcbg μ (63 + 5 * t) x (xe_I μ 194 3 + xe_I μ (61 + 5 * t) 3)) := by
  unfold zD116_30 zD75 zD116_48
  rw [zo_in (zS_task t ht) (by omega), zo_in (zS_62 t ht).2 (by omega), zo_in (zS_62 t ht).2 (by omega)]
  simp only [zq_m]
  rw [zcV_ok, zo_in (zS_62 t ht).2 (by omega)]
  unfold zcbg
  rw [xu_In (a := 63 + 5 * t) (b := 63 + 5 * t) (j := 2) (i := 0) (by omega), xu_In (a := 63 + 5 * t) (b := 63 + 5 * t) (j := 4) (i := 0) (by omega), xu_In (a := 63 + 5 * t) (b := 63 + 5 * t) (j := 3) (i := 0) (by omega), xu_In (a := 63 + 5 * t) (b := 63 + 5 * t) (j := 1) (i := 0) (by omega), xu_I]
  have e : xe_I (xe_setI (xe_setI (xe_setI (xe_setI (xe_setI μ (63 + 5 * t) 0 x) (63 + 5 * t) 1 (xe_I μ 194 3 + xe_I μ (61 + 5 * t) 3)) (63 + 5 * t) 3 0) (63 + 5 * t) 4 0) (63 + 5 * t) 2 (-1)) 194 8 = xe_I μ 194 8 := by
    rw [xu_In (by omega), xu_In (by omega), xu_In (by omega), xu_In (by omega), xu_In (by omega)]
  by_cases h : x = 0
  · rw [if_pos h, if_pos h, e]
  · rw [if_neg h, if_neg h, e]
theorem z192e {ν : xe_Mem} {t : Nat} {x : Int32} (ht : t < 24) : zD192_108 (nI t) (nI t) x ν = some (.inl none, zrbg ν t x) := by
  unfold zD192_108 zD192_125
  rw [zx_nI ht (by decide)]
  simp only [zq_m]
  rw [zx_nI ht (by decide), zx_nI ht (by decide), xu_In (a := 260) (by omega), xu_I]
  unfold zrbg
  by_cases h : x = 0
  · rw [if_pos h, if_pos h, xu_In (a := 260) (by omega), xu_In (a := 259) (by omega)]
  · rw [if_neg h, if_neg h]
section
variable {P S M T Sw Sl m f n per k0 nk s s' t k : Nat} {d : Nat → Nat → Nat} {ns fm : Nat → Nat} {μ ν μ' ν' : xe_Mem}
theorem zRg_b (h : zRg P T m k μ ν) (hT : T ≤ 24) (ht : t < 24) (g1 : zfG (zXbg t) zZu zZu μ μ') (g2 : zfG (zYbg t) zZu zZu ν ν') (hsh : xe_sh μ' = xe_sh μ) (h8 : xe_I μ' 194 8 = xe_I ν' 203 77) (hx : zTo t μ' ν') : zRg P T m k μ' ν' := by
  obtain ⟨⟨⟨s1, s2⟩, hsh0⟩, ⟨e1, e2, e3, e4⟩, ⟨f1, f2, f3, f4, f5⟩, hs1, hs2, hto⟩ := h
  have kc : ∀ a j, a < 265 → ¬ zXbg t a j → xe_I μ' a j = xe_I μ a j := fun a j w1 w2 => (g1 a w1 j).1 w2
  have c : ∀ a j, 194 ≤ a → a < 265 → ¬ (a = 194 ∧ j = 8) → xe_I μ' a j = xe_I μ a j := fun a j w0 w1 w2 => kc a j w1 (by unfold zXbg zXfe; omega)
  have r : ∀ a j, a < 265 → ¬ zYbg t a j → xe_I ν' a j = xe_I ν a j := fun a j w1 w2 => (g2 a w1 j).1 w2
  refine ⟨⟨⟨fun p hp => ?_, fun n hn p hp => ?_⟩, by rw [hsh]; exact hsh0⟩, ⟨?_, ?_, ?_, ?_⟩, ⟨?_, ?_, ?_, ?_, h8⟩, fun j hj => ?_, fun j hj => ?_, fun t' ht' => ?_⟩
  · rw [c 195 p (by omega) (by omega) (by omega), r 255 p (by omega) (by unfold zYbg; omega)]; exact s1 p hp
  · rw [c (197 + n) p (by omega) (by omega) (by omega), r 256 _ (by omega) (by unfold zYbg; omega)]; exact s2 n hn p hp
  · rw [c 194 _ (by omega) (by omega) (by omega)]; exact e1
  · rw [r 203 _ (by omega) (by unfold zYbg; omega)]; exact e2
  · rw [c 194 _ (by omega) (by omega) (by omega)]; exact e3
  · rw [r 203 _ (by omega) (by unfold zYbg; omega)]; exact e4
  · rw [c 194 _ (by omega) (by omega) (by omega), r 203 _ (by omega) (by unfold zYbg; omega)]; exact f1
  · rw [c 194 _ (by omega) (by omega) (by omega), r 203 _ (by omega) (by unfold zYbg; omega)]; exact f2
  · rw [c 194 _ (by omega) (by omega) (by omega), r 203 _ (by omega) (by unfold zYbg; omega)]; exact f3
  · rw [c 194 _ (by omega) (by omega) (by omega), r 203 _ (by omega) (by unfold zYbg; omega)]; exact f4
  · rw [c 201 j (by omega) (by omega) (by omega), r 257 j (by omega) (by unfold zYbg; omega)]; exact hs1 j hj
  · rw [c 202 j (by omega) (by omega) (by omega), r 258 j (by omega) (by unfold zYbg; omega)]; exact hs2 j hj
  · by_cases e : t' = t
    · subst e; exact hx
    · unfold zTo
      rw [kc (63 + 5 * t') 2 (by omega) (by unfold zXbg zXfe; omega), r 260 t' (by omega) (by unfold zYbg; omega)]; exact hto t' ht'
theorem zXbg_s (ht : t < 24) (g : zfG (zXbg t) zZu zZu μ μ') : zfG zXst zZu zZu μ μ' := zfG_w g (fun a j w => by unfold zXbg zXfe at w; unfold zXst; omega) (fun _ _ w => w) (fun _ _ w => w)
theorem zYbg_s (g : zfG (zYbg t) zZu zZu ν ν') : zfG zYst zZu zZu ν ν' := zfG_w g (fun a j w => by unfold zYbg at w; unfold zYst; omega) (fun _ _ w => w) (fun _ _ w => w)
theorem z_begin (hV : zVw P S M T Sw Sl m f n per k0 nk s s' d ns fm μ ν) (hG : zRg P T m k μ ν) (hk : k < per) (h1 : f ≤ t) (h2 : t < f + n) : ∃ μ' ν', zD116 (61 + 5 * t) μ = some (.inl none, μ') ∧ zD192 (nI t) ν = some (.inl none, ν') ∧ zRg P T m k μ' ν' ∧ zRx P (k + d 0 t) t μ' ν' ∧ zfG (zXbg t) zZu zZu μ μ' ∧ zfG (zYbg t) zZu zZu ν ν' := by
  have hz : zfu = 1000000000 := rfl
  obtain ⟨hst, hti, -, -, ⟨hP, hS, -⟩⟩ := id hV
  obtain ⟨hR, ⟨b1, b2, b3, b4, b5, b6⟩, -, htt, -⟩ := id hst
  obtain ⟨⟨q1, q2, q3, q4, q5⟩, ⟨u0, u1, u2, u3, -⟩, ⟨v1, v2, v3, v4, -⟩⟩ := htt t h1 h2
  obtain ⟨⟨⟨s1, s2⟩, hsh⟩, ⟨e1, e2, e3, e4⟩, ⟨f1, f2, f3, f4, f5⟩, hs1, hs2, hto⟩ := id hG
  have ht : t < 24 := by omega
  have hT := hti t h1 h2
  -- the class, first row
  have hg0 : zfG zYrun zZo zZo ν (zcp ν 250 255) := zfG_w zcp_f (fun a j w => by unfold zYrun; omega) (fun _ _ w => absurd rfl w.2) (fun _ _ w => absurd rfl w.2)
  obtain ⟨μA, A1, A2, A3, A4⟩ := z_comp (v3 := 195) (v5 := 64 + 5 * t) (ν0 := zcp ν 250 255) ht zVv_195 (zVv_64 ht).1 (by omega) (fun j => by unfold zXst; omega) hP hS q4 hR hsh (zTi2_k hT ht zfG_r hR hg0) (fun j hj => by rw [zcp_a (by omega)]; exact s1 j hj) (fun j hj => by rw [zcp_o (by omega)]; exact hs1 j hj)
  have GA : zfG (zXbg t) zZu zZu μ μA := zfG_w A2 (fun a j w => by unfold zXbg; unfold zXfe at w ⊢; omega) (fun _ _ w => w) (fun _ _ w => w)
  have kA : ∀ a j, a < 265 → ¬ zXfe a j → a ≠ 64 + 5 * t → xe_I μA a j = xe_I μ a j := fun a j w1 w2 w3 => (A2 a w1 j).1 (fun w => by rcases w with w | w; exact w2 w; exact w3 w.1)
  have hRA := zRt_G hR GA
  -- the reference's ground
  obtain ⟨ν1, B1, B2, B3⟩ := z192a (t := t) (nd := d 2 t) ht q5 12 zfu 0 ν (by omega) (by omega) v2 (fun j hj => by omega)
  have GB : zfG (zYbg t) zZu zZu ν ν1 := zfG_w B3 (fun a j w => by unfold zYbg; omega) (fun _ _ w => w) (fun _ _ w => w)
  have rB : ∀ a j, a < 265 → a ≠ 250 → xe_I ν1 a j = xe_I ν a j := fun a j w1 w2 => (B3 a w1 j).1 (fun w => w2 w.1)
  have hTA : ∀ (μ1 ν1 : xe_Mem), zfG (zXbg t) zZu zZu μ μ1 → zfG (zYbg t) zZu zZu ν ν1 → zTi2 P S t (d 1 t) μ1 ν1 := fun μ1 ν1 w1 w2 => zTi2_k hT ht (zXst_g (zXbg_s ht w1)) (zRt_G hR w1) (zYst_g (zYbg_s w2))
  -- the class, second row
  obtain ⟨μB, C1, C2, C3, C4⟩ := z_comp (μ := μA) (v3 := 197 + d 2 t) (v5 := 65 + 5 * t) (ν0 := ν1) ht (zVv_197 q5) (zVv_64 ht).2 (by omega) (fun j => by unfold zXst; omega) hP hS q4 hRA (by rw [A3]; exact hsh) (hTA _ _ GA GB) (fun j hj => by
    rw [kA _ j (by omega) (by unfold zXfe; omega) (by omega), B2 j (by omega), rB 256 _ (by omega) (by omega)]
    exact s2 _ q5 j hj) (fun j hj => by
    rw [kA 201 j (by omega) (by unfold zXfe; omega) (by omega), rB 257 _ (by omega) (by omega)]
    exact hs1 j hj)
  have GC : zfG (zXbg t) zZu zZu μA μB := zfG_w C2 (fun a j w => by unfold zXbg; unfold zXfe at w ⊢; omega) (fun _ _ w => w) (fun _ _ w => w)
  have kB : ∀ a j, a < 265 → ¬ zXfe a j → a ≠ 64 + 5 * t → a ≠ 65 + 5 * t → xe_I μB a j = xe_I μ a j := fun a j w1 w2 w3 w4 => ((C2 a w1 j).1 (fun w => by rcases w with w | w; exact w2 w; exact w4 w.1)).trans (kA a j w1 w2 w3)
  -- the reference runs at what the node sees
  obtain ⟨y2, ν2, D1, D2, D3⟩ := C4 ν1 (hTA _ _ GA GB) (fun j hj => by
    rw [kA _ j (by omega) (by unfold zXfe; omega) (by omega), B2 j (by omega), rB 256 _ (by omega) (by omega)]
    exact s2 _ q5 j hj) (fun j hj => by
    rw [kA 201 j (by omega) (by unfold zXfe; omega) (by omega), rB 257 _ (by omega) (by omega)]
    exact hs1 j hj)
  have GD : zfG (zYbg t) zZu zZu ν1 ν2 := zfG_w D3 (fun a j w => by unfold zYfo at w; unfold zYbg; omega) (fun _ _ w => w) (fun _ _ w => w)
  have rD : ∀ a j, a < 265 → ¬ (251 ≤ a ∧ a ≤ 254) → xe_I ν2 a j = xe_I ν1 a j := fun a j w1 w2 => (D3 a w1 j).1 (fun w => w2 w.1)
  obtain ⟨ν3, E1, E2, E3⟩ := z192b (t := t) (v2 := y2) ht 12 zfu 0 ν2 (by omega) (by omega) (fun j hj => by omega)
  have GE : zfG (zYbg t) zZu zZu ν2 ν3 := zfG_w E3 (fun a j w => by unfold zXb2 at w; unfold zYbg; omega) (fun _ _ w => w) (fun _ _ w => w)
  have rE : ∀ a j, a < 265 → ¬ zXb2 t a j → xe_I ν3 a j = xe_I ν2 a j := fun a j w1 w2 => (E3 a w1 j).1 w2
  have G3 := zfG_t (zfG_t GB GD) GE
  -- and at what is meant
  have h255 : ∀ j, xe_I ν3 255 j = xe_I ν 255 j := fun j => by rw [rE 255 j (by omega) (by unfold zXb2; omega), rD 255 j (by omega) (by omega), rB 255 j (by omega) (by omega)]
  have h257 : ∀ j, xe_I ν3 257 j = xe_I ν 257 j := fun j => by rw [rE 257 j (by omega) (by unfold zXb2; omega), rD 257 j (by omega) (by omega), rB 257 j (by omega) (by omega)]
  obtain ⟨y4, ν4, F1, F2, F3⟩ := A4 ν3 (hTA _ _ zfG_r G3) (fun j hj => by rw [(E2 j (by omega)).2.1, h255]; exact s1 j hj) (fun j hj => by rw [h257]; exact hs1 j hj)
  have GF : zfG (zYbg t) zZu zZu ν3 ν4 := zfG_w F3 (fun a j w => by unfold zYfo at w; unfold zYbg; omega) (fun _ _ w => w) (fun _ _ w => w)
  have rF : ∀ a j, a < 265 → ¬ (251 ≤ a ∧ a ≤ 254) → xe_I ν4 a j = xe_I ν3 a j := fun a j w1 w2 => (F3 a w1 j).1 (fun w => w2 w.1)
  obtain ⟨ν5, H1, H2, H3⟩ := z192c (t := t) (v2 := y4) ht 12 zfu 0 ν4 (by omega) (by omega) (fun j hj => by omega)
  have GH : zfG (zYbg t) zZu zZu ν4 ν5 := zfG_w H3 (fun a j w => by unfold zXb3 at w; unfold zYbg; omega) (fun _ _ w => w) (fun _ _ w => w)
  have rH : ∀ a j, a < 265 → ¬ zXb3 t a j → xe_I ν5 a j = xe_I ν4 a j := fun a j w1 w2 => (H3 a w1 j).1 w2
  have G5 := zfG_t (zfG_t G3 GF) GH
  have rall : ∀ a j, a < 265 → ¬ (250 ≤ a ∧ a ≤ 254) → ¬ (261 ≤ a ∧ a ≤ 263) → xe_I ν5 a j = xe_I ν a j := fun a j w1 w2 w3 => by
    rw [rH a j w1 (by unfold zXb3; omega), rF a j w1 (by omega), rE a j w1 (by unfold zXb2; omega), rD a j w1 (by omega), rB a j w1 (by omega)]
  -- the times told
  obtain ⟨l, hl, hlc, hlr⟩ : ∃ l, l ≤ 200 ∧ (if xe_I μ (63 + 5 * t) 2 = -1 then xe_I μ (61 + 5 * t) 4 else xe_I μ (63 + 5 * t) 2) = nI l ∧ (if xe_I ν 260 t < 0 then xe_I ν 222 t else xe_I ν 260 t) = nI l := by
    obtain ⟨o1, o2⟩ := hto t (by omega)
    rw [o1]
    rcases o2 with o2 | ⟨x, o2, o3⟩
    · rw [o2, if_pos rfl, if_pos (by decide)]
      exact ⟨d 1 t, q4, u3, v4⟩
    · rw [o3, if_neg (fun w => zmiss (a := x) (by omega) w.symm), if_neg (nI_pos (by omega))]
      exact ⟨x, o2, rfl, rfl⟩
  have n61 : ∀ j, ¬ zXfe (61 + 5 * t) j := fun j => by unfold zXfe; omega
  have n63 : ∀ j, ¬ zXfe (63 + 5 * t) j := fun j => by unfold zXfe; omega
  have n194 : ∀ j, ¬ zXfe 194 j := fun j => by unfold zXfe; omega
  have hcl : zD116 (61 + 5 * t) μ = some (.inl none, zcbg μB (63 + 5 * t) (nI l) (nI (k + d 0 t))) := by
    unfold zD116
    rw [zo_in (zS_task t ht) (by omega), hR _ _ _ (zR_62 t ht).2, zs_some, zo_in (zS_62 t ht).2 (by omega), hR _ _ _ (zR_63 t ht).1, zs_some, A1, zcV_ok, kA _ 2 (by omega) (n61 2) (by omega), u1, zx_nI q5 (by decide), hRA _ _ _ (zR_196 _ q5), zs_some, hRA _ _ _ (zR_63 t ht).2, zs_some, C1, zcV_ok, z116e ht, z116e ht, kB 194 3 (by omega) (n194 3) (by omega) (by omega), kB (61 + 5 * t) 3 (by omega) (n61 3) (by omega) (by omega), e3, u2, nI_add, kB (63 + 5 * t) 2 (by omega) (n63 2) (by omega) (by omega), kB (61 + 5 * t) 4 (by omega) (n61 4) (by omega) (by omega)]
    by_cases w : xe_I μ (63 + 5 * t) 2 = -1
    · rw [if_pos w] at hlc ⊢
      rw [hlc]
    · rw [if_neg w] at hlc ⊢
      rw [hlc]
  have hrf : zD192 (nI t) ν = some (.inl none, zrbg ν5 t (nI l)) := by
    unfold zD192
    rw [show zD192_2 zfu (nI t) 0 ν = _ from B1]
    unfold zE192a
    rw [zx_nI ht (by decide), D1, zcI_ok, show zD192_31 zfu (nI t) y2 0 ν2 = _ from E1]
    unfold zE192b
    rw [zx_nI ht (by decide), F1, zcI_ok, show zD192_74 zfu (nI t) y4 0 ν4 = _ from H1]
    unfold zE192c
    rw [zx_nI ht (by decide), zx_nI ht (by decide), zx_nI ht (by decide), z192e ht, z192e ht, rall 260 t (by omega) (by omega) (by omega), rall 222 t (by omega) (by omega) (by omega)]
    by_cases w : xe_I ν 260 t < 0
    · rw [if_pos w] at hlr ⊢
      rw [hlr]
    · rw [if_neg w] at hlr ⊢
      rw [hlr]
  -- what comes of it
  have kZ : ∀ a j, ¬ (a = 63 + 5 * t) → ¬ (a = 194 ∧ j = 8) → xe_I (zcbg μB (63 + 5 * t) (nI l) (nI (k + d 0 t))) a j = xe_I μB a j := fun a j w1 w2 => by
    unfold zcbg
    rw [xu_In (by omega), xu_In (by omega), xu_In (by omega), xu_In (by omega), xu_In (by omega), xu_In (by omega)]
  have rZ : ∀ a j, ¬ (a = 259 ∧ j = t) → ¬ (a = 260 ∧ j = t) → ¬ (a = 203 ∧ j = 77) → xe_I (zrbg ν5 t (nI l)) a j = xe_I ν5 a j := fun a j w1 w2 w3 => by
    unfold zrbg
    split
    · rw [xu_In w3, xu_In w2, xu_In w1]
    · rw [xu_In w2, xu_In w1]
  have r259 : xe_I (zrbg ν5 t (nI l)) 259 t = nI l := by
    unfold zrbg
    split
    · rw [xu_In (by omega), xu_In (by omega), xu_I]
    · rw [xu_In (by omega), xu_I]
  have r260 : xe_I (zrbg ν5 t (nI l)) 260 t = -1 := by
    unfold zrbg
    split
    · rw [xu_In (by omega), xu_I]
    · rw [xu_I]
  have r77 : xe_I (zrbg ν5 t (nI l)) 203 77 = xe_I ν5 203 77 + (if nI l = 0 then 1 else 0) := by
    unfold zrbg
    split
    · rw [xu_I]
    · rw [xu_In (by omega), xu_In (by omega)]
      exact (Int32.add_zero _).symm
  have c8 : xe_I (zcbg μB (63 + 5 * t) (nI l) (nI (k + d 0 t))) 194 8 = xe_I μB 194 8 + (if nI l = 0 then 1 else 0) := by
    unfold zcbg
    rw [xu_I]
  have GZ : zfG (zXbg t) zZu zZu μB (zcbg μB (63 + 5 * t) (nI l) (nI (k + d 0 t))) := by
    unfold zcbg
    exact zfG_t (zfG_t (zfG_t (zfG_t (zfG_t (zfG_I (by unfold zXbg; omega)) (zfG_I (by unfold zXbg; omega))) (zfG_I (by unfold zXbg; omega))) (zfG_I (by unfold zXbg; omega))) (zfG_I (by unfold zXbg; omega))) (zfG_I (by unfold zXbg; omega))
  have GW : zfG (zYbg t) zZu zZu ν5 (zrbg ν5 t (nI l)) := by
    unfold zrbg
    split
    · exact zfG_t (zfG_t (zfG_I (by unfold zYbg; omega)) (zfG_I (by unfold zYbg; omega))) (zfG_I (by unfold zYbg; omega))
    · exact zfG_t (zfG_I (by unfold zYbg; omega)) (zfG_I (by unfold zYbg; omega))
  have GX := zfG_t (zfG_t GA GC) GZ
  have GY := zfG_t G5 GW
  refine ⟨_, _, hcl, hrf, zRg_b hG b4 ht GX GY (show xe_sh μB = xe_sh μ from C3.trans A3) ?_ ⟨?_, Or.inl r260⟩, ⟨l, 0, ⟨?_, r259, hl, ?_⟩, ⟨?_, by decide⟩, fun p hp => ⟨?_, ?_, ?_⟩⟩, GX, GY⟩
  · rw [c8, r77, kB 194 8 (by omega) (n194 8) (by omega) (by omega), rall 203 77 (by omega) (by omega) (by omega), f5]
  · rw [r260]
    unfold zcbg
    rw [xu_In (by omega), xu_I]
  · unfold zcbg
    rw [xu_In (by omega), xu_In (by omega), xu_In (by omega), xu_In (by omega), xu_In (by omega), xu_I]
  · unfold zcbg
    rw [xu_In (by omega), xu_In (by omega), xu_In (by omega), xu_In (by omega), xu_I]
  · unfold zcbg
    rw [xu_In (by omega), xu_In (by omega), xu_I]
    rfl
  · rw [rZ 263 _ (by omega) (by omega) (by omega), rH 263 _ (by omega) (by unfold zXb3; omega), rF 263 _ (by omega) (by omega), (E2 p (by omega)).2.2, Nat.zero_testBit]
    rfl
  · rw [rZ 261 _ (by omega) (by omega) (by omega), rH 261 _ (by omega) (by unfold zXb3; omega), rF 261 _ (by omega) (by omega), (E2 p (by omega)).1, rE 252 p (by omega) (by unfold zXb2; omega), kZ (65 + 5 * t) p (by omega) (by omega)]
    exact (D2 p hp).symm
  · rw [rZ 262 _ (by omega) (by omega) (by omega), H2 p (by omega), rH 252 p (by omega) (by unfold zXb3; omega), kZ (64 + 5 * t) p (by omega) (by omega), (C2 (64 + 5 * t) (by omega) p).1 (fun w => by rcases w with w | w; unfold zXfe at w; omega; omega)]
    exact (F2 p hp).symm
end
