/-! running: a mode is changed -/
def zXcm (a j : Nat) : Prop := zXfe a j ∨ (a = 194 ∧ 2 ≤ j ∧ j ≤ 4)
def zYcm (a j : Nat) : Prop := (250 ≤ a ∧ a ≤ 254) ∨ (a = 203 ∧ 71 ≤ j ∧ j ≤ 73)
def zcmv (μ : xe_Mem) (x : Int32) : xe_Mem := xe_setI (xe_setI (xe_setI μ 194 2 x) 194 3 0) 194 4 (xe_I μ 194 4 + 1)
def zrmv2 (ν : xe_Mem) (x : Int32) : xe_Mem := xe_setI (xe_setI ν 203 71 x) 203 73 (xe_I ν 203 73 + 1)
def zg189 (c2 : Int32 → xe_Mem → zO) (v1 : Int32) (ν : xe_Mem) : zO := zq_x v1 16 fun j10 => zq_cI (zD190 (xe_I ν 233 j10) ν) fun x16 m14 => if x16 = 0 then zD189_61 c2 v1 m14 else zq_x v1 16 fun j17 => zq_cI (zD152 (xe_L m14 234 j17) m14) fun x23 m21 => zq_m (xe_setI m21 203 71 x23) fun m24 => zq_m (xe_setI m24 203 73 ((xe_I m24 203 73) + 1)) fun m26 => some (.inl (some (.int 1)), m26)
theorem z189g {c2 : Int32 → xe_Mem → zO} {v1 : Int32} : ∀ (r g p : Nat) (ν : xe_Mem), p + r = 12 → r < g → (∀ j, j < p → xe_I ν 250 j = xe_I ν 255 j) → ∃ ν', zD189_24 c2 g v1 (nI p) ν = zg189 c2 v1 ν' ∧ (∀ j, j < 12 → xe_I ν' 250 j = xe_I ν' 255 j) ∧ zfG (fun a j => a = 250 ∧ j = j) zZu zZu ν ν' := by
  intro r
  induction r with
  | zero =>
    intro g p ν hp hg h
    obtain ⟨g, rfl⟩ : ∃ k, g = k + 1 := ⟨g - 1, by omega⟩
    have : p = 12 := by omega
    subst this
    refine ⟨ν, ?_, h, zfG_r⟩
    show zD189_24_b c2 (zD189_24 c2 g) v1 (nI 12) ν = _
    unfold zD189_24_b
    rw [if_pos (by decide)]
    rfl
  | succ r ih =>
    intro g p ν hp hg h
    obtain ⟨g, rfl⟩ : ∃ k, g = k + 1 := ⟨g - 1, by omega⟩
    obtain ⟨ν', a1, a2, a3⟩ := ih g (p + 1) (xe_setI ν 250 p (xe_I ν 255 p)) (by omega) (by omega) (fun j hj => by
      rw [xu_In (b := 255) (by omega)]
      by_cases e : j = p
      · subst e; rw [xu_I]
      · rw [xu_In (by omega)]; exact h j (by omega))
    refine ⟨ν', ?_, a2, zfG_t (zfG_I ⟨rfl, rfl⟩) a3⟩
    show zD189_24_b c2 (zD189_24 c2 g) v1 (nI p) ν = _
    unfold zD189_24_b
    rw [if_neg (show ¬ (12 : Int32) ≤ nI p from nI_ge (b := 12) (by omega) (by decide)), zx_nI (show p < 12 by omega) (by decide), zx_nI (show p < 12 by omega) (by decide)]
    simp only [zq_m, nI_1]
    exact a1
section
variable {P S M T Sw Sl m f n per k0 nk s s' t k : Nat} {d : Nat → Nat → Nat} {ns fm : Nat → Nat} {μ ν μ' ν' : xe_Mem}
theorem z189s {G i : Nat} (h37 : xe_I ν 203 37 = nI Sw) (hi : i < Sw) (hS : Sw ≤ 16) (hn : ¬ xe_I ν 231 i = xe_I ν 203 71) : zD189_2 (G + 1) (nI i) ν = zD189_2 G (nI (i + 1)) ν := by
  show zD189_2_b (zD189_2 G) (nI i) ν = _
  unfold zD189_2_b zD189_61
  rw [h37, if_neg (nI_ge hi (by omega)), zx_nI (show i < 16 by omega) (by decide), if_neg hn, nI_1]
/-- what isn't changed but by follow -/
theorem zRg_f (h : zRg P T m k μ ν) (hT : T ≤ 24) (g1 : zfG zXfe zZu zZu μ μ') (g2 : zfG (fun a j => (250 ≤ a ∧ a ≤ 254) ∧ j = j) zZu zZu ν ν') (hsh : xe_sh μ' = xe_sh μ) : zRg P T m k μ' ν' := by
  obtain ⟨⟨⟨s1, s2⟩, hsh0⟩, ⟨e1, e2, e3, e4⟩, ⟨f1, f2, f3, f4, f5⟩, hs1, hs2, hto⟩ := h
  have kc : ∀ a j, a < 265 → ¬ zXfe a j → xe_I μ' a j = xe_I μ a j := fun a j w1 w2 => (g1 a w1 j).1 w2
  have c : ∀ a j, 14 ≤ a → a < 265 → xe_I μ' a j = xe_I μ a j := fun a j w0 w1 => kc a j w1 (by unfold zXfe; omega)
  have r : ∀ a j, a < 265 → ¬ (250 ≤ a ∧ a ≤ 254) → xe_I ν' a j = xe_I ν a j := fun a j w1 w2 => (g2 a w1 j).1 (fun w => w2 w.1)
  refine ⟨⟨⟨fun p hp => ?_, fun n hn p hp => ?_⟩, by rw [hsh]; exact hsh0⟩, ⟨?_, ?_, ?_, ?_⟩, ⟨?_, ?_, ?_, ?_, ?_⟩, fun j hj => ?_, fun j hj => ?_, fun t ht => ?_⟩
  · rw [c 195 p (by omega) (by omega), r 255 p (by omega) (by omega)]; exact s1 p hp
  · rw [c (197 + n) p (by omega) (by omega), r 256 _ (by omega) (by omega)]; exact s2 n hn p hp
  · rw [c 194 _ (by omega) (by omega)]; exact e1
  · rw [r 203 _ (by omega) (by omega)]; exact e2
  · rw [c 194 _ (by omega) (by omega)]; exact e3
  · rw [r 203 _ (by omega) (by omega)]; exact e4
  · rw [c 194 _ (by omega) (by omega), r 203 _ (by omega) (by omega)]; exact f1
  · rw [c 194 _ (by omega) (by omega), r 203 _ (by omega) (by omega)]; exact f2
  · rw [c 194 _ (by omega) (by omega), r 203 _ (by omega) (by omega)]; exact f3
  · rw [c 194 _ (by omega) (by omega), r 203 _ (by omega) (by omega)]; exact f4
  · rw [c 194 _ (by omega) (by omega), r 203 _ (by omega) (by omega)]; exact f5
  · rw [c 201 j (by omega) (by omega), r 257 j (by omega) (by omega)]; exact hs1 j hj
  · rw [c 202 j (by omega) (by omega), r 258 j (by omega) (by omega)]; exact hs2 j hj
  · unfold zTo
    rw [c (63 + 5 * t) 2 (by omega) (by omega), r 260 t (by omega) (by omega)]; exact hto t ht
/-- another mode, or the same again from its tick 0 -/
theorem zRg_m {m' : Nat} (h : zRg P T m k μ ν) : zRg P T m' 0 (zcmv μ (nI m')) (xe_setI (zrmv2 ν (nI m')) 203 72 0) := by
  obtain ⟨⟨⟨s1, s2⟩, hsh0⟩, ⟨e1, e2, e3, e4⟩, ⟨f1, f2, f3, f4, f5⟩, hs1, hs2, hto⟩ := h
  have c : ∀ a j, ¬ (a = 194 ∧ 2 ≤ j ∧ j ≤ 4) → xe_I (zcmv μ (nI m')) a j = xe_I μ a j := fun a j w => by
    unfold zcmv
    rw [xu_In (by omega), xu_In (by omega), xu_In (by omega)]
  have r : ∀ a j, ¬ (a = 203 ∧ 71 ≤ j ∧ j ≤ 73) → xe_I (xe_setI (zrmv2 ν (nI m')) 203 72 0) a j = xe_I ν a j := fun a j w => by
    unfold zrmv2
    rw [xu_In (by omega), xu_In (by omega), xu_In (by omega)]
  refine ⟨⟨⟨fun p hp => ?_, fun n hn p hp => ?_⟩, hsh0⟩, ⟨?_, ?_, ?_, ?_⟩, ⟨?_, ?_, ?_, ?_, ?_⟩, fun j hj => ?_, fun j hj => ?_, fun t ht => ?_⟩
  · rw [c 195 p (by omega), r 255 p (by omega)]; exact s1 p hp
  · rw [c (197 + n) p (by omega), r 256 _ (by omega)]; exact s2 n hn p hp
  · unfold zcmv
    rw [xu_In (by omega), xu_In (by omega), xu_I]
  · unfold zrmv2
    rw [xu_In (by omega), xu_In (by omega), xu_I]
  · unfold zcmv
    rw [xu_In (by omega), xu_I]
    rfl
  · rw [xu_I]
    rfl
  · unfold zcmv zrmv2
    rw [xu_I, xu_In (by omega), xu_I, f1]
  · rw [c 194 5 (by omega), r 203 74 (by omega)]; exact f2
  · rw [c 194 6 (by omega), r 203 75 (by omega)]; exact f3
  · rw [c 194 7 (by omega), r 203 76 (by omega)]; exact f4
  · rw [c 194 8 (by omega), r 203 77 (by omega)]; exact f5
  · rw [c 201 j (by omega), r 257 j (by omega)]; exact hs1 j hj
  · rw [c 202 j (by omega), r 258 j (by omega)]; exact hs2 j hj
  · unfold zTo
    rw [c (63 + 5 * t) 2 (by omega), r 260 t (by omega)]; exact hto t ht
theorem zRg_0 (h : zRg P T m k μ ν) : zRg P T m 0 (xe_setI μ 194 3 0) (xe_setI ν 203 72 0) := by
  obtain ⟨⟨⟨s1, s2⟩, hsh0⟩, ⟨e1, e2, e3, e4⟩, ⟨f1, f2, f3, f4, f5⟩, hs1, hs2, hto⟩ := h
  have c : ∀ a j, ¬ (a = 194 ∧ j = 3) → xe_I (xe_setI μ 194 3 0) a j = xe_I μ a j := fun a j w => xu_In w
  have r : ∀ a j, ¬ (a = 203 ∧ j = 72) → xe_I (xe_setI ν 203 72 0) a j = xe_I ν a j := fun a j w => xu_In w
  refine ⟨⟨⟨fun p hp => ?_, fun n hn p hp => ?_⟩, hsh0⟩, ⟨?_, ?_, xu_I, xu_I⟩, ⟨?_, ?_, ?_, ?_, ?_⟩, fun j hj => ?_, fun j hj => ?_, fun t ht => ?_⟩
  · rw [c 195 p (by omega), r 255 p (by omega)]; exact s1 p hp
  · rw [c (197 + n) p (by omega), r 256 _ (by omega)]; exact s2 n hn p hp
  · rw [c 194 2 (by omega)]; exact e1
  · rw [r 203 71 (by omega)]; exact e2
  · rw [c 194 4 (by omega), r 203 73 (by omega)]; exact f1
  · rw [c 194 5 (by omega), r 203 74 (by omega)]; exact f2
  · rw [c 194 6 (by omega), r 203 75 (by omega)]; exact f3
  · rw [c 194 7 (by omega), r 203 76 (by omega)]; exact f4
  · rw [c 194 8 (by omega), r 203 77 (by omega)]; exact f5
  · rw [c 201 j (by omega), r 257 j (by omega)]; exact hs1 j hj
  · rw [c 202 j (by omega), r 258 j (by omega)]; exact hs2 j hj
  · unfold zTo
    rw [c (63 + 5 * t) 2 (by omega), r 260 t (by omega)]; exact hto t ht
theorem zXcm_s (g : zfG zXcm zZu zZu μ μ') : zfG zXst zZu zZu μ μ' := zfG_w g (fun a j w => by unfold zXcm zXfe at w; unfold zXst; omega) (fun _ _ w => w) (fun _ _ w => w)
theorem zYcm_s (g : zfG zYcm zZu zZu ν ν') : zfG zYst zZu zZu ν ν' := zfG_w g (fun a j w => by unfold zYcm at w; unfold zYst; omega) (fun _ _ w => w) (fun _ _ w => w)
/-- what comes of a mode's switches -/
def zCo (P T M m k per : Nat) (μ' ν' : xe_Mem) : Prop := ∃ m' k', zRg P T m' k' μ' ν' ∧ ((m' = m ∧ k' = k ∧ k < per) ∨ (m' < M ∧ k' = 0))
theorem z_change (hV : zVw P S M T Sw Sl m f n per k0 nk s s' d ns fm μ ν) (hG : zRg P T m k μ ν) (hk : k ≤ per) (hM : m < M) : ∃ μ' ν', zD109 (17 + 11 * m) μ = some (.inl none, μ') ∧ zr187 ν = zD187_43 ν' ∧ zCo P T M m k per μ' ν' ∧ zfG zXcm zZu zZu μ μ' ∧ zfG zYcm zZu zZu ν ν' := by
  have hz : zfu = 1000000000 := rfl
  have hl : ∀ (r e g G : Nat) (μ ν : xe_Mem), e + r = nk → r < g → 30 < G → zVw P S M T Sw Sl m f n per k0 nk s s' d ns fm μ ν → zRg P T m k μ ν → ∃ μ' ν', zD109_2 g (17 + 11 * m) (nI e) μ = some (.inl none, μ') ∧ zq_cI (zD189_2 (G + r) (nI (k0 + e)) ν) zF187 = zD187_43 ν' ∧ zCo P T M m k per μ' ν' ∧ zfG zXcm zZu zZu μ μ' ∧ zfG zYcm zZu zZu ν ν' := by
    intro r
    induction r with
    | zero =>
      intro e g G μ ν he hg hG' hV hG
      obtain ⟨g, rfl⟩ : ∃ k, g = k + 1 := ⟨g - 1, by omega⟩
      have : e = nk := by omega
      subst this
      obtain ⟨hR, ⟨b1, b2, b3, b4, b5, b6⟩, ⟨c1, c2, c3⟩, ht, ⟨r1, r2, r3⟩⟩ := id hV.1
      obtain ⟨⟨n1, n2, n3⟩, ⟨n4, n5⟩, n6, n7⟩ := id hV.2.2.1
      obtain ⟨-, ⟨e1, e2, e3, e4⟩, -⟩ := id hG
      have hq : zq_cI (zD189_2 (G + 0) (nI (k0 + e)) ν) zF187 = zF187 0 ν := by
        have h1 : zD189_2 ((G - 1 - (Sw - (k0 + e)) + 1) + (Sw - (k0 + e))) (nI (k0 + e)) ν = zD189_2 (G - 1 - (Sw - (k0 + e)) + 1) (nI (k0 + e + (Sw - (k0 + e)))) ν := z_skip (D := fun G i => zD189_2 G (nI i) ν) (Sw - (k0 + e)) (k0 + e) _ (fun G j w1 w2 => z189s n5 (by omega) n3 (by rw [e2]; exact n6 j (by omega) (by omega)))
        rw [show G + 0 = (G - 1 - (Sw - (k0 + e)) + 1) + (Sw - (k0 + e)) by omega, h1, show k0 + e + (Sw - (k0 + e)) = Sw by omega]
        have h2 : zD189_2 (G - 1 - (Sw - (k0 + e)) + 1) (nI Sw) ν = zint 0 ν := by
          show zD189_2_b (zD189_2 _) (nI Sw) ν = _
          unfold zD189_2_b
          rw [n5, if_pos (nI_le (Nat.le_refl _) (by omega))]
        rw [h2, zcI_ok]
      have hc : zD109_2 (g + 1) (17 + 11 * m) (nI e) μ = if k = per then some (.inl none, xe_setI μ 194 3 0) else some (.inl none, μ) := by
        show zD109_2_b (zD109_2 g) _ (nI e) μ = _
        unfold zD109_2_b zD109_56
        rw [zo_in (zS_mode m b1) (by omega), n4, if_pos (nI_le (Nat.le_refl _) (by omega)), e3, c2]
        by_cases w : k = per
        · rw [if_pos (by rw [w]), if_pos w]
          rfl
        · rw [if_neg (fun w' => w (by rw [zi_eq (by omega) (by omega)] at w'; exact w')), if_neg w]
      have hf : zF187 0 ν = if k = per then zD187_43 (xe_setI ν 203 72 0) else zD187_43 ν := by
        unfold zF187 zD187_40
        rw [if_pos rfl, e2, zx_nI b1 (by decide), e4, r2]
        by_cases w : k = per
        · rw [if_pos (by rw [w]), if_pos w]
          rfl
        · rw [if_neg (fun w' => w (by rw [zi_eq (by omega) (by omega)] at w'; exact w')), if_neg w]
      by_cases w : k = per
      · rw [if_pos w] at hc hf
        exact ⟨_, _, hc, hq.trans hf, ⟨m, 0, zRg_0 hG, Or.inr ⟨hM, rfl⟩⟩, zfG_I (by unfold zXcm; omega), zfG_I (by unfold zYcm; omega)⟩
      · rw [if_neg w] at hc hf
        exact ⟨_, _, hc, hq.trans hf, ⟨m, k, hG, Or.inl ⟨rfl, rfl, by omega⟩⟩, zfG_r, zfG_r⟩
    | succ r ih =>
      intro e g G μ ν he hg hG' hV hG
      obtain ⟨g, rfl⟩ : ∃ k, g = k + 1 := ⟨g - 1, by omega⟩
      obtain ⟨hR, ⟨b1, b2, b3, b4, b5, b6⟩, ⟨c1, c2, c3⟩, ht, ⟨r1, r2, r3⟩⟩ := id hV.1
      obtain ⟨⟨n1, n2, n3⟩, ⟨n4, n5⟩, n6, n7⟩ := id hV.2.2.1
      obtain ⟨⟨hsd, hsh⟩, ⟨e1, e2, e3, e4⟩, -, hs1, -⟩ := id hG
      obtain ⟨hP, hS, hM4, -, -, h17⟩ := id hV.2.2.2.2
      obtain ⟨ev, a, b, off, z, ⟨v1, v2, v3, v4, v5⟩, ⟨x1, x2, x3, x4⟩, ⟨y1, y2, y3, y4⟩, hcd, hep, h13⟩ := n7 e (by omega)
      have hmod : k % ev ≤ k := Nat.mod_le _ _
      have hkk : k0 + e < 16 := by omega
      have hc : zD109_2 (g + 1) (17 + 11 * m) (nI e) μ = if k % ev = 0 then zq_cI (zD110 (nI a) (nI b) 195 195 μ) fun x16 m14 => if x16 = 0 then zD109_2 g (17 + 11 * m) (nI (e + 1)) m14 else some (.inl none, zcmv m14 (xe_I m14 (24 + 11 * m + e) 4)) else zD109_2 g (17 + 11 * m) (nI (e + 1)) μ := by
        show zD109_2_b (zD109_2 g) _ (nI e) μ = _
        unfold zD109_2_b zD109_46
        rw [zo_in (zS_mode m b1) (by omega), n4, if_neg (nI_ge (by omega) (by omega)), hR _ _ _ (zR_m m b1).2.1, zs_some, za_in (zS_18 m b1).2.1 (by omega), zx_nI (show e < 4 by omega) (by decide), hR _ _ _ (zR_x m b1 e (by omega)), zs_some, zo_in (zS_x m b1 e (by omega)) (by omega), x1, e3, zd_ok (nI_ne0 v1 (by omega)), zn_mod (by omega) (by omega), x2, x3, nI_1]
        by_cases w : k % ev = 0
        · rw [if_pos (show nI (k % ev) = 0 by rw [w]; rfl), if_pos w]
          rfl
        · rw [if_neg (show ¬ nI (k % ev) = 0 from nI_ne0 (by omega) (by omega)), if_neg w]
      have hrr : zD189_2 (G + (r + 1)) (nI (k0 + e)) ν = if k % ev = 0 then zD189_24 (zD189_2 (G + r)) zfu (nI (k0 + e)) (nI 0) ν else zD189_2 (G + r) (nI (k0 + (e + 1))) ν := by
        show zD189_2_b (zD189_2 (G + r)) (nI (k0 + e)) ν = _
        unfold zD189_2_b zD189_61
        rw [n5, if_neg (nI_ge (by omega) (by omega)), zx_nI hkk (by decide), y1, e2, if_pos rfl, zx_nI hkk (by decide), y2, e4, zd_ok (nI_ne0 v1 (by omega)), zn_mod (by omega) (by omega), nI_1]
        by_cases w : k % ev = 0
        · rw [if_pos (show nI (k % ev) = 0 by rw [w]; rfl), if_pos w]
          rfl
        · rw [if_neg (show ¬ nI (k % ev) = 0 from nI_ne0 (by omega) (by omega)), if_neg w]
          rfl
      by_cases w : k % ev = 0
      · rw [if_pos w] at hc hrr
        obtain ⟨ν1, g1, g2, g3⟩ := z189g (c2 := zD189_2 (G + r)) (v1 := nI (k0 + e)) 12 zfu 0 ν (by omega) (by omega) (fun j hj => by omega)
        have G3 : zfG zYcm zZu zZu ν ν1 := zfG_w g3 (fun a j w => by unfold zYcm; omega) (fun _ _ w => w) (fun _ _ w => w)
        have hV1 := zVw_s (μ' := μ) hV zfG_r (zYcm_s G3)
        obtain ⟨-, -, ⟨-, -, -, n7'⟩, -⟩ := id hV1
        obtain ⟨ev', a', b', off', z', ⟨v1', v2', v3', v4', v5'⟩, ⟨x1', x2', x3', x4'⟩, ⟨y1', y2', y3', y4'⟩, hcd', hep', h13'⟩ := n7' e (by omega)
        have h255 : ∀ j, xe_I ν1 255 j = xe_I ν 255 j := fun j => (g3 255 (by decide) j).1 (by omega)
        obtain ⟨x, μ2, ν2, p1, p2, p3, p4, p5⟩ := z_value (v3 := 195) zVv_195 hP hS v3' v4' hcd' hep' h13' (fun j hj => by rw [g2 j (by omega), h255]; exact hsd.1 j hj) (fun j hj => by rw [(g3 257 (by decide) j).1 (by omega)]; exact hs1 j hj)
        have G4 : zfG zXcm zZu zZu μ μ2 := zfG_w p3 (fun a j w => Or.inl w) (fun _ _ w => w) (fun _ _ w => w)
        have G5 : zfG zYcm zZu zZu ν1 ν2 := zfG_w p4 (fun a j w => by unfold zYfo at w; unfold zYcm; omega) (fun _ _ w => w) (fun _ _ w => w)
        have hV2 := zVw_s hV1 (zXcm_s G4) (zYcm_s G5)
        have hG2 : zRg P T m k μ2 ν2 := zRg_f hG b4 p3 (zfG_t (zfG_w g3 (fun a j w => by omega) (fun _ _ w => w) (fun _ _ w => w)) (zfG_w p4 (fun a j w => by unfold zYfo at w; omega) (fun _ _ w => w) (fun _ _ w => w))) p5
        rw [x2] at x2'
        rw [x3] at x3'
        rw [← x2', ← x3'] at p1
        rw [p1, zcI_ok] at hc
        have hrr2 : zD189_2 (G + (r + 1)) (nI (k0 + e)) ν = if x = 0 then zD189_2 (G + r) (nI (k0 + (e + 1))) ν2 else zint 1 (zrmv2 ν2 (zV ν2 M (k0 + e))) := by
          rw [hrr, g1]
          unfold zg189 zD189_61
          rw [zx_nI hkk (by decide), y3', p2, zcI_ok, nI_1]
          by_cases w2 : x = 0
          · rw [if_pos w2, if_pos w2]
            rfl
          · rw [if_neg w2, if_neg w2, zx_nI hkk (by decide)]
            have h152 : zD152 (xe_L ν2 234 (k0 + e)) ν2 = zint (zV ν2 M (k0 + e)) ν2 := by
              unfold zD152
              exact z152l hV2.2.2.2.2.2.2.2.2.2 hM4 M zfu 0 (by omega) (by omega)
            rw [h152, zcI_ok]
            simp only [zq_m]
            unfold zrmv2
            rw [xu_In (by omega)]
        by_cases w2 : x = 0
        · rw [if_pos w2] at hc hrr2
          obtain ⟨μ', ν', q1, q2, q3, q4, q5⟩ := ih (e + 1) g G μ2 ν2 (by omega) (by omega) hG' hV2 hG2
          rw [← hrr2] at q2
          exact ⟨μ', ν', hc.trans q1, q2, q3, zfG_t G4 q4, zfG_t (zfG_t G3 G5) q5⟩
        · rw [if_neg w2] at hc hrr2
          obtain ⟨-, -, ⟨-, -, -, n7''⟩, -⟩ := id hV2
          obtain ⟨ev'', a'', b'', off'', z'', ⟨-, -, -, -, v5''⟩, ⟨-, -, -, x4''⟩, ⟨-, -, -, y4''⟩, -⟩ := n7'' e (by omega)
          rw [x4''] at hc
          rw [y4''] at hrr2
          refine ⟨_, xe_setI (zrmv2 ν2 (nI z'')) 203 72 0, hc, ?_, ⟨z'', 0, zRg_m hG2, Or.inr ⟨v5'', rfl⟩⟩, zfG_t G4 ?_, zfG_t (zfG_t G3 G5) ?_⟩
          · rw [hrr2, zcI_ok]
            unfold zF187 zD187_40
            rw [if_neg (show ¬ (1 : Int32) = 0 by decide)]
            rfl
          · unfold zcmv
            exact zfG_t (zfG_t (zfG_I (by unfold zXcm; omega)) (zfG_I (by unfold zXcm; omega))) (zfG_I (by unfold zXcm; omega))
          · unfold zrmv2
            exact zfG_t (zfG_t (zfG_I (by unfold zYcm; omega)) (zfG_I (by unfold zYcm; omega))) (zfG_I (by unfold zYcm; omega))
      · rw [if_neg w] at hc hrr
        obtain ⟨μ', ν', q1, q2, q3⟩ := ih (e + 1) g G μ ν (by omega) (by omega) hG' hV hG
        rw [← hrr] at q2
        exact ⟨μ', ν', hc.trans q1, q2, q3⟩
  obtain ⟨hR, ⟨b1, b2, b3, b4, b5, b6⟩, ⟨c1, c2, c3⟩, ht, ⟨r1, r2, r3⟩⟩ := id hV.1
  obtain ⟨⟨n1, n2, n3⟩, ⟨n4, n5⟩, n6, n7⟩ := id hV.2.2.1
  obtain ⟨-, ⟨e1, e2, e3, e4⟩, -⟩ := id hG
  obtain ⟨μ', ν', x1, x2, x3⟩ := hl nk 0 zfu (zfu - k0 - nk) μ ν (by omega) (by omega) (by omega) hV hG
  refine ⟨μ', ν', x1, ?_, x3⟩
  have e : zD189_2 ((zfu - k0 - nk + nk) + k0) (nI 0) ν = zD189_2 (zfu - k0 - nk + nk) (nI (0 + k0)) ν := z_skip (D := fun G i => zD189_2 G (nI i) ν) k0 0 _ (fun G j w1 w2 => z189s n5 (by omega) n3 (by rw [e2]; exact n6 j (by omega) (by omega)))
  rw [Nat.zero_add] at e
  have e9 : zD189_2 zfu (nI 0) ν = zD189_2 ((zfu - k0 - nk + nk) + k0) (nI 0) ν := congrArg (fun q => zD189_2 q (nI 0) ν) (by omega)
  unfold zr187 zD189
  rw [show zD189_2 zfu 0 ν = _ from e9.trans e]
  exact x2
end
