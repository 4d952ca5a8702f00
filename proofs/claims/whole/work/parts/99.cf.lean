/-! running: what both hold of a mode while they run -/
def zXrun (a j : Nat) : Prop := 203 ≤ a ∨ a ≤ 2 ∨ (a = 8 ∧ (j = 4 ∨ j = 6)) ∨ a = 11 ∨ a = 12 ∨ a = 13 ∨ (61 ≤ a ∧ a < 181 ∧ 2 ≤ (a - 61) % 5) ∨ (194 ≤ a ∧ a ≤ 202)
def zYrun (a j : Nat) : Prop := a < 203 ∨ a = 204 ∨ a = 205 ∨ (a = 203 ∧ (j ≤ 3 ∨ (70 ≤ j ∧ j ≤ 77))) ∨ (250 ≤ a ∧ a ≤ 264)
/-- the other one's cells -/
def zYo (a j : Nat) : Prop := 203 ≤ a ∧ j = j
def zZo (a j : Nat) : Prop := (a < 203 ∨ a = 264) ∧ j = j
/-- a task's instructions -/
def zTi2 (P S t w : Nat) (μ ν : xe_Mem) : Prop := ∃ a b off ab, (ab < 4096 ∧ b ≤ 3000 ∧ b + off < 6000) ∧ (xe_I μ (61 + 5 * t) 6 = nI ab ∧ xe_I μ (61 + 5 * t) 8 = nI a ∧ xe_I μ (61 + 5 * t) 9 = nI b ∧ xe_I ν 224 t = nI (a + off)) ∧ (∀ p, p < 12 → xe_I ν 227 (12 * t + p) = zb01 (Nat.testBit ab p)) ∧ zCd μ ν off a b ∧ zRw P S 0 μ a b w ∧ xe_I ν 239 (b + off) = 13
/-- the switch k, the mode's e-th -/
def zSi2 (P S M m k e : Nat) (μ ν : xe_Mem) : Prop := ∃ ev a b off z, (1 ≤ ev ∧ ev ≤ 120 ∧ b ≤ 3000 ∧ b + off < 6000 ∧ z < M) ∧ (xe_I μ (24 + 11 * m + e) 0 = nI ev ∧ xe_I μ (24 + 11 * m + e) 1 = nI a ∧ xe_I μ (24 + 11 * m + e) 2 = nI b ∧ xe_I μ (24 + 11 * m + e) 4 = nI z) ∧ (xe_I ν 231 k = nI m ∧ xe_I ν 232 k = nI ev ∧ xe_I ν 233 k = nI (a + off) ∧ zV ν M k = nI z) ∧ zCd μ ν off a b ∧ zEq P S μ a b ∧ xe_I ν 239 (b + off) = 13
def zSl2 (P T m f n per s s' Sl : Nat) (d : Nat → Nat → Nat) (ns fm : Nat → Nat) (μ ν : xe_Mem) : Prop := (Sl ≤ 480 ∧ s ≤ s' ∧ s' ≤ Sl ∧ xe_I ν 203 43 = nI Sl) ∧ (∀ x, x < Sl → ¬ (s ≤ x ∧ x < s') → ¬ xe_I ν 236 x = nI m) ∧ (∀ x, s ≤ x → x < s' → xe_I ν 236 x = nI m ∧ ∃ k, k < per ∧ xe_I ν 237 x = nI k) ∧ (∀ i i' k k', s ≤ i → i < i' → i' < s' → k < 120 → k' < 120 → xe_I ν 237 i = nI k → xe_I ν 237 i' = nI k' → k < k') ∧ zFi d f n per ns fm ∧ (∀ t, f ≤ t → t < f + n → ns t = zNs ν T P t) ∧
  (∀ x, s ≤ x → x < s' → ∀ j, j < per → xe_I ν 237 x = nI j → (xe_I ν 238 x = -1 ∧ xe_R μ (21 + 11 * m) j = none) ∨ ∃ t kk p, f ≤ t ∧ t < f + n ∧ kk < ns t ∧ xe_I ν 238 x = nI (fm t + j / d 0 t * ns t + kk) ∧ xe_R μ (21 + 11 * m) j = some (61 + 5 * t) ∧ p < P ∧ zSn ν T t p = true ∧ zct (zSn ν T t) p = kk ∧ xe_I μ (22 + 11 * m) j = nI p) ∧
  (∀ j, j < per → (∀ x, s ≤ x → x < s' → ¬ xe_I ν 237 x = nI j) → xe_R μ (21 + 11 * m) j = none)
def zVw (P S M T Sw Sl m f n per k0 nk s s' : Nat) (d : Nat → Nat → Nat) (ns fm : Nat → Nat) (μ ν : xe_Mem) : Prop := zSt m f n per T d ns fm μ ν ∧ (∀ t, f ≤ t → t < f + n → zTi2 P S t (d 1 t) μ ν) ∧ ((nk ≤ 4 ∧ k0 + nk ≤ Sw ∧ Sw ≤ 16) ∧ (xe_I μ (17 + 11 * m) 6 = nI nk ∧ xe_I ν 203 37 = nI Sw) ∧ (∀ k, k < Sw → ¬ (k0 ≤ k ∧ k < k0 + nk) → ¬ xe_I ν 231 k = nI m) ∧ ∀ e, e < nk → zSi2 P S M m (k0 + e) e μ ν) ∧ zSl2 P T m f n per s s' Sl d ns fm μ ν ∧ (P ≤ 12 ∧ S ≤ 4 ∧ M ≤ 4 ∧ xe_I μ 7 4 = nI P ∧ xe_I ν 203 12 = nI P ∧ xe_I ν 203 17 = nI M)
section
variable {P S M T Sw Sl m f n per k0 nk s s' k e t w : Nat} {d : Nat → Nat → Nat} {ns fm : Nat → Nat} {μ ν μ' ν' : xe_Mem}
theorem zTi2_k (h : zTi2 P S t w μ ν) (ht : t < 24) (g1 : zfG zXrun zYo zYo μ μ') (r1 : zRt μ') (g2 : zfG zYrun zZo zZo ν ν') : zTi2 P S t w μ' ν' := by
  obtain ⟨a, b, off, ab, h1, ⟨h2, h3, h4, h5⟩, h6, h7, h8, h9⟩ := h
  have k1 : ∀ a j, a < 265 → ¬ zXrun a j → xe_I μ' a j = xe_I μ a j := fun a j q1 q2 => (g1 a q1 j).1 q2
  have k2 : ∀ a j, a < 265 → ¬ zYrun a j → xe_I ν' a j = xe_I ν a j := fun a j q1 q2 => (g2 a q1 j).1 q2
  have kt : ∀ j, xe_I μ' (61 + 5 * t) j = xe_I μ (61 + 5 * t) j := fun j => k1 _ j (by omega) (by unfold zXrun; omega)
  have c9 : ∀ i, xe_I μ' 9 i = xe_I μ 9 i ∧ xe_I μ' 10 i = xe_I μ 10 i := fun i => ⟨k1 9 i (by decide) (by unfold zXrun; omega), k1 10 i (by decide) (by unfold zXrun; omega)⟩
  have r9 : ∀ i, xe_I ν' 239 i = xe_I ν 239 i ∧ xe_I ν' 240 i = xe_I ν 240 i := fun i => ⟨k2 239 i (by decide) (by unfold zYrun; omega), k2 240 i (by decide) (by unfold zYrun; omega)⟩
  exact ⟨a, b, off, ab, h1, ⟨(kt 6).trans h2, (kt 8).trans h3, (kt 9).trans h4, (k2 224 t (by decide) (by unfold zYrun; omega)).trans h5⟩, fun p hp => (k2 227 _ (by decide) (by unfold zYrun; omega)).trans (h6 p hp), zCd_c h7 (fun i _ => c9 i) (fun i _ => r9 i), zRw_f h8 (fun i _ _ => c9 i), (r9 _).1.trans h9⟩
theorem zV_k (g2 : zfG zYrun zZo zZo ν ν') : zV ν' M k = zV ν M k := by
  unfold zV
  have e : ∀ a j, 203 ≤ a → a < 264 → xe_L ν' a j = xe_L ν a j := fun a j hb ha => (g2 a (by omega) j).2.1 (by unfold zZo; omega)
  simp only [e 213 _ (by decide) (by decide), e 234 _ (by decide) (by decide)]
theorem zSi2_k (h : zSi2 P S M m k e μ ν) (hm : m < 4) (he : e < 4) (g1 : zfG zXrun zYo zYo μ μ') (r1 : zRt μ') (g2 : zfG zYrun zZo zZo ν ν') : zSi2 P S M m k e μ' ν' := by
  obtain ⟨ev, a, b, off, z, h1, ⟨h2, h3, h4, h5⟩, ⟨h6, h7, h8, h9⟩, h10, ⟨j, h11⟩, h12⟩ := h
  have k1 : ∀ a j, a < 265 → ¬ zXrun a j → xe_I μ' a j = xe_I μ a j := fun a j q1 q2 => (g1 a q1 j).1 q2
  have k2 : ∀ a j, a < 265 → ¬ zYrun a j → xe_I ν' a j = xe_I ν a j := fun a j q1 q2 => (g2 a q1 j).1 q2
  have kt : ∀ j, xe_I μ' (24 + 11 * m + e) j = xe_I μ (24 + 11 * m + e) j := fun j => k1 _ j (by omega) (by unfold zXrun; omega)
  have c9 : ∀ i, xe_I μ' 9 i = xe_I μ 9 i ∧ xe_I μ' 10 i = xe_I μ 10 i := fun i => ⟨k1 9 i (by decide) (by unfold zXrun; omega), k1 10 i (by decide) (by unfold zXrun; omega)⟩
  have r9 : ∀ i, xe_I ν' 239 i = xe_I ν 239 i ∧ xe_I ν' 240 i = xe_I ν 240 i := fun i => ⟨k2 239 i (by decide) (by unfold zYrun; omega), k2 240 i (by decide) (by unfold zYrun; omega)⟩
  have kr : ∀ a, 231 ≤ a → a ≤ 233 → xe_I ν' a k = xe_I ν a k := fun a w1 w2 => k2 a k (by omega) (by unfold zYrun; omega)
  exact ⟨ev, a, b, off, z, h1, ⟨(kt 0).trans h2, (kt 1).trans h3, (kt 2).trans h4, (kt 4).trans h5⟩, ⟨(kr 231 (by omega) (by omega)).trans h6, (kr 232 (by omega) (by omega)).trans h7, (kr 233 (by omega) (by omega)).trans h8, (zV_k g2).trans h9⟩, zCd_c h10 (fun i _ => c9 i) (fun i _ => r9 i), ⟨j, zEy_c j a b h11 (fun i _ _ => c9 i)⟩, (r9 _).1.trans h12⟩
theorem zSt_u (h : zSt m f n per T d ns fm μ ν) (g1 : zfG zXrun zYo zYo μ μ') (hRn : zRt μ') (g2 : zfG zYrun zZo zZo ν ν') : zSt m f n per T d ns fm μ' ν' := by
  obtain ⟨hR, ⟨b1, b2, b3, b4, b5, b6⟩, ⟨c1, c2, c3⟩, ht, ⟨r1, r2, r3⟩⟩ := h
  have k1 : ∀ a j, a < 265 → ¬ zXrun a j → xe_I μ' a j = xe_I μ a j := fun a j q1 q2 => (g1 a q1 j).1 q2
  have k2 : ∀ a j, a < 265 → ¬ zYrun a j → xe_I ν' a j = xe_I ν a j := fun a j q1 q2 => (g2 a q1 j).1 q2
  refine ⟨hRn, ⟨b1, b2, b3, b4, b5, b6⟩, ⟨(k1 _ _ (by omega) (by unfold zXrun; omega)).trans c1, (k1 _ _ (by omega) (by unfold zXrun; omega)).trans c2, fun i hi => ((g1 _ (by omega) i).2.2 (by unfold zYo; omega)).trans (c3 i hi)⟩, fun t h1 h2 => ?_, ⟨(k2 _ _ (by omega) (by unfold zYrun; omega)).trans r1, (k2 _ _ (by omega) (by unfold zYrun; omega)).trans r2, fun t h1 h2 => ?_⟩⟩
  · obtain ⟨q, ⟨u0, u1, u2, u3, u4, u5⟩, ⟨v1, v2, v3, v4, v5, v6, v7⟩⟩ := ht t h1 h2
    have kt : ∀ j, xe_I μ' (61 + 5 * t) j = xe_I μ (61 + 5 * t) j := fun j => k1 _ j (by omega) (by unfold zXrun; omega)
    have kr : ∀ a, 218 ≤ a → a ≤ 229 → xe_I ν' a t = xe_I ν a t := fun a w1 w2 => k2 a t (by omega) (by unfold zYrun; omega)
    exact ⟨q, ⟨(kt 0).trans u0, (kt 2).trans u1, (kt 3).trans u2, (kt 4).trans u3, (kt 11).trans u4, (kt 12).trans u5⟩, ⟨(kr 218 (by omega) (by omega)).trans v1, (kr 219 (by omega) (by omega)).trans v2, (kr 221 (by omega) (by omega)).trans v3, (kr 222 (by omega) (by omega)).trans v4, (kr 228 (by omega) (by omega)).trans v5, (kr 229 (by omega) (by omega)).trans v6, (kr 220 (by omega) (by omega)).trans v7⟩⟩
  · rw [k2 218 t (by omega) (by unfold zYrun; omega)]
    exact r3 t h1 h2
theorem zSl2_k (h : zSl2 P T m f n per s s' Sl d ns fm μ ν) (hm : m < 4) (g1 : zfG zXrun zYo zYo μ μ') (r1 : zRt μ') (g2 : zfG zYrun zZo zZo ν ν') : zSl2 P T m f n per s s' Sl d ns fm μ' ν' := by
  obtain ⟨⟨h1, h2, h3, h4⟩, h5, h6, h7, h8, h9, h10, h11⟩ := h
  have k1 : ∀ a j, a < 265 → ¬ zXrun a j → xe_I μ' a j = xe_I μ a j := fun a j q1 q2 => (g1 a q1 j).1 q2
  have k2 : ∀ a j, a < 265 → ¬ zYrun a j → xe_I ν' a j = xe_I ν a j := fun a j q1 q2 => (g2 a q1 j).1 q2
  have kR : ∀ a j, a < 203 → xe_R μ' a j = xe_R μ a j := fun a j ha => (g1 a (by omega) j).2.2 (by unfold zYo; omega)
  have kr : ∀ a j, 206 ≤ a → a ≤ 249 → xe_I ν' a j = xe_I ν a j := fun a j w1 w2 => k2 a j (by omega) (by unfold zYrun; omega)
  obtain ⟨eS, eN⟩ := zNs_k (P := P) (T := T) (ν := ν) (ν' := ν') (fun k => kr 219 k (by omega) (by omega)) (fun k => kr 226 k (by omega) (by omega)) (fun k => kr 227 k (by omega) (by omega))
  refine ⟨⟨h1, h2, h3, (k2 _ _ (by omega) (by unfold zYrun; omega)).trans h4⟩, fun x w1 w2 => ?_, fun x w1 w2 => ?_, fun i i' a a' w1 w2 w3 w4 w5 w6 w7 => ?_, h8, fun t w1 w2 => ?_, fun x w1 w2 j w3 w4 => ?_, fun j w1 w2 => ?_⟩
  · rw [kr 236 x (by omega) (by omega)]
    exact h5 x w1 w2
  · rw [kr 236 x (by omega) (by omega), kr 237 x (by omega) (by omega)]
    exact h6 x w1 w2
  · rw [kr 237 _ (by omega) (by omega)] at w6 w7
    exact h7 i i' a a' w1 w2 w3 w4 w5 w6 w7
  · rw [eN]
    exact h9 t w1 w2
  · rw [kr 237 x (by omega) (by omega)] at w4
    rw [kr 238 x (by omega) (by omega), kR _ j (by omega), k1 (22 + 11 * m) j (by omega) (by unfold zXrun; omega), eS]
    exact h10 x w1 w2 j w3 w4
  · rw [kR _ j (by omega)]
    exact h11 j w1 (fun x w3 w4 => by rw [← kr 237 x (by omega) (by omega)]; exact w2 x w3 w4)
theorem zVw_k (h : zVw P S M T Sw Sl m f n per k0 nk s s' d ns fm μ ν) (g1 : zfG zXrun zYo zYo μ μ') (r1 : zRt μ') (g2 : zfG zYrun zZo zZo ν ν') : zVw P S M T Sw Sl m f n per k0 nk s s' d ns fm μ' ν' := by
  obtain ⟨h1, h2, ⟨h3, ⟨h4, h5⟩, h6, h7⟩, h8, ⟨h9, h10, h11, h12, h13, h14⟩⟩ := h
  have hm := h1.2.1.1
  have hT := h1.2.1.2.2.2.1
  have hf := h1.2.1.2.2.1
  have k1 : ∀ a j, a < 265 → ¬ zXrun a j → xe_I μ' a j = xe_I μ a j := fun a j q1 q2 => (g1 a q1 j).1 q2
  have k2 : ∀ a j, a < 265 → ¬ zYrun a j → xe_I ν' a j = xe_I ν a j := fun a j q1 q2 => (g2 a q1 j).1 q2
  refine ⟨zSt_u h1 g1 r1 g2, fun t w1 w2 => zTi2_k (h2 t w1 w2) (by omega) g1 r1 g2, ⟨h3, ⟨(k1 _ _ (by omega) (by unfold zXrun; omega)).trans h4, (k2 _ _ (by omega) (by unfold zYrun; omega)).trans h5⟩, fun k w1 w2 => ?_, fun e he => zSi2_k (h7 e he) hm (by omega) g1 r1 g2⟩, zSl2_k h8 hm g1 r1 g2, ⟨h9, h10, h11, (k1 _ _ (by omega) (by unfold zXrun; omega)).trans h12, (k2 _ _ (by omega) (by unfold zYrun; omega)).trans h13, (k2 _ _ (by omega) (by unfold zYrun; omega)).trans h14⟩⟩
  rw [k2 231 k (by omega) (by unfold zYrun; omega)]
  exact h6 k w1 w2
end
/-- all modes -/
def zAll (P S M T Sw Sl : Nat) (F K Z pr : Nat → Nat) (μ ν : xe_Mem) : Prop := (F 0 = 0 ∧ F M = T ∧ 1 ≤ M ∧ M ≤ 4 ∧ P ≤ 12 ∧ S ≤ 4 ∧ T ≤ 24) ∧ (∀ m, m < M → F m ≤ F (m + 1) ∧ F (m + 1) ≤ F m + 6) ∧ ∀ m, m < M → ∃ d ns fm, zVw P S M T Sw Sl m (F m) (F (m + 1) - F m) (pr m) (K m) (K (m + 1) - K m) (Z m) (Z (m + 1)) d ns fm μ ν
section
variable {N P S M T Sw Sl L : Nat} {F K Z pr : Nat → Nat} {μ ν μ' ν' : xe_Mem}
theorem zAll_k (h : zAll P S M T Sw Sl F K Z pr μ ν) (g1 : zfG zXrun zYo zYo μ μ') (r1 : zRt μ') (g2 : zfG zYrun zZo zZo ν ν') : zAll P S M T Sw Sl F K Z pr μ' ν' := ⟨h.1, h.2.1, fun m hm => by
  obtain ⟨d, ns, fm, w⟩ := h.2.2 m hm
  exact ⟨d, ns, fm, zVw_k w g1 r1 g2⟩⟩
theorem z_view (h : zPq N P S M T Sw Sl L μ ν) : ∃ F K Z pr, zAll P S M T Sw Sl F K Z pr μ ν ∧ ∀ m, m < M → zMp N P S L (L + T + Sw) μ ν m (pr m) (F m) (F (m + 1)) (K m) (K (m + 1)) (Z m) (Z (m + 1)) ∧ zVm P T m (F m) (F (m + 1) - F m) (pr m) (Z m) (Z (m + 1)) μ ν := by
  obtain ⟨hK, ⟨c1, c2, c3, c4, c5, c6, c7⟩, ⟨m1, m4, f6, k4, s120⟩, hdij, F, K, Z, pr, ⟨F0, K0, Z0, FM, KM, ZM⟩, hmd⟩ := h
  obtain ⟨hR, hNp, ⟨p1, p2, p3⟩, ct, cm, cv⟩ := id hK
  refine ⟨F, K, Z, pr, ⟨⟨F0, FM, m1, m4, hNp.1, hNp.2.1, by omega⟩, fun m hm => ⟨(hmd m hm).1.1.2.2.1, (hmd m hm).1.1.2.2.2.1⟩, fun m hm => ?_⟩, fun m hm => ⟨(hmd m hm).1, (hmd m hm).2.2⟩⟩
  have hKm : ∀ b a, a ≤ b → b ≤ M → K a ≤ K b := zmono2 (fun m hm => (hmd m hm).1.1.2.2.2.2.1)
  have hZm : ∀ b a, a ≤ b → b ≤ M → Z a ≤ Z b := zmono2 (fun m hm => (hmd m hm).1.1.2.2.2.2.2.2.1)
  obtain ⟨⟨b, ⟨q1, q2, q3, q4, q5⟩, qr, qt, qe, qs, qi⟩, hx, d, ns, fm, tot, hst, hF, ht, -, hA, hB, -⟩ := hmd m hm
  obtain ⟨b1, b2, b3, b4, b5, b6, b7, b8⟩ := b
  have hKM := hKm M (m + 1) (by omega) (Nat.le_refl _)
  have hZM := hZm M (m + 1) (by omega) (Nat.le_refl _)
  refine ⟨d, ns, fm, hst, fun t w1 w2 => ?_, ⟨⟨by omega, by omega, by omega⟩, ⟨q4, c5⟩, fun k w1 w2 w3 => ?_, fun e he => ?_⟩, ⟨⟨by omega, b7, by omega, c6⟩, fun x w1 w2 w3 => ?_, qs, qi, hF, fun t w1 w2 => (ht t w1 w2).1, hA, hB⟩, ⟨hNp.1, hNp.2.1, m4, p1, hNp.2.2.1, c4⟩⟩
  · obtain ⟨nd, tm, sp, w, lc, ab, ub, a, b, off, ⟨-, -, -, u4, -, u6, -, -, u9, u10⟩, ⟨-, -, -, x4, -, x6, -, x8, x9⟩, ⟨-, -, -, -, -, -, y7⟩, hb, hcd, hrw, h13⟩ := qt t w1 (by omega)
    have hab : ab < 4096 := Nat.lt_of_lt_of_le u6 (show 2 ^ P ≤ 2 ^ 12 from Nat.pow_le_pow_right (by decide) hNp.1)
    obtain ⟨⟨-, -, -, z4, -⟩, ⟨-, -, -, z5, -⟩, -⟩ := hst.2.2.2.1 t w1 w2
    have hw : w = d 1 t := by
      have e := z5.symm.trans x4
      rw [zi_eq (by omega) (by omega)] at e
      omega
    subst hw
    exact ⟨a, b, off, ab, ⟨hab, by omega, by omega⟩, ⟨x6, x8, x9, y7⟩, fun p hp => (hb p hp).1, hcd, hrw, h13⟩
  · obtain ⟨m', r1, r2, r3⟩ := zfind M K0 k (by omega)
    obtain ⟨⟨b', -, -, -, qe', -⟩, -⟩ := hmd m' r1
    obtain ⟨ev, a, b, off, tk, -, -, ⟨e1, -⟩, -⟩ := qe' (k - K m') (by omega)
    rw [show K m' + (k - K m') = k by omega] at e1
    rw [e1, zi_eq (by omega) (by omega)] at w3
    subst w3
    omega
  · obtain ⟨z, z1, z2, z3⟩ := hx e he
    obtain ⟨ev, a, b, off, tk, ⟨e1, e2, e3, e4, e5, e6⟩, ⟨f1, f2, f3, f4⟩, ⟨g1, g2, g3⟩, hcd, hep, h13, -, -⟩ := qe e he
    exact ⟨ev, a, b, off, z, ⟨e1, by omega, by omega, by omega, z1⟩, ⟨f1, f2, f3, z2⟩, ⟨g1, g2, g3, z3⟩, hcd, hep, h13⟩
  · obtain ⟨m', r1, r2, r3⟩ := zfind M Z0 x (by omega)
    obtain ⟨⟨b', -, -, -, -, qs', -⟩, -⟩ := hmd m' r1
    rw [(qs' x r2 r3).1, zi_eq (by omega) (by omega)] at w3
    subst w3
    omega
end
