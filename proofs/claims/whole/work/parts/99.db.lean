/-! what both hold from call to call -/
def zGk (P t : Nat) (μ ν : xe_Mem) : Prop := (xe_I μ (61 + 5 * t) 1 = xe_I ν 218 t ∧ xe_I μ (61 + 5 * t) 2 = xe_I ν 219 t ∧ xe_I μ (61 + 5 * t) 3 = xe_I ν 221 t ∧ xe_I μ (61 + 5 * t) 4 = xe_I ν 222 t ∧ xe_I μ (61 + 5 * t) 5 = xe_I ν 223 t ∧ xe_I μ (61 + 5 * t) 13 = xe_I ν 225 t) ∧ (∃ w, w ≤ 200 ∧ xe_I ν 222 t = nI w) ∧ ∃ ab, ab < 2 ^ P ∧ xe_I μ (61 + 5 * t) 6 = nI ab ∧ ∀ p, p < 12 → xe_I ν 227 (12 * t + p) = zb01 (Nat.testBit ab p)
def zGm (Sl s s' m : Nat) (μ ν : xe_Mem) : Prop := (Sl ≤ 480 ∧ s' ≤ Sl ∧ xe_I ν 203 43 = nI Sl) ∧ (∀ x, x < Sl → ¬ (s ≤ x ∧ x < s') → ¬ xe_I ν 236 x = nI m) ∧ (∀ x, s ≤ x → x < s' → xe_I ν 236 x = nI m) ∧ ∃ tot, tot ≤ 1440 ∧ (xe_I μ (17 + 11 * m) 10 = nI tot ∧ xe_I ν 216 m = nI tot ∧ xe_I μ (17 + 11 * m) 12 = xe_I ν 215 m) ∧ ∀ i, i < tot → (∃ x, s ≤ x ∧ x < s' ∧ xe_I ν 238 x = nI i ∧ xe_I μ (23 + 11 * m) i = xe_I ν 237 x ∧ ∀ y, s ≤ y → y < s' → xe_I ν 238 y = nI i → y = x) ∨ ((∀ x, s ≤ x → x < s' → ¬ xe_I ν 238 x = nI i) ∧ xe_I μ (23 + 11 * m) i = -1)
def zGt (P S M T Sl : Nat) (Z : Nat → Nat) (μ ν : xe_Mem) : Prop := (P ≤ 12 ∧ S ≤ 4 ∧ M ≤ 4 ∧ T ≤ 24) ∧ ((xe_I μ 7 4 = nI P ∧ xe_I μ 7 5 = nI S ∧ xe_I μ 7 6 = nI M ∧ xe_I μ 7 7 = nI T) ∧ (xe_I ν 203 12 = nI P ∧ xe_I ν 203 15 = nI S ∧ xe_I ν 203 17 = nI M ∧ xe_I ν 203 22 = nI T)) ∧ (∀ j, j < P → xe_I μ 14 j = xe_I ν 211 j) ∧ (∀ t, t < T → zGk P t μ ν) ∧ ∀ m, m < M → zGm Sl (Z m) (Z (m + 1)) m μ ν
def zJt (μ ν : xe_Mem) : Prop := ∃ (tb tx : Nat → Nat) (s n : Nat), (s ≤ 3000 ∧ s % 20 = 0 ∧ n ≤ 3000) ∧ (xe_I μ 0 2 = nI s ∧ xe_I ν 203 1 = nI s ∧ xe_I μ 0 3 = nI n ∧ xe_I ν 203 3 = nI n) ∧ zBc (xe_I μ 1) tb s ∧ zBr (xe_I ν 204) tb s ∧ zBc (xe_I μ 2) tx n ∧ zBr (xe_I ν 205) tx n ∧ ∀ w, w < 11 → xe_L ν 206 w = nL (zlr (zwd w).reverse)
def zJc (μ : xe_Mem) : Prop := (zRt μ ∧ ∃ g, xe_sh μ = xv_S ++ g) ∧ (∀ t, t < 24 → xe_I μ (61 + 5 * t) 0 = nI t) ∧ (∀ i, i < 4 → xe_I μ (17 + 11 * i) 0 = nI i) ∧ ∃ u, u < 4096 ∧ xe_I μ 181 9 = nI u
def zJp (μ ν : xe_Mem) : Prop := ∃ (P S M T Sw Sl : Nat) (F K Z pr : Nat → Nat), zGt P S M T Sl Z μ ν ∧ (M = 0 ∨ zAll P S M T Sw Sl F K Z pr μ ν) ∧ ((xe_I μ 194 1 = 0 ∧ xe_I ν 203 70 = 0) ∨ (xe_I μ 194 1 = 1 ∧ xe_I ν 203 70 = 1 ∧ zAll P S M T Sw Sl F K Z pr μ ν ∧ zRu P M T F pr μ ν))
def zJJ (μ ν : xe_Mem) : Prop := zJt μ ν ∧ zJc μ ∧ zJp μ ν
/-- the class's cells, the reference's cells are as they were -/
def zeC (μ μ' : xe_Mem) : Prop := (∀ a, a < 203 → ∀ j, xe_I μ' a j = xe_I μ a j ∧ xe_L μ' a j = xe_L μ a j ∧ xe_R μ' a j = xe_R μ a j) ∧ zRt μ' ∧ ∃ g, xe_sh μ' = xv_S ++ g
/-- what a run hangs on is as it was -/
def zwC (μ μ' : xe_Mem) : Prop := (∀ a, 61 ≤ a → a < 203 → ∀ j, xe_I μ' a j = xe_I μ a j) ∧ ∃ g, xe_sh μ' = xv_S ++ g
def zwR (ν ν' : xe_Mem) : Prop := ∀ a j, (a = 203 ∧ 70 ≤ j) ∨ (206 ≤ a ∧ a < 264) → xe_I ν' a j = xe_I ν a j
def zeR (ν ν' : xe_Mem) : Prop := ∀ a, 203 ≤ a → a < 264 → ∀ j, (¬ (a = 203 ∧ j = 0) → xe_I ν' a j = xe_I ν a j) ∧ xe_L ν' a j = xe_L ν a j ∧ xe_R ν' a j = xe_R ν a j
section
variable {P S M T Sw Sl m k t : Nat} {F K Z pr : Nat → Nat} {μ ν μ' ν' : xe_Mem}
theorem zGt_k (h : zGt P S M T Sl Z μ ν) (g1 : zfG zXrun zYo zYo μ μ') (g2 : zfG zYrun zZo zZo ν ν') : zGt P S M T Sl Z μ' ν' := by
  obtain ⟨⟨h1, h2, h3, h4⟩, ⟨⟨c4, c5, c6, c7⟩, ⟨r12, r15, r17, r22⟩⟩, h5, h6, h7⟩ := h
  have k1 : ∀ a j, a < 265 → ¬ zXrun a j → xe_I μ' a j = xe_I μ a j := fun a j q1 q2 => (g1 a q1 j).1 q2
  have k2 : ∀ a j, a < 265 → ¬ zYrun a j → xe_I ν' a j = xe_I ν a j := fun a j q1 q2 => (g2 a q1 j).1 q2
  have kc : ∀ a j, 3 ≤ a ∧ a < 61 → a ≠ 8 → a ≠ 11 → a ≠ 12 → a ≠ 13 → xe_I μ' a j = xe_I μ a j := fun a j w1 w2 w3 w4 w5 => k1 a j (by omega) (by unfold zXrun; omega)
  have kt : ∀ t j, t < 24 → xe_I μ' (61 + 5 * t) j = xe_I μ (61 + 5 * t) j := fun t j w => k1 _ j (by omega) (by unfold zXrun; omega)
  have kr : ∀ a j, 206 ≤ a → a ≤ 249 → xe_I ν' a j = xe_I ν a j := fun a j w1 w2 => k2 a j (by omega) (by unfold zYrun; omega)
  have k3 : ∀ j, 4 ≤ j → j < 70 → xe_I ν' 203 j = xe_I ν 203 j := fun j w1 w2 => k2 203 j (by omega) (by unfold zYrun; omega)
  refine ⟨⟨h1, h2, h3, h4⟩, ⟨⟨(kc 7 4 (by omega) (by omega) (by omega) (by omega) (by omega)).trans c4, (kc 7 5 (by omega) (by omega) (by omega) (by omega) (by omega)).trans c5, (kc 7 6 (by omega) (by omega) (by omega) (by omega) (by omega)).trans c6, (kc 7 7 (by omega) (by omega) (by omega) (by omega) (by omega)).trans c7⟩, ⟨(k3 12 (by omega) (by omega)).trans r12, (k3 15 (by omega) (by omega)).trans r15, (k3 17 (by omega) (by omega)).trans r17, (k3 22 (by omega) (by omega)).trans r22⟩⟩, fun j hj => ?_, fun t ht => ?_, fun m hm => ?_⟩
  · rw [kc 14 j (by omega) (by omega) (by omega) (by omega) (by omega), kr 211 j (by omega) (by omega)]
    exact h5 j hj
  · obtain ⟨⟨a1, a2, a3, a4, a5, a6⟩, ⟨w, b1, b2⟩, ab, d1, d2, d3⟩ := h6 t ht
    refine ⟨?_, ⟨w, b1, (kr 222 t (by omega) (by omega)).trans b2⟩, ab, d1, (kt t 6 (by omega)).trans d2, fun p hp => (kr 227 _ (by omega) (by omega)).trans (d3 p hp)⟩
    rw [kt t 1 (by omega), kt t 2 (by omega), kt t 3 (by omega), kt t 4 (by omega), kt t 5 (by omega), kt t 13 (by omega), kr 218 t (by omega) (by omega), kr 219 t (by omega) (by omega), kr 221 t (by omega) (by omega), kr 222 t (by omega) (by omega), kr 223 t (by omega) (by omega), kr 225 t (by omega) (by omega)]
    exact ⟨a1, a2, a3, a4, a5, a6⟩
  · obtain ⟨⟨a1, a2, a3⟩, a4, a5, tot, b1, ⟨b2, b3, b4⟩, b5⟩ := h7 m hm
    have n17 : ∀ j, xe_I μ' (17 + 11 * m) j = xe_I μ (17 + 11 * m) j := fun j => kc _ j (by omega) (by omega) (by omega) (by omega) (by omega)
    have n23 : ∀ j, xe_I μ' (23 + 11 * m) j = xe_I μ (23 + 11 * m) j := fun j => kc _ j (by omega) (by omega) (by omega) (by omega) (by omega)
    refine ⟨⟨a1, a2, (k3 43 (by omega) (by omega)).trans a3⟩, fun x w1 w2 => ?_, fun x w1 w2 => (kr 236 x (by omega) (by omega)).trans (a5 x w1 w2), tot, b1, ⟨(n17 10).trans b2, (kr 216 m (by omega) (by omega)).trans b3, ?_⟩, fun i hi => ?_⟩
    · rw [kr 236 x (by omega) (by omega)]
      exact a4 x w1 w2
    · rw [n17 12, kr 215 m (by omega) (by omega)]
      exact b4
    · rw [n23 i]
      rcases b5 i hi with ⟨x, x1, x2, x3, x4, x5⟩ | ⟨x1, x2⟩
      · exact Or.inl ⟨x, x1, x2, (kr 238 x (by omega) (by omega)).trans x3, by rw [kr 237 x (by omega) (by omega)]; exact x4, fun y y1 y2 y3 => x5 y y1 y2 (by rw [kr 238 y (by omega) (by omega)] at y3; exact y3)⟩
      · exact Or.inr ⟨fun x w1 w2 w3 => x1 x w1 w2 (by rw [kr 238 x (by omega) (by omega)] at w3; exact w3), x2⟩
theorem z_gt {N L : Nat} (h : zPq N P S M T Sw Sl L μ ν) : ∃ F K Z pr, zAll P S M T Sw Sl F K Z pr μ ν ∧ zGt P S M T Sl Z μ ν := by
  obtain ⟨F, K, Z, pr, hA, hmd⟩ := z_view h
  obtain ⟨hK, ⟨c1, c2, c3, c4, c5, c6, c7⟩, ⟨m1, m4, f6, k4, s120⟩, -⟩ := h
  obtain ⟨hR, hNp, ⟨p1, p2, p3⟩, ct, cm, cv⟩ := id hK
  obtain ⟨⟨F0, FM, -, -, p12, s4, t24⟩, hF, hall⟩ := id hA
  refine ⟨F, K, Z, pr, hA, ⟨p12, s4, m4, t24⟩, ⟨⟨p1, p2, c3, c1⟩, ⟨hNp.2.2.1, hNp.2.2.2.1, c4, c2⟩⟩, cv, fun t ht => ?_, fun m hm => ?_⟩
  · obtain ⟨m, q1, q2, q3⟩ := zfind M F0 t (by omega)
    obtain ⟨hmp, d, ns, fm, tot, -, -, hvm, -⟩ := hmd m q1
    obtain ⟨nd, tm, sp, w, lc, ab, ub, a, b, off, ⟨-, -, -, u4, -, u6, -⟩, ⟨x1, x2, x3, x4, x5, x6, -⟩, ⟨y1, y2, y3, y4, y5, y6, -⟩, hb, -⟩ := hmp.2.2.2.1 t q2 q3
    exact ⟨⟨x1.trans y1.symm, x2.trans y2.symm, x3.trans y4.symm, x4.trans y5.symm, x5.trans y6.symm, (hvm t q2 (by omega)).2.2.1⟩, ⟨w, u4, y5⟩, ab, u6, x6, fun p hp => (hb p hp).1⟩
  · obtain ⟨hmp, d', ns', fm', tot, -, -, -, ⟨o1, o2, o3, o4⟩, -, -, o5⟩ := hmd m hm
    obtain ⟨d, ns, fm, hV⟩ := hall m hm
    obtain ⟨⟨l1, l2, l3, l4⟩, l5, l6, -⟩ := hV.2.2.2.1
    exact ⟨⟨l1, l3, l4⟩, l5, fun x w1 w2 => (l6 x w1 w2).1, tot, o1, ⟨o2, o3, o4⟩, o5⟩
theorem zRg_e (h : zRg P T m k μ ν) (hT : T ≤ 24) (hP : P ≤ 12) (g1 : zwC μ μ') (g2 : zwR ν ν') : zRg P T m k μ' ν' := by
  obtain ⟨⟨⟨s1, s2⟩, hsh0⟩, ⟨e1, e2, e3, e4⟩, ⟨f1, f2, f3, f4, f5⟩, hs1, hs2, hto⟩ := h
  have c : ∀ a j, 61 ≤ a → a < 203 → xe_I μ' a j = xe_I μ a j := fun a j w1 w2 => g1.1 a w1 w2 j
  have r : ∀ a j, (a = 203 ∧ 70 ≤ j) ∨ (206 ≤ a ∧ a < 264) → xe_I ν' a j = xe_I ν a j := g2
  refine ⟨⟨⟨fun p hp => ?_, fun n hn p hp => ?_⟩, g1.2⟩, ⟨?_, ?_, ?_, ?_⟩, ⟨?_, ?_, ?_, ?_, ?_⟩, fun j hj => ?_, fun j hj => ?_, fun t ht => ?_⟩
  · rw [c 195 p (by omega) (by omega), r 255 p (by omega)]; exact s1 p hp
  · rw [c (197 + n) p (by omega) (by omega), r 256 _ (by omega)]; exact s2 n hn p hp
  · rw [c 194 _ (by omega) (by omega)]; exact e1
  · rw [r 203 _ (by omega)]; exact e2
  · rw [c 194 _ (by omega) (by omega)]; exact e3
  · rw [r 203 _ (by omega)]; exact e4
  · rw [c 194 _ (by omega) (by omega), r 203 _ (by omega)]; exact f1
  · rw [c 194 _ (by omega) (by omega), r 203 _ (by omega)]; exact f2
  · rw [c 194 _ (by omega) (by omega), r 203 _ (by omega)]; exact f3
  · rw [c 194 _ (by omega) (by omega), r 203 _ (by omega)]; exact f4
  · rw [c 194 _ (by omega) (by omega), r 203 _ (by omega)]; exact f5
  · rw [c 201 j (by omega) (by omega), r 257 j (by omega)]; exact hs1 j hj
  · rw [c 202 j (by omega) (by omega), r 258 j (by omega)]; exact hs2 j hj
  · unfold zTo
    rw [c (63 + 5 * t) 2 (by omega) (by omega), r 260 t (by omega)]; exact hto t ht
theorem zRx_e {en : Nat} (h : zRx P en t μ ν) (ht : t < 24) (hP : P ≤ 12) (g1 : zwC μ μ') (g2 : zwR ν ν') : zRx P en t μ' ν' := by
  obtain ⟨l, sb, ⟨h1, h2, h3, h4⟩, ⟨h5, h6⟩, h7⟩ := h
  have c : ∀ a j, 61 ≤ a → a < 203 → xe_I μ' a j = xe_I μ a j := fun a j w1 w2 => g1.1 a w1 w2 j
  have r : ∀ a j, (a = 203 ∧ 70 ≤ j) ∨ (206 ≤ a ∧ a < 264) → xe_I ν' a j = xe_I ν a j := g2
  refine ⟨l, sb, ⟨(c _ _ (by omega) (by omega)).trans h1, (r _ _ (by omega)).trans h2, h3, (c _ _ (by omega) (by omega)).trans h4⟩, ⟨(c _ _ (by omega) (by omega)).trans h5, h6⟩, fun p hp => ?_⟩
  rw [r 263 _ (by omega), r 261 _ (by omega), r 262 _ (by omega), c (65 + 5 * t) p (by omega) (by omega), c (64 + 5 * t) p (by omega) (by omega)]
  exact h7 p hp
theorem zRu_e (hA : zAll P S M T Sw Sl F K Z pr μ ν) (h : zRu P M T F pr μ ν) (g1 : zwC μ μ') (g2 : zwR ν ν') : zRu P M T F pr μ' ν' := by
  obtain ⟨m, k, hm, hk, hG, hr⟩ := h
  obtain ⟨⟨F0, FM, m1, m4, p12, s4, t24⟩, hF, hall⟩ := id hA
  refine ⟨m, k, hm, hk, zRg_e hG t24 p12 g1 g2, fun w t h1 h2 => ?_⟩
  have hFm : F (m + 1) ≤ T := by
    have := zmono2 (F := F) (M := M) (fun m hm => (hF m hm).1) M (m + 1) (by omega) (Nat.le_refl _)
    omega
  rw [g2 221 t (by omega)]
  exact zRx_e (hr w t h1 h2) (by omega) p12 g1 g2
theorem zwC_e (g1 : zeC μ μ') : zwC μ μ' := ⟨fun a _ w2 j => (g1.1 a w2 j).1, g1.2.2⟩
theorem zwR_e (g2 : zeR ν ν') : zwR ν ν' := fun a j w => (g2 a (by omega) (by omega) j).1 (by omega)
theorem zeC_g (g1 : zeC μ μ') : zfG zXrun zYo zYo μ μ' := fun a ha j => by
  by_cases w : a < 203
  · exact ⟨fun _ => (g1.1 a w j).1, fun _ => (g1.1 a w j).2.1, fun _ => (g1.1 a w j).2.2⟩
  · exact ⟨fun h => absurd (Or.inl (by omega)) h, fun h => absurd ⟨by omega, rfl⟩ h, fun h => absurd ⟨by omega, rfl⟩ h⟩
theorem zeC_r (h : zRt μ) (hs : ∃ g, xe_sh μ = xv_S ++ g) : zeC μ μ := ⟨fun _ _ _ => ⟨rfl, rfl, rfl⟩, h, hs⟩
theorem zeR_r : zeR ν ν := fun _ _ _ _ => ⟨fun _ => rfl, rfl, rfl⟩
theorem zeR_g (g2 : zeR ν ν') : zfG zYrun zZo zZo ν ν' := fun a ha j => by
  by_cases w : 203 ≤ a ∧ a < 264
  · obtain ⟨w1, w2, w3⟩ := g2 a w.1 w.2 j
    exact ⟨fun h => w1 (fun e => h (by unfold zYrun; omega)), fun _ => w2, fun _ => w3⟩
  · exact ⟨fun h => absurd (show zYrun a j by unfold zYrun; omega) h, fun h => absurd (show zZo a j from ⟨by omega, rfl⟩) h, fun h => absurd (show zZo a j from ⟨by omega, rfl⟩) h⟩
theorem zJ_e (h : zJJ μ ν) (g1 : zeC μ μ') (g2 : zeR ν ν') : zJJ μ' ν' := by
  obtain ⟨⟨tb, tx, s, n, h1, ⟨h2, h3, h4, h5⟩, h6, h7, h8, h9, h10⟩, ⟨h11, h12, h13, u, h14, h15⟩, P, S, M, T, Sw, Sl, F, K, Z, pr, hg, ha, hr⟩ := h
  have c : ∀ a j, a < 203 → xe_I μ' a j = xe_I μ a j := fun a j w1 => (g1.1 a w1 j).1
  have r : ∀ a j, 203 ≤ a → a < 264 → ¬ (a = 203 ∧ j = 0) → xe_I ν' a j = xe_I ν a j := fun a j w1 w2 w3 => (g2 a w1 w2 j).1 w3
  refine ⟨⟨tb, tx, s, n, h1, ⟨(c _ _ (by omega)).trans h2, (r _ _ (by omega) (by omega) (by omega)).trans h3, (c _ _ (by omega)).trans h4, (r _ _ (by omega) (by omega) (by omega)).trans h5⟩, fun i hi => ⟨(h6 i hi).1, (c _ _ (by omega)).trans (h6 i hi).2⟩, fun i hi => ⟨(h7 i hi).1, (r _ _ (by omega) (by omega) (by omega)).trans (h7 i hi).2⟩, fun i hi => ⟨(h8 i hi).1, (c _ _ (by omega)).trans (h8 i hi).2⟩, fun i hi => ⟨(h9 i hi).1, (r _ _ (by omega) (by omega) (by omega)).trans (h9 i hi).2⟩, fun w hw => ((g2 206 (by omega) (by omega) w).2.1).trans (h10 w hw)⟩, ⟨g1.2, fun t ht => (c _ _ (by omega)).trans (h12 t ht), fun i hi => (c _ _ (by omega)).trans (h13 i hi), u, h14, (c _ _ (by omega)).trans h15⟩, P, S, M, T, Sw, Sl, F, K, Z, pr, zGt_k hg (zeC_g g1) (zeR_g g2), ?_, ?_⟩
  · rcases ha with ha | ha
    · exact Or.inl ha
    · exact Or.inr (zAll_k ha (zeC_g g1) g1.2.1 (zeR_g g2))
  · rw [c 194 1 (by omega), r 203 70 (by omega) (by omega) (by omega)]
    rcases hr with hr | ⟨r1, r2, r3, r4⟩
    · exact Or.inl hr
    · exact Or.inr ⟨r1, r2, zAll_k r3 (zeC_g g1) g1.2.1 (zeR_g g2), zRu_e r3 r4 (zwC_e g1) (zwR_e g2)⟩
theorem zJ_0 {x : Int32} (h : zJJ μ ν) : zJJ μ (xe_setI ν 203 0 x) := zJ_e h (zeC_r h.2.1.1.1 h.2.1.1.2) (fun a _ _ j => ⟨fun w => xu_In w, rfl, rfl⟩)
end
