/-! preparing: what is held of modes that are prepared, and what stays -/
def zTr (P S L U : Nat) (μ ν : xe_Mem) (m per t : Nat) : Prop := ∃ nd tm sp w lc ab ub a b off,
  (nd < 4 ∧ 1 ≤ tm ∧ tm * sp = per ∧ w ≤ 200 ∧ lc ≤ 6 ∧ ab < 2 ^ P ∧ ub < 4096 ∧ a ≤ b ∧ b ≤ L ∧ b + off < U) ∧
  (xe_I μ (61 + 5 * t) 1 = nI m ∧ xe_I μ (61 + 5 * t) 2 = nI nd ∧ xe_I μ (61 + 5 * t) 3 = nI sp ∧ xe_I μ (61 + 5 * t) 4 = nI w ∧ xe_I μ (61 + 5 * t) 5 = nI lc ∧ xe_I μ (61 + 5 * t) 6 = nI ab ∧ xe_I μ (61 + 5 * t) 7 = nI ub ∧ xe_I μ (61 + 5 * t) 8 = nI a ∧ xe_I μ (61 + 5 * t) 9 = nI b) ∧
  (xe_I ν 218 t = nI m ∧ xe_I ν 219 t = nI nd ∧ xe_I ν 220 t = nI tm ∧ xe_I ν 221 t = nI sp ∧ xe_I ν 222 t = nI w ∧ xe_I ν 223 t = nI lc ∧ xe_I ν 224 t = nI (a + off)) ∧
  (∀ p, p < 12 → xe_I ν 227 (12 * t + p) = zb01 (Nat.testBit ab p) ∧ xe_I ν 226 (12 * t + p) = zb01 (Nat.testBit ub p || Nat.testBit ab p)) ∧
  zCd μ ν off a b ∧ zRw P S 0 μ a b w ∧ xe_I ν 239 (b + off) = 13
def zMp (N P S L U : Nat) (μ ν : xe_Mem) (m per f f' k k' s s' : Nat) : Prop :=
  (1 ≤ per ∧ per ≤ 120 ∧ f ≤ f' ∧ f' ≤ f + 6 ∧ k ≤ k' ∧ k' ≤ k + 4 ∧ s ≤ s' ∧ s' ≤ s + 120) ∧
  (xe_I μ (17 + 11 * m) 1 = nI per ∧ xe_I ν 214 m = nI per ∧ xe_I μ (17 + 11 * m) 3 = nI (f' - f) ∧ xe_I μ (17 + 11 * m) 6 = nI (k' - k) ∧ xe_L μ 187 m = xe_L ν 213 m) ∧
  (∀ i, i < f' - f → xe_R μ (18 + 11 * m) i = some (61 + 5 * (f + i))) ∧
  (∀ t, f ≤ t → t < f' → zTr P S L U μ ν m per t) ∧
  (∀ e, e < k' - k → zEt N P S L U μ ν m per (k + e) e) ∧
  (∀ i, s ≤ i → i < s' → xe_I ν 236 i = nI m ∧ ∃ k, k < per ∧ xe_I ν 237 i = nI k) ∧ (∀ i i' k k', s ≤ i → i < i' → i' < s' → k < 120 → k' < 120 → xe_I ν 237 i = nI k → xe_I ν 237 i' = nI k' → k < k')
/-- the cells of the mode m with the tasks f to f' and the slots s to s' are as they were -/
def zKe (m f f' s s' : Nat) (μ ν μ' ν' : xe_Mem) : Prop :=
  (∀ a j, a < 265 → (a = 9 ∨ a = 10 ∨ a = 5 ∨ a = 20 + 11 * m ∨ (24 + 11 * m ≤ a ∧ a < 28 + 11 * m)) → xe_I μ' a j = xe_I μ a j) ∧
  (∀ a j, a = 6 ∨ a = 187 → xe_L μ' a j = xe_L μ a j) ∧ (∀ j, xe_R μ' (18 + 11 * m) j = xe_R μ (18 + 11 * m) j) ∧
  (∀ a j, a < 265 → a ≠ 259 → a ≠ 230 → a ≠ 225 → a ≠ 215 → a ≠ 216 → a ≠ 238 → xe_I ν' a j = xe_I ν a j) ∧ (∀ a j, a = 213 ∨ a = 234 → xe_L ν' a j = xe_L ν a j)
section
variable {N P S L U m per f f' k k' s s' t e T : Nat} {μ ν μ' ν' : xe_Mem}
theorem zTr_s (h : zTs P S L U μ ν m per t) : zTr P S L U μ ν m per t := by
  obtain ⟨nd, tm, sp, w, lc, ab, ub, a, b, off, q, ⟨c1, c2, c3, c4, c5, c6, c7, c8, c9, -, -⟩, r⟩ := h
  exact ⟨nd, tm, sp, w, lc, ab, ub, a, b, off, q, ⟨c1, c2, c3, c4, c5, c6, c7, c8, c9⟩, r⟩
theorem zTr_p (h : zTr P S L U μ ν m per t) (hK : zKe m f f' s s' μ ν μ' ν') (hc : ∀ j, j < 10 → xe_I μ' (61 + 5 * t) j = xe_I μ (61 + 5 * t) j) : zTr P S L U μ' ν' m per t := by
  obtain ⟨nd, tm, sp, w, lc, ab, ub, a, b, off, q, ⟨c1, c2, c3, c4, c5, c6, c7, c8, c9⟩, ⟨r1, r2, r3, r4, r5, r6, r7⟩, hb, hcd, hrw, h13⟩ := h
  obtain ⟨k1, k2, k3, k4, k5⟩ := hK
  have c9' : ∀ i, xe_I μ' 9 i = xe_I μ 9 i ∧ xe_I μ' 10 i = xe_I μ 10 i := fun i => ⟨k1 9 i (by decide) (by omega), k1 10 i (by decide) (by omega)⟩
  have r9 : ∀ i, xe_I ν' 239 i = xe_I ν 239 i ∧ xe_I ν' 240 i = xe_I ν 240 i := fun i => ⟨k4 239 i (by decide) (by decide) (by decide) (by decide) (by decide) (by decide) (by decide), k4 240 i (by decide) (by decide) (by decide) (by decide) (by decide) (by decide) (by decide)⟩
  have kr : ∀ a, 218 ≤ a → a ≤ 224 → xe_I ν' a t = xe_I ν a t := fun a h1 h2 => k4 a t (by omega) (by omega) (by omega) (by omega) (by omega) (by omega) (by omega)
  refine ⟨nd, tm, sp, w, lc, ab, ub, a, b, off, q, ⟨(hc 1 (by decide)).trans c1, (hc 2 (by decide)).trans c2, (hc 3 (by decide)).trans c3, (hc 4 (by decide)).trans c4, (hc 5 (by decide)).trans c5, (hc 6 (by decide)).trans c6, (hc 7 (by decide)).trans c7, (hc 8 (by decide)).trans c8, (hc 9 (by decide)).trans c9⟩, ⟨(kr 218 (by omega) (by omega)).trans r1, (kr 219 (by omega) (by omega)).trans r2, (kr 220 (by omega) (by omega)).trans r3, (kr 221 (by omega) (by omega)).trans r4, (kr 222 (by omega) (by omega)).trans r5, (kr 223 (by omega) (by omega)).trans r6, (kr 224 (by omega) (by omega)).trans r7⟩, fun p hp => ?_, zCd_c hcd (fun i _ => c9' i) (fun i _ => r9 i), zRw_f hrw (fun i _ _ => c9' i), (r9 _).1.trans h13⟩
  rw [k4 227 _ (by decide) (by decide) (by decide) (by decide) (by decide) (by decide) (by decide), k4 226 _ (by decide) (by decide) (by decide) (by decide) (by decide) (by decide) (by decide)]
  exact hb p hp
theorem zEt_p (h : zEt N P S L U μ ν m per k e) (he : e < 4) (hm : m < 4) (hK : zKe m f f' s s' μ ν μ' ν') : zEt N P S L U μ' ν' m per k e := by
  obtain ⟨ev, a, b, off, tk, hb, hcs, ⟨r1, r2, r3⟩, hcd, hep, h13, h6, h5⟩ := h
  obtain ⟨k1, k2, k3, k4, k5⟩ := hK
  have c9' : ∀ i, xe_I μ' 9 i = xe_I μ 9 i ∧ xe_I μ' 10 i = xe_I μ 10 i := fun i => ⟨k1 9 i (by decide) (by omega), k1 10 i (by decide) (by omega)⟩
  have r9 : ∀ i, xe_I ν' 239 i = xe_I ν 239 i ∧ xe_I ν' 240 i = xe_I ν 240 i := fun i => ⟨k4 239 i (by decide) (by decide) (by decide) (by decide) (by decide) (by decide) (by decide), k4 240 i (by decide) (by decide) (by decide) (by decide) (by decide) (by decide) (by decide)⟩
  have kr : ∀ a, 231 ≤ a → a ≤ 235 → xe_I ν' a k = xe_I ν a k := fun a h1 h2 => k4 a k (by omega) (by omega) (by omega) (by omega) (by omega) (by omega) (by omega)
  have kx : ∀ j, xe_I μ' (24 + 11 * m + e) j = xe_I μ (24 + 11 * m + e) j := fun j => k1 _ j (by omega) (by omega)
  refine ⟨ev, a, b, off, tk, hb, ?_, ⟨(kr 231 (by omega) (by omega)).trans r1, (kr 232 (by omega) (by omega)).trans r2, (kr 233 (by omega) (by omega)).trans r3⟩, zCd_c hcd (fun i _ => c9' i) (fun i _ => r9 i), ?_, (r9 _).1.trans h13, ?_, ?_⟩
  · simp only [kx]
    exact hcs
  · obtain ⟨n, hn⟩ := hep
    exact ⟨n, zEy_c n a b hn (fun i _ _ => c9' i)⟩
  · rw [k5 234 k (by omega), k2 6 tk (by omega)]
    exact h6
  · rw [kr 235 (by omega) (by omega), k1 5 tk (by decide) (by omega)]
    exact h5
theorem zMp_d (h : zMd N P S L U μ ν m per f f' k k' s s') : zMp N P S L U μ ν m per f f' k k' s s' := by
  obtain ⟨b, ⟨h1, h2, h3, h4, -, h6⟩, hr, ht, he, hs⟩ := h
  exact ⟨b, ⟨h1, h2, h3, h4, h6⟩, hr, fun t w1 w2 => zTr_s (ht t w1 w2), he, fun i w1 w2 => ⟨(hs.1 i w1 w2).1, (hs.1 i w1 w2).2.2⟩, hs.2.1⟩
theorem zMp_p (h : zMp N P S L U μ ν m per f f' k k' s s') (hm : m < 4) (hK : zKe m f f' s s' μ ν μ' ν') (hc : ∀ t j, f ≤ t → t < f' → j < 10 → xe_I μ' (61 + 5 * t) j = xe_I μ (61 + 5 * t) j) (hc17 : ∀ j, j < 10 → xe_I μ' (17 + 11 * m) j = xe_I μ (17 + 11 * m) j) : zMp N P S L U μ' ν' m per f f' k k' s s' := by
  obtain ⟨b, ⟨h1, h2, h3, h4, h6⟩, hr, ht, he, hs1, hs2⟩ := h
  have hb6 := b.2.2.2.2.2.1
  have hK' := hK
  obtain ⟨k1, k2, k3, k4, k5⟩ := hK'
  have k37 : ∀ i, xe_I ν' 237 i = xe_I ν 237 i := fun i => k4 237 i (by decide) (by decide) (by decide) (by decide) (by decide) (by decide) (by decide)
  refine ⟨b, ⟨(hc17 1 (by decide)).trans h1, (k4 214 m (by decide) (by decide) (by decide) (by decide) (by decide) (by decide) (by decide)).trans h2, (hc17 3 (by decide)).trans h3, (hc17 6 (by decide)).trans h4, ?_⟩, fun i hi => (k3 i).trans (hr i hi), fun t w1 w2 => zTr_p (ht t w1 w2) hK (fun j hj => hc t j w1 w2 hj), fun e he' => zEt_p (he e he') (by omega) hm hK, fun i w1 w2 => ?_, fun i i' a a' w1 w2 w3 w4 w5 w6 w7 => ?_⟩
  · rw [k2 187 m (by omega), k5 213 m (by omega)]
    exact h6
  · rw [k37, k4 236 i (by decide) (by decide) (by decide) (by decide) (by decide) (by decide) (by decide)]
    exact hs1 i w1 w2
  · rw [k37] at w6 w7
    exact hs2 i i' a a' w1 w2 w3 w4 w5 w6 w7
/-- a mode that isn't prepared yet stays as it is -/
theorem zMd_p (h : zMd N P S L U μ ν m per f f' k k' s s') (hm : m < 4) (hK : zKe m f f' s s' μ ν μ' ν') (hc : ∀ t j, f ≤ t → t < f' → xe_I μ' (61 + 5 * t) j = xe_I μ (61 + 5 * t) j) (hc17 : ∀ j, xe_I μ' (17 + 11 * m) j = xe_I μ (17 + 11 * m) j) (h238 : ∀ i, s ≤ i → i < s' → xe_I ν' 238 i = xe_I ν 238 i) : zMd N P S L U μ' ν' m per f f' k k' s s' := by
  obtain ⟨b, ⟨h1, h2, h3, h4, h5, h6⟩, hr, ht, he, hs⟩ := id h
  obtain ⟨b', ⟨g1, g2, g3, g4, g6⟩, gr, gt, ge, -, -⟩ := zMp_p (zMp_d h) hm hK (fun t j w1 w2 _ => hc t j w1 w2) (fun j _ => hc17 j)
  obtain ⟨k1, k2, k3, k4, k5⟩ := hK
  have k37 : ∀ i, xe_I ν' 237 i = xe_I ν 237 i := fun i => k4 237 i (by decide) (by decide) (by decide) (by decide) (by decide) (by decide) (by decide)
  refine ⟨b, ⟨g1, g2, g3, g4, (hc17 10).trans h5, g6⟩, gr, fun t w1 w2 => ?_, ge, ⟨fun i w1 w2 => ?_, fun i i' a a' w1 w2 w3 w4 w5 w6 w7 => ?_, fun k hk => ?_⟩⟩
  · obtain ⟨nd, tm, sp, w, lc, ab, ub, a, b2, off, q, ⟨c1, c2, c3, c4, c5, c6, c7, c8, c9⟩, r⟩ := gt t w1 w2
    obtain ⟨nd', tm', sp', w', lc', ab', ub', a', b', off', q', ⟨-, -, d3, -, -, -, -, -, -, d11, d13⟩, -⟩ := ht t w1 w2
    refine ⟨nd, tm, sp, w, lc, ab, ub, a, b2, off, q, ⟨c1, c2, c3, c4, c5, c6, c7, c8, c9, (hc t 11 w1 w2).trans d11, ?_⟩, r⟩
    rw [hc t 13 w1 w2, d13, ← d3, ← hc t 3 w1 w2, c3]
  · rw [k37, k4 236 i (by decide) (by decide) (by decide) (by decide) (by decide) (by decide) (by decide), h238 i w1 w2]
    exact hs.1 i w1 w2
  · rw [k37] at w6 w7
    exact hs.2.1 i i' a a' w1 w2 w3 w4 w5 w6 w7
  · rw [k1 _ k (by omega) (by omega), hs.2.2 k hk]
    constructor
    · rintro ⟨i, w1, w2, w3⟩
      exact ⟨i, w1, w2, by rw [k37]; exact w3⟩
    · rintro ⟨i, w1, w2, w3⟩
      exact ⟨i, w1, w2, by rw [k37] at w3; exact w3⟩
/-- a mode that is prepared stays so -/
theorem zVm_p {n : Nat} (h : zVm P T m f n per s s' μ ν) (hm : m < 4) (hT : f + n ≤ 24) (hR : zRt μ') (hc : ∀ a j, a < 265 → (a = 17 + 11 * m ∨ a = 22 + 11 * m ∨ a = 23 + 11 * m ∨ ∃ t, f ≤ t ∧ t < f + n ∧ (a = 61 + 5 * t ∨ a = 62 + 5 * t)) → xe_I μ' a j = xe_I μ a j) (hcR : ∀ a j, a = 18 + 11 * m ∨ a = 21 + 11 * m → xe_R μ' a j = xe_R μ a j) (hr : ∀ a j, a < 265 → a ≠ 259 → a ≠ 230 → a ≠ 225 → a ≠ 215 → a ≠ 216 → a ≠ 238 → xe_I ν' a j = xe_I ν a j) (hr2 : (∀ t, f ≤ t → t < f + n → xe_I ν' 225 t = xe_I ν 225 t) ∧ xe_I ν' 215 m = xe_I ν 215 m ∧ xe_I ν' 216 m = xe_I ν 216 m ∧ ∀ x, s ≤ x → x < s' → xe_I ν' 238 x = xe_I ν 238 x) : zVm P T m f n per s s' μ' ν' := by
  obtain ⟨d, ns, fm, tot, hst, hF, ht, ⟨t1, t2, t3, t4⟩, hA, hB, hC⟩ := h
  obtain ⟨-, hb, ⟨c1, c2, c3⟩, hst', ⟨r1, r2, r3⟩⟩ := hst
  obtain ⟨e225, e215, e216, e238⟩ := hr2
  have kr : ∀ a j, (203 ≤ a ∧ a ≤ 222 ∧ a ≠ 215 ∧ a ≠ 216) ∨ (226 ≤ a ∧ a ≤ 229) ∨ a = 236 ∨ a = 237 → xe_I ν' a j = xe_I ν a j := fun a j w => hr a j (by omega) (by omega) (by omega) (by omega) (by omega) (by omega) (by omega)
  obtain ⟨eS, eN⟩ := zNs_k (P := P) (T := T) (ν := ν) (ν' := ν') (fun k => kr 219 k (by omega)) (fun k => kr 226 k (by omega)) (fun k => kr 227 k (by omega))
  have k17 : ∀ j, xe_I μ' (17 + 11 * m) j = xe_I μ (17 + 11 * m) j := fun j => hc _ j (by omega) (Or.inl rfl)
  refine ⟨d, ns, fm, tot, ⟨hR, hb, ⟨(k17 3).trans c1, (k17 1).trans c2, fun i hi => (hcR _ i (Or.inl rfl)).trans (c3 i hi)⟩, fun t h1 h2 => ?_, ⟨(kr 203 22 (by omega)).trans r1, (kr 214 m (by omega)).trans r2, fun t w1 w2 => ?_⟩⟩, hF, fun t h1 h2 => ?_, ⟨t1, (k17 10).trans t2, e216.trans t3, ?_⟩, fun x w1 w2 j w3 w4 => ?_, fun j w1 w2 => ?_, fun i hi => ?_⟩
  · obtain ⟨q, ⟨u0, u1, u2, u3, u4, u5⟩, ⟨v1, v2, v3, v4, v5, v6, v7⟩⟩ := hst' t h1 h2
    have kt : ∀ j, xe_I μ' (61 + 5 * t) j = xe_I μ (61 + 5 * t) j := fun j => hc _ j (by omega) (Or.inr (Or.inr (Or.inr ⟨t, h1, h2, Or.inl rfl⟩)))
    exact ⟨q, ⟨(kt 0).trans u0, (kt 2).trans u1, (kt 3).trans u2, (kt 4).trans u3, (kt 11).trans u4, (kt 12).trans u5⟩, ⟨(kr 218 t (by omega)).trans v1, (kr 219 t (by omega)).trans v2, (kr 221 t (by omega)).trans v3, (kr 222 t (by omega)).trans v4, (kr 228 t (by omega)).trans v5, (kr 229 t (by omega)).trans v6, (kr 220 t (by omega)).trans v7⟩⟩
  · rw [kr 218 t (by omega)]
    exact r3 t w1 w2
  · obtain ⟨w1, w2, w3, w4⟩ := ht t h1 h2
    refine ⟨by rw [eN]; exact w1, fun p hp hs => ?_, ?_, w4⟩
    · rw [eS] at hs ⊢
      rw [hc (62 + 5 * t) _ (by omega) (Or.inr (Or.inr (Or.inr ⟨t, h1, h2, Or.inr rfl⟩)))]
      exact w2 p hp hs
    · rw [hc (61 + 5 * t) 13 (by omega) (Or.inr (Or.inr (Or.inr ⟨t, h1, h2, Or.inl rfl⟩))), e225 t h1 h2]
      exact w3
  · rw [k17, e215]
    exact t4
  · rw [kr 237 x (by omega)] at w4
    rw [e238 x w1 w2, hcR _ j (Or.inr rfl), hc (22 + 11 * m) j (by omega) (Or.inr (Or.inl rfl)), eS]
    exact hA x w1 w2 j w3 w4
  · rw [hcR _ j (Or.inr rfl)]
    exact hB j w1 (fun x w3 w4 => by rw [← kr 237 x (by omega)]; exact w2 x w3 w4)
  · rw [hc (23 + 11 * m) i (by omega) (Or.inr (Or.inr (Or.inl rfl)))]
    rcases hC i hi with ⟨x, x1, x2, x3, x4, x5⟩ | ⟨x1, x2⟩
    · exact Or.inl ⟨x, x1, x2, by rw [e238 x x1 x2]; exact x3, by rw [kr 237 x (by omega)]; exact x4, fun y w1 w2 w3 => x5 y w1 w2 (by rw [e238 y w1 w2] at w3; exact w3)⟩
    · exact Or.inr ⟨fun x w1 w2 w3 => x1 x w1 w2 (by rw [e238 x w1 w2] at w3; exact w3), x2⟩
end
