/-! checking a mode: all its ticks -/
section
variable {d : Nat → Nat → Nat} {f n m per T : Nat} {ns fm : Nat → Nat} {hs : Nat → Bool} {μ ν : xe_Mem} {o : Option Nat} {v3 : Int32}
/-- the class behind the begins of the tick k -/
def zcM (m : Nat) (g k : Nat) (μ : xe_Mem) : zO := zq_s (xe_R μ (17 + 11 * m) 7) fun b9 => zq_a b9 3 fun N11 => zq_x (nI k) N11 fun j12 => if (xe_I μ b9 j12) = 0 then zD71_22 (zD71_7 g) (17 + 11 * m) (nI k) μ else zq_cV (zD76 (17 + 11 * m) (nI k) μ) fun m22 => zD71_22 (zD71_7 g) (17 + 11 * m) (nI k) m22
theorem z71b {g k : Nat} (h : zSt m f n per T d ns fm μ ν) (hk : k < per) {μ' : xe_Mem} (h74 : zD74 (17 + 11 * m) (nI k) μ = some (.inl none, μ')) : zD71_7 (g + 1) (17 + 11 * m) (nI k) μ = zcM m g k μ' := by
  obtain ⟨hR, ⟨b1, b2, b3, b4, b5, b6⟩, ⟨c1, c2, c3⟩, hst, -⟩ := id h
  show zD71_7_b (zD71_7 g) (17 + 11 * m) (nI k) μ = _
  unfold zD71_7_b
  rw [zo_in (zS_mode m b1) (by omega), c2, if_neg (nI_ge hk (by omega)), h74, zcV_ok]
  rfl
theorem z44b {G k : Nat} (h : zSt m f n per T d ns fm μ ν) (hk : k ≤ per) {v2 : Int32} : zD171_44 (G + 1) (nI m) v2 v3 (nI k) ν = zD171_52 (zD171_44 G) zfu (nI m) v2 v3 (nI k) (nI 0) ν := by
  obtain ⟨hR, ⟨b1, b2, b3, b4, b5, b6⟩, -, -, ⟨r1, r2, r3⟩⟩ := id h
  show zD171_44_b (zD171_44 G) (nI m) v2 v3 (nI k) ν = _
  unfold zD171_44_b
  rw [zx_nI b1 (by decide), r2, if_neg (nI_nlt hk (by omega))]
  rfl
/-- a tick of both, up to the ends of its spans -/
theorem z_tick1 {k g G : Nat} (hF : zFi d f n per ns fm) (hk : k < per) (h : zTi m f n per T d ns fm k o μ ν) (hS : zSs m f n d ns fm hs k μ) (hc : ∀ t, f ≤ t → t < f + n → xe_I μ (63 + 5 * t) 3 = nI (zcg d f n ns hs k t)) (hhs : hs k = decide (¬ xe_I μ (20 + 11 * m) k = 0)) :
    ∃ μ1 ν1 o', zcM m g k μ = zD71_7 g (17 + 11 * m) (nI (k + 1)) μ1 ∧ zD171_127 (zD171_44 (G + 1)) zfu (nI m) (zoi o) v3 (nI k) (nI 0) ν = zD171_127 (zD171_44 G) zfu (nI m) (zoi o') v3 (nI (k + 1)) (nI 0) ν1 ∧ zSs m f n d ns fm hs (k + 1) μ1 ∧ zfG (zX7 m f n) zZu (zZ7 m) μ μ1 ∧ zfG (zX8 m) zZu zZu ν ν1 ∧ zSt m f n per T d ns fm μ1 ν1 ∧ (k + 1 < per → ∃ μ', zD74 (17 + 11 * m) (nI (k + 1)) μ1 = some (.inl none, μ') ∧ zfG (zX4 f n) zZu zZu μ1 μ' ∧ zTi m f n per T d ns fm (k + 1) o' μ' ν1 ∧ ∀ t, f ≤ t → t < f + n → xe_I μ' (63 + 5 * t) 3 = nI (zcg d f n ns hs (k + 1) t)) ∧ (k + 1 = per → zEd m f n per T d ns fm o' μ1 ν1) := by
  obtain ⟨hN, hv, ho2, hnm⟩ := id h
  obtain ⟨hR, ⟨b1, b2, b3, b4, b5, b6⟩, ⟨c1, c2, c3⟩, hst, ⟨r1, r2, r3⟩⟩ := id hN.1
  obtain ⟨μ1, a1, a2, a3, a4, a5, a6⟩ := z_give (K := zD71_22 (zD71_7 g) (17 + 11 * m) (nI k)) hN hS hc hF hk hhs
  obtain ⟨μ2, ν2, e1, e2, e3, e4, e5, e6⟩ := z_nodes (c7 := zD71_7 g) (c44 := zD171_44 (G + 1)) (v2 := zoi o) (v3 := v3) hk 4 0 zfu zfu μ1 ν (by omega) (zfu_lt (by omega)) (zfu_lt (by omega)) a2
  have hv2 : xe_I μ2 (17 + 11 * m) 12 = zov o := by
    rw [(e4 _ (by omega) 12).1 (fun w => by obtain ⟨t, w1, w2, w3⟩ := w; omega), a6]
    exact hv
  obtain ⟨μ3, ν3, o3, u1, u2, u3, u4, u5, u6⟩ := z_nextk (c44 := zD171_44 G) (v3 := v3) (o := o) e3 hv2 ho2 (fun w t h1 h2 r hr => by
    rw [e6 t r h1 h2 hr]
    exact hnm w t h1 h2 r hr) hk
  have g4 : zfG (zX7 m f n) zZu (zZ7 m) μ1 μ2 := zfG_w e4 (zX7_n b1) (fun a j q => q) (fun a j q => absurd rfl q.2)
  have g5 : zfG (zX7 m f n) zZu (zZ7 m) μ2 μ3 := zfG_w u2 zX7_9 (fun a j q => q) (fun a j q => absurd rfl q.2)
  have g6 : zfG (zX8 m) zZu zZu ν2 ν3 := zfG_w u4 zX8_d (fun a j q => q) (fun a j q => q)
  have k63 : ∀ t, f ≤ t → t < f + n → xe_I μ2 (63 + 5 * t) 3 = xe_I μ1 (63 + 5 * t) 3 := fun t h1 h2 => (e4 _ (by omega) 3).1 (fun w => by obtain ⟨t', w1, w2, w3⟩ := w; omega)
  have hS3 : zSs m f n d ns fm hs (k + 1) μ3 := by
    refine zSs_k b1 (by omega) a3 (fun a j ha hq => ?_) (fun j => ?_)
    · rw [(u2 a ha j).1 (fun w => by rcases w with w | ⟨t, w1, w2, w3, w4⟩ <;> rcases hq with q | q | ⟨t', q1, q2, q3⟩ <;> omega), (e4 a ha j).1 (fun w => by obtain ⟨t, w1, w2, w3⟩ := w; rcases hq with q | q | ⟨t', q1, q2, q3⟩ <;> omega)]
    · rw [(u2 _ (by omega) j).2.2 (fun w => w.2 rfl), (e4 _ (by omega) j).2.2 (fun w => w.2 rfl)]
  refine ⟨μ3, ν3, o3, ?_, ?_, hS3, zfG_t a5 (zfG_t g4 g5), zfG_t e5 g6, zSt_k hN.1 (zfG_t a5 (zfG_t g4 g5)) (zfG_t e5 g6), fun hk1 => ?_, u6⟩
  · unfold zcM
    rw [a1]
    show zD71_24 (zD71_7 g) zfu (17 + 11 * m) (nI k) (nI 0) μ1 = _
    rw [e1, u1, zcV_ok]
  · rw [e2, z44b e3.1 (by omega), u3]
  · obtain ⟨μ', x1, x2, x3, x4⟩ := u5 hk1
    refine ⟨μ', x1, x2, x3, fun t h1 h2 => ?_⟩
    rw [zcg_s]
    by_cases e : (k + 1) % d 0 t = 0
    · rw [if_pos e, (x4 t h1 h2).1 e]
      rfl
    · rw [if_neg e, (x4 t h1 h2).2 e, k63 t h1 h2]
      exact a4 t h1 h2
theorem z_ticks (hF : zFi d f n per ns fm) : ∀ (r k g G : Nat) (o : Option Nat) (μ ν : xe_Mem), k + r + 1 = per → r + 2 < g → r + 3 < G → zTi m f n per T d ns fm k o μ ν → zSs m f n d ns fm hs k μ → (∀ t, f ≤ t → t < f + n → xe_I μ (63 + 5 * t) 3 = nI (zcg d f n ns hs k t)) → (∀ j, j < per → hs j = decide (¬ xe_I μ (20 + 11 * m) j = 0)) →
    ∃ μ' ν' o', zcM m g k μ = some (.inl none, μ') ∧ zD171_127 (zD171_44 G) zfu (nI m) (zoi o) v3 (nI k) (nI 0) ν = zD171_180 zfu (nI m) (zoi o') v3 (nI 0) ν' ∧ zEd m f n per T d ns fm o' μ' ν' ∧ zSs m f n d ns fm hs per μ' ∧ zfG (zX7 m f n) zZu (zZ7 m) μ μ' ∧ zfG (zX8 m) zZu zZu ν ν' := by
  intro r
  induction r with
  | zero =>
    intro k g G o μ ν hk hg hG h hS hc hhs
    obtain ⟨g, rfl⟩ : ∃ k, g = k + 1 := ⟨g - 1, by omega⟩
    obtain ⟨G, rfl⟩ : ∃ k, G = k + 1 + 1 := ⟨G - 2, by omega⟩
    obtain ⟨μ1, ν1, o1, a1, a2, a3, a4, a5, a6, -, a8⟩ := z_tick1 (g := g + 1) (G := G + 1) (v3 := v3) hF (show k < per by omega) h hS hc (hhs k (by omega))
    have hk1 : k + 1 = per := by omega
    obtain ⟨hR, ⟨b1, b2, b3, b4, b5, b6⟩, ⟨c1, c2, c3⟩, hst, ⟨r1, r2, r3⟩⟩ := id a6
    refine ⟨μ1, ν1, o1, ?_, ?_, a8 hk1, by rw [← hk1]; exact a3, a4, a5⟩
    · rw [a1]
      show zD71_7_b (zD71_7 g) (17 + 11 * m) (nI (k + 1)) μ1 = _
      unfold zD71_7_b
      rw [zo_in (zS_mode m b1) (by omega), c2, if_pos (nI_le (by omega) (by omega))]
    · rw [a2]
      show zD171_127_b (zD171_44 (G + 1)) (zD171_127 (zD171_44 (G + 1)) 999999999) (nI m) (zoi o1) v3 (nI (k + 1)) (nI 0) ν1 = _
      unfold zD171_127_b zD171_176
      rw [if_neg (show ¬ (4 : Int32) ≤ nI 0 by decide), zx_nI b1 (by decide), r2, if_pos (nI_le (by omega) (by omega)), nI_1]
      show zD171_44_b (zD171_44 G) (nI m) (zoi o1) v3 (nI (k + 1 + 1)) ν1 = _
      unfold zD171_44_b
      rw [zx_nI b1 (by decide), r2, if_pos (nI_lt (by omega) (by omega))]
      rfl
  | succ r ih =>
    intro k g G o μ ν hk hg hG h hS hc hhs
    obtain ⟨g, rfl⟩ : ∃ k, g = k + 1 := ⟨g - 1, by omega⟩
    obtain ⟨G, rfl⟩ : ∃ k, G = k + 1 := ⟨G - 1, by omega⟩
    obtain ⟨μ1, ν1, o1, a1, a2, a3, a4, a5, a6, a7, -⟩ := z_tick1 (g := g + 1) (G := G) (v3 := v3) hF (show k < per by omega) h hS hc (hhs k (by omega))
    obtain ⟨μ', x1, x2, x3, x4⟩ := a7 (by omega)
    have b1 := a6.2.1.1
    have b24 : f + n ≤ 24 := by have := a6.2.1; omega
    have gx : zfG (zX7 m f n) zZu (zZ7 m) μ1 μ' := zfG_w x2 zX7_4 (fun a j q => q) (fun a j q => absurd rfl q.2)
    obtain ⟨μ2, ν2, o2, y1, y2, y3, y4, y5, y6⟩ := ih (k + 1) g G o1 μ' ν1 (by omega) (by omega) (by omega) x3 (zSs_k b1 b24 a3 (fun a j ha hq => (x2 a ha j).1 (fun w => by obtain ⟨t, w1, w2, w3, w4⟩ := w; rcases hq with q | q | ⟨t', q1, q2, q3⟩ <;> omega)) (fun j => (x2 _ (by omega) j).2.2 (fun w => w.2 rfl))) x4 (fun j hj => by
      rw [(gx _ (by omega) j).1 (fun w => by rcases w with w | w | w | ⟨t, w1, w2, w3⟩ <;> omega), (a4 _ (by omega) j).1 (fun w => by rcases w with w | w | w | ⟨t, w1, w2, w3⟩ <;> omega)]
      exact hhs j hj)
    refine ⟨μ2, ν2, o2, ?_, ?_, y3, y4, zfG_t a4 (zfG_t gx y5), zfG_t a5 y6⟩
    · rw [a1, z71b a6 (by omega) x1]
      exact y1
    · rw [a2]
      exact y2
end
