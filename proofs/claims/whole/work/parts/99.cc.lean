/-! running: an expression -/
theorem zac_v : ∀ q, q < 25 → 18 ≤ q → (zac q = 6 ∨ zac q = 7 ∨ zac q = 8 ∨ zac q = 9 ∨ zac q = 10 ∨ zac q = 11 ∨ zac q = 12) := by decide
theorem zac_i : ∀ q, q < 25 → ∀ r, r < 25 → 18 ≤ q → 18 ≤ r → zac q = zac r → q = r := by decide
section
variable {off : Nat} {x y u v : Int32}
theorem zOp_lf (h : zOp off x y u v) (hx : x = 1 ∨ x = 2 ∨ x = 3 ∨ x = 4) : u = x ∧ v = y := by
  rcases h with ⟨-, h2, h3⟩ | ⟨h1, -⟩ | ⟨q, h1, h2, h3, -⟩ | ⟨h1, -⟩ | ⟨h1, -⟩ | ⟨h1, -⟩ | ⟨h1, -⟩ | ⟨h1, -⟩ | ⟨h1, -⟩
  · exact ⟨h2, h3⟩
  · subst h1; exfalso; revert hx; decide
  · rcases zac_v q (by omega) h1 with w | w | w | w | w | w | w <;> (rw [w] at h3; subst h3; exfalso; revert hx; decide)
  all_goals (subst h1; exfalso; revert hx; decide)
theorem zOp_5 (h : zOp off 5 y u v) : u = 5 := by
  rcases h with ⟨h1, -⟩ | ⟨-, h2⟩ | ⟨q, h1, h2, h3, -⟩ | ⟨h1, -⟩ | ⟨h1, -⟩ | ⟨h1, -⟩ | ⟨h1, -⟩ | ⟨h1, -⟩ | ⟨h1, -⟩
  · exfalso; revert h1; decide
  · exact h2
  · rcases zac_v q (by omega) h1 with w | w | w | w | w | w | w <;> (rw [w] at h3; exfalso; revert h3; decide)
  all_goals (exfalso; revert h1; decide)
theorem zOp_q {q : Nat} (h : zOp off (zac q) y u v) (q1 : 18 ≤ q) (q2 : q ≤ 24) : u = 6 ∧ v = nI (zsc q) := by
  have hv := zac_v q (by omega) q1
  rcases h with ⟨h1, -⟩ | ⟨h1, -⟩ | ⟨r, h1, h2, h3, h4⟩ | ⟨h1, -⟩ | ⟨h1, -⟩ | ⟨h1, -⟩ | ⟨h1, -⟩ | ⟨h1, -⟩ | ⟨h1, -⟩
  · rcases hv with w | w | w | w | w | w | w <;> (rw [w] at h1; exfalso; revert h1; decide)
  · rcases hv with w | w | w | w | w | w | w <;> (rw [w] at h1; exfalso; revert h1; decide)
  · rw [zac_i q (by omega) r (by omega) q1 h1 h3]; exact h4
  all_goals (rcases hv with w | w | w | w | w | w | w <;> (rw [w] at h1; exfalso; revert h1; decide))
theorem zOp_13 (h : zOp off 13 y u v) : u = 7 ∧ v = y := by
  rcases h with ⟨h1, -⟩ | ⟨h1, -⟩ | ⟨q, h1, h2, h3, -⟩ | ⟨h1, h2⟩ | ⟨h1, -⟩ | ⟨h1, -⟩ | ⟨h1, -⟩ | ⟨h1, -⟩ | ⟨h1, -⟩
  · exfalso; revert h1; decide
  · exfalso; revert h1; decide
  · rcases zac_v q (by omega) h1 with w | w | w | w | w | w | w <;> (rw [w] at h3; exfalso; revert h3; decide)
  · exact h2
  all_goals (exfalso; revert h1; decide)
theorem zOp_14 (h : zOp off 14 y u v) : u = 8 ∧ v = y := by
  rcases h with ⟨h1, -⟩ | ⟨h1, -⟩ | ⟨q, h1, h2, h3, -⟩ | ⟨h1, -⟩ | ⟨h1, h2⟩ | ⟨h1, -⟩ | ⟨h1, -⟩ | ⟨h1, -⟩ | ⟨h1, -⟩
  · exfalso; revert h1; decide
  · exfalso; revert h1; decide
  · rcases zac_v q (by omega) h1 with w | w | w | w | w | w | w <;> (rw [w] at h3; exfalso; revert h3; decide)
  · exfalso; revert h1; decide
  · exact h2
  all_goals (exfalso; revert h1; decide)
theorem zOp_15 (h : zOp off 15 y u v) : u = 9 ∧ zJ off y v := by
  rcases h with ⟨h1, -⟩ | ⟨h1, -⟩ | ⟨q, h1, h2, h3, -⟩ | ⟨h1, -⟩ | ⟨h1, -⟩ | ⟨h1, h2⟩ | ⟨h1, -⟩ | ⟨h1, -⟩ | ⟨h1, -⟩
  · exfalso; revert h1; decide
  · exfalso; revert h1; decide
  · rcases zac_v q (by omega) h1 with w | w | w | w | w | w | w <;> (rw [w] at h3; exfalso; revert h3; decide)
  · exfalso; revert h1; decide
  · exfalso; revert h1; decide
  · exact h2
  all_goals (exfalso; revert h1; decide)
theorem zOp_16 (h : zOp off 16 y u v) : u = 10 ∧ zJ off y v := by
  rcases h with ⟨h1, -⟩ | ⟨h1, -⟩ | ⟨q, h1, h2, h3, -⟩ | ⟨h1, -⟩ | ⟨h1, -⟩ | ⟨h1, -⟩ | ⟨h1, h2⟩ | ⟨h1, -⟩ | ⟨h1, -⟩
  · exfalso; revert h1; decide
  · exfalso; revert h1; decide
  · rcases zac_v q (by omega) h1 with w | w | w | w | w | w | w <;> (rw [w] at h3; exfalso; revert h3; decide)
  · exfalso; revert h1; decide
  · exfalso; revert h1; decide
  · exfalso; revert h1; decide
  · exact h2
  all_goals (exfalso; revert h1; decide)
theorem zOp_17 (h : zOp off 17 y u v) : u = 11 ∧ v = y := by
  rcases h with ⟨h1, -⟩ | ⟨h1, -⟩ | ⟨q, h1, h2, h3, -⟩ | ⟨h1, -⟩ | ⟨h1, -⟩ | ⟨h1, -⟩ | ⟨h1, -⟩ | ⟨h1, h2⟩ | ⟨h1, -⟩
  · exfalso; revert h1; decide
  · exfalso; revert h1; decide
  · rcases zac_v q (by omega) h1 with w | w | w | w | w | w | w <;> (rw [w] at h3; exfalso; revert h3; decide)
  · exfalso; revert h1; decide
  · exfalso; revert h1; decide
  · exfalso; revert h1; decide
  · exfalso; revert h1; decide
  · exact h2
  · exfalso; revert h1; decide
theorem zOp_18 (h : zOp off 18 y u v) : u = 12 ∧ zJ off y v := by
  rcases h with ⟨h1, -⟩ | ⟨h1, -⟩ | ⟨q, h1, h2, h3, -⟩ | ⟨h1, -⟩ | ⟨h1, -⟩ | ⟨h1, -⟩ | ⟨h1, -⟩ | ⟨h1, -⟩ | ⟨h1, h2⟩
  · exfalso; revert h1; decide
  · exfalso; revert h1; decide
  · rcases zac_v q (by omega) h1 with w | w | w | w | w | w | w <;> (rw [w] at h3; exfalso; revert h3; decide)
  · exfalso; revert h1; decide
  · exfalso; revert h1; decide
  · exfalso; revert h1; decide
  · exfalso; revert h1; decide
  · exfalso; revert h1; decide
  · exact h2
theorem zJ_v {b : Nat} (h : zJ off (nI b) v) (h1 : 0 < b) (h2 : b ≤ 3000) : v = nI (b + off) := by
  rcases h with ⟨w, -⟩ | ⟨j, w1, w2, w3⟩
  · exact absurd w (nI_ne0 h1 (by omega))
  · rw [zi_eq (by omega) (by omega)] at w2
    subst w2
    exact w3
end
section
variable {μ0 ν0 : xe_Mem} {v1 : Int32} {v3 v5 b0 off a0 P S : Nat}
theorem zLk_c {μ ν : xe_Mem} {h rd : Nat} (hL : zLk P v3 v5 μ0 ν0 μ ν h rd) (h5 : zVv v5) : (∀ i, xe_I μ 9 i = xe_I μ0 9 i ∧ xe_I μ 10 i = xe_I μ0 10 i) ∧ ∀ i, xe_I ν 239 i = xe_I ν0 239 i ∧ xe_I ν 240 i = xe_I ν0 240 i := by
  obtain ⟨-, -, -, -, -, -, -, a9, a10⟩ := hL
  obtain ⟨d1, d2, -⟩ := h5
  exact ⟨fun i => ⟨(a9 9 (by decide) i).1 (fun w => by unfold zXfo at w; omega), (a9 10 (by decide) i).1 (fun w => by unfold zXfo at w; omega)⟩, fun i => ⟨(a10 239 (by decide) i).1 (fun w => by unfold zYfo at w; omega), (a10 240 (by decide) i).1 (fun w => by unfold zYfo at w; omega)⟩⟩
theorem z_ex (h3 : zVv v3) (h5 : zVv v5) (hP : P ≤ 12) (hS : S ≤ 4) (hb0 : b0 ≤ 3000) (hU : b0 + off < 6000) (hcd : zCd μ0 ν0 off a0 b0) : ∀ k a b (μ ν : xe_Mem) h rd, zEx P S (xe_I μ0 9) (xe_I μ0 10) k a b → a0 ≤ a → b ≤ b0 → h + (b - a) ≤ 60 → zLk P v3 v5 μ0 ν0 μ ν h rd → a < b ∧ ∃ μ' ν', zGo v3 v5 b0 off v1 a h rd μ ν b (h + 1) rd μ' ν' (b - a) ∧ zLk P v3 v5 μ0 ν0 μ' ν' (h + 1) rd ∧ ∀ j, xe_I μ' 12 j = xe_I μ 12 j := by
  intro k
  induction k with
  | zero => intro a b μ ν h rd w; exact w.elim
  | succ k ih =>
    intro a b μ ν h rd w ha hb h60 hL
    rcases w with ⟨rfl, hl⟩ | ⟨m, hm, rfl, h5', hw⟩ | ⟨m1, m2, q, hm1, hm2, rfl, q1, q2, h6, w1, w2⟩
    · refine ⟨by omega, ?_⟩
      have hop := hcd a ha (by omega)
      obtain ⟨⟨e1, e2⟩, e3, e4, e5, e6, e7, e8, e9, e10⟩ := id hL
      obtain ⟨k1, k2⟩ := zLk_c hL h5
      have hu : a + off < 6000 := by omega
      have eU : a + 1 + off = a + off + 1 := by omega
      rw [show a + 1 - a = 1 by omega]
      have h12 : ∀ (z : Int32) j, xe_I (xe_setI (xe_setI μ 11 h z) 8 4 (nI (h + 1))) 12 j = xe_I μ 12 j := fun z j => by rw [xu_In (by omega), xu_In (by omega)]
      rcases hl with x1 | ⟨x1, p, hp, hy⟩ | ⟨x1, p, hp, hy⟩ | ⟨x1, p, hp, hy⟩
      · obtain ⟨u1, u2⟩ := zOp_lf hop (Or.inl x1)
        refine ⟨_, _, zGo_1 (fun g n hn => ?_) (fun G => ?_), zLk_push (x := xe_I μ0 10 a) hL h3 h5, h12 _⟩
        · rw [zc_1 (show a < b0 by omega) hb0 hn ((k1 a).1.trans x1), z111 e1 (by omega), zcV_ok, (k1 a).2]
        · rw [zr_1 hu ((k2 _).1.trans (u1.trans x1)) (by omega), (k2 _).2, u2, eU]
      · obtain ⟨u1, u2⟩ := zOp_lf hop (Or.inr (Or.inl x1))
        refine ⟨_, _, zGo_1 (fun g n hn => ?_) (fun G => ?_), zLk_push (x := xe_I μ v3 p) hL h3 h5, h12 _⟩
        · rw [zc_2 (show a < b0 by omega) hb0 hn ((k1 a).1.trans x1) h3.2.2 (by have := h3.2.1; omega) (show p < 12 by omega) ((k1 a).2.trans hy), z111 e1 (by omega), zcV_ok]
        · rw [zr_2 hu ((k2 _).1.trans (u1.trans x1)) (by omega) (show p < 12 by omega) ((k2 _).2.trans (u2.trans hy)), ← e6 p (by omega), eU]
      · obtain ⟨u1, u2⟩ := zOp_lf hop (Or.inr (Or.inr (Or.inl x1)))
        refine ⟨_, _, zGo_1 (fun g n hn => ?_) (fun G => ?_), zLk_push (x := xe_I μ 201 p) hL h3 h5, h12 _⟩
        · rw [zc_3 (show a < b0 by omega) hb0 hn ((k1 a).1.trans x1) (show p < 4 by omega) ((k1 a).2.trans hy), z111 e1 (by omega), zcV_ok]
        · rw [zr_3 hu ((k2 _).1.trans (u1.trans x1)) (by omega) (show p < 4 by omega) ((k2 _).2.trans (u2.trans hy)), ← e8 p (by omega), eU]
      · obtain ⟨u1, u2⟩ := zOp_lf hop (Or.inr (Or.inr (Or.inr x1)))
        refine ⟨_, _, zGo_1 (fun g n hn => ?_) (fun G => ?_), zLk_push (x := xe_I μ 13 p) hL h3 h5, h12 _⟩
        · rw [zc_4 (show a < b0 by omega) hb0 hn ((k1 a).1.trans x1) (show p < 6 by omega) ((k1 a).2.trans hy), z111 e1 (by omega), zcV_ok]
        · rw [zr_4 hu ((k2 _).1.trans (u1.trans x1)) (by omega) (show p < 6 by omega) ((k2 _).2.trans (u2.trans hy)), ← e5 p (by omega), eU]
    · obtain ⟨-, μ1, ν1, g1, L1, r1⟩ := ih a m μ ν h rd hw ha (by omega) (by omega) hL
      refine ⟨by omega, ?_⟩
      have hop := hcd m (by omega) (by omega)
      rw [h5'] at hop
      have u1 := zOp_5 hop
      obtain ⟨⟨e1, e2⟩, e3, e4, e5, e6, e7, e8, e9, e10⟩ := id L1
      obtain ⟨k1, k2⟩ := zLk_c L1 h5
      have eU : m + 1 + off = m + off + 1 := by omega
      have L2 := zLk_push (x := -(xe_I μ1 11 h)) (zLk_pop L1 h3 h5) h3 h5
      rw [show m + 1 - a = (m - a) + 1 by omega]
      refine ⟨_, _, zGo_t g1 (zGo_1 (fun g n hn => ?_) (fun G => ?_)), L2, fun j => by rw [xu_In (by omega), xu_In (by omega), xu_In (by omega)]; exact r1 j⟩
      · rw [zc_5 (show m < b0 by omega) hb0 hn ((k1 m).1.trans h5'), z112 e1 (by omega), zcI_ok, z111 xu_I (by omega), zcV_ok]
      · rw [zr_5 (show m + off < 6000 by omega) ((k2 _).1.trans u1) (by omega), ← e3 h (by omega), eU]
    · obtain ⟨-, μ1, ν1, g1, L1, r1⟩ := ih a m1 μ ν h rd w1 ha (by omega) (by omega) hL
      obtain ⟨-, μ2, ν2, g2, L2, r2⟩ := ih m1 m2 μ1 ν1 (h + 1) rd w2 (by omega) (by omega) (by omega) L1
      refine ⟨by omega, ?_⟩
      have hop := hcd m2 (by omega) (by omega)
      rw [h6] at hop
      obtain ⟨u1, u2⟩ := zOp_q hop q1 q2
      obtain ⟨⟨e1, e2⟩, e3, e4, e5, e6, e7, e8, e9, e10⟩ := id L2
      obtain ⟨k1, k2⟩ := zLk_c L2 h5
      have eU : m2 + 1 + off = m2 + off + 1 := by omega
      have L3 := zLk_push (x := zop2 q (xe_I μ2 11 h) (xe_I μ2 11 (h + 1))) (zLk_pop (zLk_pop L2 h3 h5) h3 h5) h3 h5
      rw [show m2 + 1 - a = (m1 - a) + ((m2 - m1) + 1) by omega]
      refine ⟨_, _, zGo_t g1 (zGo_t g2 (zGo_1 (fun g n hn => ?_) (fun G => ?_))), L3, fun j => by rw [xu_In (by omega), xu_In (by omega), xu_In (by omega), xu_In (by omega)]; exact (r2 j).trans (r1 j)⟩
      · rw [zc_6 (show m2 < b0 by omega) hb0 hn q1 q2 ((k1 m2).1.trans h6), z112 e1 (by omega), zcI_ok, z112 xu_I (by omega), zcI_ok, xu_In (by omega), xu_In (by omega), (k1 m2).1, h6, (z114 (ν := ν2) q1 q2).1, zcI_ok, z111 xu_I (by omega), zcV_ok]
      · rw [zr_6 (show m2 + off < 6000 by omega) ((k2 _).1.trans u1) (by omega) q1 q2 ((k2 _).2.trans u2), ← e3 h (by omega), ← e3 (h + 1) (by omega), eU]
end
