/-! running: statements -/
section
variable {μ0 ν0 : xe_Mem} {v1 : Int32} {v3 v5 b0 off a0 P S : Nat}
theorem z_ck (h3 : zVv v3) (h5 : zVv v5) (hne : v3 ≠ v5) (hP : P ≤ 12) (hS : S ≤ 4) (hb0 : b0 ≤ 3000) (hU : b0 + off < 6000) (hcd : zCd μ0 ν0 off a0 b0) : ∀ k d c a b w (μ ν : xe_Mem) rd, zCk P S (xe_I μ0 9) (xe_I μ0 10) k d c a b w → a0 ≤ a → b ≤ b0 → rd ≤ d → zLk P v3 v5 μ0 ν0 μ ν 0 rd → ∃ s μ' ν', s ≤ 64 * w ∧ zGo v3 v5 b0 off v1 a 0 rd μ ν b 0 rd μ' ν' s ∧ zLk P v3 v5 μ0 ν0 μ' ν' 0 rd ∧ ∀ j, j < rd → xe_I μ' 12 j = xe_I μ 12 j := by
  intro k
  induction k with
  | zero => intro d c a b w μ ν rd h; exact h.elim
  | succ k ih =>
    intro d c a b w μ ν rd hk ha hb hrd hL
    cases c with
    | true =>
      rcases hk with ⟨rfl, rfl⟩ | ⟨c, w1, w2, hk⟩
      · exact ⟨0, μ, ν, Nat.le_refl _, zGo_0, hL, fun _ _ => rfl⟩
      · rcases hk with ⟨x1, x2, rfl, x4, x5⟩ | ⟨w3, rfl, x2, x3⟩
        · obtain ⟨s1, μ1, ν1, p1, p2, p3, p4⟩ := ih d true a c w1 μ ν rd x4 ha (by omega) hrd hL
          obtain ⟨s2, μ2, ν2, q1, q2, q3, q4⟩ := ih d false c b w2 μ1 ν1 rd x5 (by omega) hb hrd p3
          exact ⟨s1 + s2, μ2, ν2, by omega, zGo_t p2 q2, q3, fun j hj => (q4 j hj).trans (p4 j hj)⟩
        · exact ih d false a b w3 μ ν rd x3 ha hb hrd hL
    | false =>
      -- an expression first, then the instruction e behind it
      have hE : ∀ e j, zEy P S (xe_I μ0 9) (xe_I μ0 10) j a e → e < b0 → ∃ μ1 ν1, zGo v3 v5 b0 off v1 a 0 rd μ ν e 1 rd μ1 ν1 (e - a) ∧ zLk P v3 v5 μ0 ν0 μ1 ν1 1 rd ∧ ∀ j, xe_I μ1 12 j = xe_I μ 12 j := fun e j hj he => (z_ex h3 h5 hP hS hb0 hU hcd j a e μ ν 0 rd hj.2 ha (by omega) (by have := hj.1; omega) hL).2
      rcases hk with ⟨rfl, e, x1, rfl, ⟨j, x3⟩, x4⟩ | ⟨e, w1, x1, x2, rfl, ⟨j, x4⟩, x5, x6, x7⟩ | ⟨e, g, w1, w2, x1, x2, x3, rfl, ⟨j, x5⟩, x6, x7, x8, x9, x10, x11⟩ | ⟨e, n, w1, x1, x2, rfl, x4, x5, hD, rfl, x7, x8, x9, x10, x11⟩
      · obtain ⟨μ1, ν1, g1, L1, r1⟩ := hE e j x3 (by omega)
        have h60 := x3.1
        have hop := hcd e (by omega) (by omega)
        obtain ⟨⟨e1, e2⟩, e3, -⟩ := id L1
        obtain ⟨k1, k2⟩ := zLk_c L1 h5
        have eU : e + 1 + off = e + off + 1 := by omega
        have L2 := zLk_pop L1 h3 h5
        rcases x4 with ⟨y1, y, y2, y3⟩ | ⟨y1, y, y2, y3⟩
        · rw [y1] at hop
          obtain ⟨u1, u2⟩ := zOp_13 hop
          refine ⟨(e - a) + 1, _, _, by omega, zGo_t g1 (zGo_1 (fun g n hn => ?_) (fun G => ?_)), zLk_port (p := y) (x := xe_I μ1 11 0) L2 h5 hne (by omega), fun j hj => ?_⟩
          · rw [zc_13 (show e < b0 by omega) hb0 hn ((k1 e).1.trans y1) h5.2.2 (by have := h5.2.1; omega) (show y < 12 by omega) ((k1 e).2.trans y3), z112 e1 (by omega), zcI_ok]
          · rw [zr_7 (show e + off < 6000 by omega) ((k2 _).1.trans u1) (by omega) (show y < 12 by omega) ((k2 _).2.trans (u2.trans y3)), ← e3 0 (by omega), eU]
          · have := h5.1
            rw [xu_In (by omega), xu_In (by omega)]
            exact r1 j
        · rw [y1] at hop
          obtain ⟨u1, u2⟩ := zOp_14 hop
          refine ⟨(e - a) + 1, _, _, by omega, zGo_t g1 (zGo_1 (fun g n hn => ?_) (fun G => ?_)), zLk_loc (p := y) (x := xe_I μ1 11 0) L2 h3 h5, fun j hj => ?_⟩
          · rw [zc_14 (show e < b0 by omega) hb0 hn ((k1 e).1.trans y1) y2 ((k1 e).2.trans y3), z112 e1 (by omega), zcI_ok]
          · rw [zr_8 (show e + off < 6000 by omega) ((k2 _).1.trans u1) (by omega) y2 ((k2 _).2.trans (u2.trans y3)), ← e3 0 (by omega), eU]
          · rw [xu_In (by omega), xu_In (by omega)]
            exact r1 j
      · obtain ⟨μ1, ν1, g1, L1, r1⟩ := hE e j x4 (by omega)
        have h60 := x4.1
        have hop := hcd e (by omega) (by omega)
        rw [x5, x6] at hop
        obtain ⟨u1, u2⟩ := zOp_15 hop
        have u3 := zJ_v u2 (by omega) (by omega)
        obtain ⟨⟨e1, e2⟩, e3, -⟩ := id L1
        obtain ⟨k1, k2⟩ := zLk_c L1 h5
        have eU : e + 1 + off = e + off + 1 := by omega
        have L2 := zLk_pop L1 h3 h5
        by_cases hz : xe_I μ1 11 0 = 0
        · refine ⟨(e - a) + 1, _, _, by omega, zGo_t g1 (zGo_1 (fun g n hn => ?_) (fun G => ?_)), L2, fun j hj => ?_⟩
          · rw [zc_15 (show e < b0 by omega) hb0 hn ((k1 e).1.trans x5), z112 e1 (by omega), zcI_ok, if_pos hz, (k1 e).2, x6]
          · rw [zr_9 (show e + off < 6000 by omega) ((k2 _).1.trans u1) (by omega), ← e3 0 (by omega), if_pos hz, (k2 _).2, u3]
          · rw [xu_In (by omega)]
            exact r1 j
        · obtain ⟨s2, μ2, ν2, q1, q2, q3, q4⟩ := ih (d + 1) true (e + 1) b w1 _ _ rd x7 (by omega) hb (by omega) L2
          refine ⟨(e - a) + (1 + s2), _, _, by omega, zGo_t g1 (zGo_t (zGo_1 (fun g n hn => ?_) (fun G => ?_)) q2), q3, fun j hj => ?_⟩
          · rw [zc_15 (show e < b0 by omega) hb0 hn ((k1 e).1.trans x5), z112 e1 (by omega), zcI_ok, if_neg hz]
          · rw [zr_9 (show e + off < 6000 by omega) ((k2 _).1.trans u1) (by omega), ← e3 0 (by omega), if_neg hz, eU]
          · rw [q4 j hj, xu_In (by omega)]
            exact r1 j
      · obtain ⟨μ1, ν1, g1, L1, r1⟩ := hE e j x5 (by omega)
        have h60 := x5.1
        have hm1 : w1 ≤ max w1 w2 := Nat.le_max_left _ _
        have hm2 : w2 ≤ max w1 w2 := Nat.le_max_right _ _
        have hop := hcd e (by omega) (by omega)
        rw [x6, x7] at hop
        obtain ⟨u1, u2⟩ := zOp_15 hop
        have u3 := zJ_v u2 (by omega) (by omega)
        obtain ⟨⟨e1, e2⟩, e3, -⟩ := id L1
        obtain ⟨k1, k2⟩ := zLk_c L1 h5
        have eU : e + 1 + off = e + off + 1 := by omega
        have L2 := zLk_pop L1 h3 h5
        by_cases hz : xe_I μ1 11 0 = 0
        · obtain ⟨s2, μ2, ν2, q1, q2, q3, q4⟩ := ih (d + 1) true (g + 1) b w2 _ _ rd x11 (by omega) hb (by omega) L2
          refine ⟨(e - a) + (1 + s2), _, _, by omega, zGo_t g1 (zGo_t (zGo_1 (fun g n hn => ?_) (fun G => ?_)) q2), q3, fun j hj => ?_⟩
          · rw [zc_15 (show e < b0 by omega) hb0 hn ((k1 e).1.trans x6), z112 e1 (by omega), zcI_ok, if_pos hz, (k1 e).2, x7]
          · rw [zr_9 (show e + off < 6000 by omega) ((k2 _).1.trans u1) (by omega), ← e3 0 (by omega), if_pos hz, (k2 _).2, u3]
          · rw [q4 j hj, xu_In (by omega)]
            exact r1 j
        · obtain ⟨s2, μ2, ν2, q1, q2, q3, q4⟩ := ih (d + 1) true (e + 1) g w1 _ _ rd x8 (by omega) (by omega) (by omega) L2
          have hop2 := hcd g (by omega) (by omega)
          rw [x9, x10] at hop2
          obtain ⟨o1, o2⟩ := zOp_16 hop2
          have o3 := zJ_v o2 (by omega) (by omega)
          obtain ⟨n1, n2⟩ := zLk_c q3 h5
          refine ⟨(e - a) + (1 + (s2 + 1)), _, _, by omega, zGo_t g1 (zGo_t (zGo_1 (fun g n hn => ?_) (fun G => ?_)) (zGo_t q2 (zGo_1 (fun g n hn => ?_) (fun G => ?_)))), q3, fun j hj => ?_⟩
          · rw [zc_15 (show e < b0 by omega) hb0 hn ((k1 e).1.trans x6), z112 e1 (by omega), zcI_ok, if_neg hz]
          · rw [zr_9 (show e + off < 6000 by omega) ((k2 _).1.trans u1) (by omega), ← e3 0 (by omega), if_neg hz, eU]
          · rw [zc_16 (by omega) hb0 hn ((n1 _).1.trans x9), (n1 _).2, x10]
          · rw [zr_10 (by omega) ((n2 _).1.trans o1), (n2 _).2, o3]
          · rw [q4 j hj, xu_In (by omega)]
            exact r1 j
      · -- the rounds
        have hopa := hcd a (by omega) (by omega)
        rw [x7, x8] at hopa
        obtain ⟨u1, u2⟩ := zOp_17 hopa
        have hope := hcd e (by omega) (by omega)
        rw [x10, x11] at hope
        obtain ⟨o1, o2⟩ := zOp_18 hope
        have o3 := zJ_v o2 (by omega) (by omega)
        have hloop : ∀ kk, kk < 9 → ∀ (μ1 ν1 : xe_Mem), zLk P v3 v5 μ0 ν0 μ1 ν1 0 (rd + 1) → xe_I μ1 12 rd = nI (kk + 1) → ∃ s μ' ν', s ≤ (kk + 1) * (64 * w1 + 1) ∧ zGo v3 v5 b0 off v1 (a + 1) 0 (rd + 1) μ1 ν1 (e + 1) 0 rd μ' ν' s ∧ zLk P v3 v5 μ0 ν0 μ' ν' 0 rd ∧ ∀ j, j < rd → xe_I μ' 12 j = xe_I μ1 12 j := by
          intro kk
          induction kk with
          | zero =>
            intro h9 μ1 ν1 L1 hv
            obtain ⟨s2, μ2, ν2, q1, q2, q3, q4⟩ := ih (d + 1) true (a + 1) e w1 μ1 ν1 (rd + 1) x9 (by omega) (by omega) (by omega) L1
            obtain ⟨⟨e1, e2⟩, e3, e4, -⟩ := id q3
            obtain ⟨k1, k2⟩ := zLk_c q3 h5
            have hv2 : xe_I μ2 12 rd = nI (0 + 1) := (q4 rd (by omega)).trans hv
            have hv3 : xe_I ν2 254 rd = nI (0 + 1) := (e4 rd (by omega)).symm.trans hv2
            refine ⟨s2 + 1, _, _, by omega, zGo_t q2 (zGo_1 (fun g n hn => ?_) (fun G => ?_)), zLk_rd (p := rd) (r' := rd) (x := nI 0) q3 h3 h5 (by omega) (by omega), fun j hj => ?_⟩
            · rw [zc_18 (show e < b0 by omega) hb0 hn ((k1 e).1.trans x10), z113 e2.1 (by omega) hv2 (by omega), if_pos rfl, zcI_ok, if_neg (show ¬ (1 : Int32) = 0 by decide)]
            · rw [zr_12 (show e + off < 6000 by omega) ((k2 _).1.trans o1) (by omega) hv3 (by omega), if_pos rfl, show e + 1 + off = e + off + 1 by omega]
            · rw [xu_In (by omega), xu_In (by omega)]
              exact q4 j (by omega)
          | succ kk ihk =>
            intro h9 μ1 ν1 L1 hv
            obtain ⟨s2, μ2, ν2, q1, q2, q3, q4⟩ := ih (d + 1) true (a + 1) e w1 μ1 ν1 (rd + 1) x9 (by omega) (by omega) (by omega) L1
            obtain ⟨⟨e1, e2⟩, e3, e4, -⟩ := id q3
            obtain ⟨k1, k2⟩ := zLk_c q3 h5
            have hv2 : xe_I μ2 12 rd = nI (kk + 1 + 1) := (q4 rd (by omega)).trans hv
            have hv3 : xe_I ν2 254 rd = nI (kk + 1 + 1) := (e4 rd (by omega)).symm.trans hv2
            have L3 := zLk_rd (p := rd) (r' := rd + 1) (x := nI (kk + 1)) q3 h3 h5 (by omega) (by omega)
            obtain ⟨s4, μ4, ν4, t1, t2, t3, t4⟩ := ihk (by omega) _ _ L3 (by rw [xu_In (by omega), xu_I])
            refine ⟨s2 + (1 + s4), _, _, ?_, zGo_t q2 (zGo_t (zGo_1 (fun g n hn => ?_) (fun G => ?_)) t2), t3, fun j hj => ?_⟩
            · rw [Nat.add_mul (kk + 1) 1, Nat.one_mul]
              omega
            · rw [zc_18 (show e < b0 by omega) hb0 hn ((k1 e).1.trans x10), z113 e2.1 (by omega) hv2 (by omega), if_neg (by omega), zcI_ok, if_pos rfl, (k1 e).2, x11]
            · rw [zr_12 (show e + off < 6000 by omega) ((k2 _).1.trans o1) (by omega) hv3 (by omega), if_neg (by omega), (k2 _).2, o3]
            · rw [t4 j hj, xu_In (by omega), xu_In (by omega)]
              exact q4 j (by omega)
        obtain ⟨⟨e1, e2⟩, e3, e4, -⟩ := id hL
        obtain ⟨k1, k2⟩ := zLk_c hL h5
        have L1 := zLk_rd (p := rd) (r' := rd + 1) (x := nI n) hL h3 h5 (by omega) (by omega)
        obtain ⟨s4, μ4, ν4, t1, t2, t3, t4⟩ := hloop (n - 1) (by omega) _ _ L1 (by rw [xu_In (by omega), xu_I, show n - 1 + 1 = n by omega])
        refine ⟨1 + s4, _, _, ?_, zGo_t (zGo_1 (fun g n hn => ?_) (fun G => ?_)) t2, t3, fun j hj => ?_⟩
        · rw [show n - 1 + 1 = n by omega, Nat.mul_add, Nat.mul_one, ← Nat.mul_assoc, Nat.mul_comm n 64, Nat.mul_assoc] at t1
          rw [Nat.mul_add n 1 w1, Nat.mul_one, Nat.mul_add 64]
          omega
        · rw [zc_17 (show a < b0 by omega) hb0 hn ((k1 a).1.trans x7) e2.1 (by omega), (k1 a).2, x8]
        · rw [zr_11 (show a + off < 6000 by omega) ((k2 _).1.trans u1) (by omega), (k2 _).2, u2, show a + 1 + off = a + off + 1 by omega]
        · rw [t4 j hj, xu_In (by omega), xu_In (by omega)]
end
