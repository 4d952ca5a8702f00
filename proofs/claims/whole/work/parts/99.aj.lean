/-! a task is read by both, or refused by both -/
section
variable {N P S m T Sw Sl f k0 s0 per L p st mb tm sp p3 : Nat} {μ ν μ3 ν3 : xe_Mem} {x : Int64}
/-- a task is read -/
def zTO (N P S m f k0 s0 : Nat) (μ ν : xe_Mem) (p T Sw Sl per : Nat) (A B : zO) : Prop := (∃ μ' ν' p' L' st' mb', A = some (.inl none, μ') ∧ B = zint 1 ν' ∧ zIM N P S m f k0 s0 μ' ν' p' (T + 1) Sw Sl L' st' mb' per ∧ p < p' ∧ zW μ ν μ' ν') ∨ zFx N μ ν A B
theorem z_task2 (h : zIM N P S m f k0 s0 μ ν p T Sw Sl L st mb per) (hT : T < f + 6) (g3 : zfG zX3 (zY3 T) zZu μ μ3) (g3r : zfG (zX3r T) zZu zZu ν ν3) (hW : zW μ ν μ3 ν3) (h3 : zPo N μ3 ν3 p3) (hp : p < p3) (hR3 : zRt μ3) (o1 : xe_L μ3 191 T = x) (o2 : xe_I μ3 190 3 = nI (T + 1)) (u3 : xe_I ν3 220 T = nI tm) (u4 : xe_I ν3 221 T = nI sp) (htm : 1 ≤ tm) (hsp : tm * sp = per) : zTO N P S m f k0 s0 μ ν p T Sw Sl per (zc47c (nI sp) μ3) (zr86b (nI m) x (nI T) ν3) := by
  obtain ⟨hP, hK, hNn, hC, hM, ⟨m4, f6, k4, s120⟩, hO, hD⟩ := id h
  obtain ⟨hR, hNp, ⟨p1, p2, p3'⟩, ct, cm, cv⟩ := id hK
  obtain ⟨⟨n1, n2, n3, n4⟩, ⟨n5, n6, n7, n8⟩⟩ := id hNn
  obtain ⟨c1, c2, c3, c4, c5, c6, c7, c8⟩ := id hC
  obtain ⟨d1, d2, d3, d4, d5⟩ := id hM
  obtain ⟨⟨b1, b2, b3, b4, b5, b6, b7, b8⟩, ⟨e1, e2, e3, e4, e5, e6⟩, -, hts, -, -⟩ := id hD
  have hT24 : T < 24 := by omega
  have hr3 : xe_R μ3 181 10 = some (17 + 11 * m) := ((g3 181 (by decide) 10).2.2 (fun w => w.2 rfl)).trans d1
  rcases z_tb (m := m) (sp := nI sp) (v1 := nI m) (x := x) (v5 := nI T) h3 hr3 with ⟨nd, w1, w2, w3, w4, w5, w6⟩ | hf
  · rw [w3, w4]
    have h5 := zPo_mv (zPo_mv h3 (by omega)) w2
    have g5 : zfG zX3 (zY3 T) zZu μ (zmv (zmv μ3 p3) (p3 + 1)) := zfG_t g3 (zfG_t (zfG_I (Or.inl ⟨rfl, rfl⟩)) (zfG_I (Or.inl ⟨rfl, rfl⟩)))
    have g5r : zfG (zX3r T) zZu zZu ν (zrmv (zrmv ν3 p3) (p3 + 1)) := zfG_t g3r (zfG_t (zfG_I (Or.inl ⟨rfl, rfl⟩)) (zfG_I (Or.inl ⟨rfl, rfl⟩)))
    have hW5 : zW μ ν (zmv (zmv μ3 p3) (p3 + 1)) (zrmv (zrmv ν3 p3) (p3 + 1)) := zW_t hW (zW_t zW_mv zW_mv)
    have hR5 : zRt (zmv (zmv μ3 p3) (p3 + 1)) := hR3
    have o1' : xe_L (zmv (zmv μ3 p3) (p3 + 1)) 191 T = x := o1
    have o2' : xe_I (zmv (zmv μ3 p3) (p3 + 1)) 190 3 = nI (T + 1) := (xu_In (by omega)).trans ((xu_In (by omega)).trans o2)
    have u3' : xe_I (zrmv (zrmv ν3 p3) (p3 + 1)) 220 T = nI tm := (xu_In (by omega)).trans ((xu_In (by omega)).trans u3)
    have u4' : xe_I (zrmv (zrmv ν3 p3) (p3 + 1)) 221 T = nI sp := (xu_In (by omega)).trans ((xu_In (by omega)).trans u4)
    have w5' : xe_L (zrmv (zrmv ν3 p3) (p3 + 1)) 209 (p3 + 1) = nL nd := w5
    generalize zmv (zmv μ3 p3) (p3 + 1) = μ5 at h5 g5 hW5 hR5 o1' o2' ⊢
    generalize zrmv (zrmv ν3 p3) (p3 + 1) = ν5 at h5 g5r hW5 u3' u4' w5' ⊢
    have k5 : ∀ a j, a < 265 → ¬ zX3 a j → xe_I μ5 a j = xe_I μ a j := fun a j q1 q2 => (g5 a q1 j).1 q2
    have k5r : ∀ a j, a < 265 → ¬ zX3r T a j → xe_I ν5 a j = xe_I ν a j := fun a j q1 q2 => (g5r a q1 j).1 q2
    have v47 : xe_I ν5 203 47 = nI (L + (T + Sw)) := by
      rw [k5r 203 47 (by decide) (by unfold zX3r; omega), c3]
      congr 1
      omega
    rw [z47d (P := P) (S := S) (L := L) (n := T - f) hR5 m4 hT24 ((k5 7 7 (by decide) (by unfold zX3; omega)).trans n2) ((k5 _ 0 (by omega) (by unfold zX3; omega)).trans (cm m m4)) ((k5 _ 3 (by omega) (by unfold zX3; omega)).trans e3) (by omega) ((k5 7 4 (by decide) (by unfold zX3; omega)).trans p1) ((k5 7 5 (by decide) (by unfold zX3; omega)).trans p2) ((k5 8 2 (by decide) (by unfold zX3; omega)).trans c1), z86d (U := L + (T + Sw)) (p := p3 + 1) hT24 h5.2.2.1 w6 w5' w1 v47]
    have kc : ∀ c j, c < 265 → ¬ zX3 c j → c ≠ 61 + 5 * T → (c ≠ 7 ∨ j ≠ 7) → (c ≠ 17 + 11 * m ∨ j ≠ 3) → (c ≠ 182 ∨ j ≠ 3) → (c ≠ 181 ∨ j ≠ 9) → xe_I (zc7 μ5 T m (T - f) (nI nd) (nI sp) (P + S) L) c j = xe_I μ c j := fun c j q0 q1 q2 q3 q4 q5 q6 => (zc7_o m4 q2 q3 q4 q5 q6).trans (k5 c j q0 q1)
    have kr : ∀ c j, c < 265 → ¬ zX3r T c j → (218 ≤ c ∧ c ≤ 224 → j ≠ T) → (c ≠ 226 ∨ j < 12 * T ∨ 12 * T + 12 ≤ j) → (c ≠ 227 ∨ j < 12 * T ∨ 12 * T + 12 ≤ j) → c ≠ 242 → xe_I (zr8 ν5 T m x nd (L + (T + Sw))) c j = xe_I ν c j := fun c j q0 q1 q2 q3 q4 q5 => (zr8_o q2 q3 q4 q5).trans (k5r c j q0 q1)
    have hb : zTb P S m T L st mb (T + Sw) (T - f) nd tm sp x (zc7 μ5 T m (T - f) (nI nd) (nI sp) (P + S) L) (zr8 ν5 T m x nd (L + (T + Sw))) := by
      obtain ⟨x1, x2, x3, x4, x5, x6, x7⟩ := zc7_v (μ := μ5) (T := T) (n := T - f) (a2 := nI nd) (sp := nI sp) (P := P + S) (L := L) m4
      obtain ⟨z1, z2, z3, z4, z5, z6, z7⟩ := zc51_v (μ := μ5) (b := 61 + 5 * T) (a1 := nI m) (a2 := nI nd) (a3 := nI sp)
      obtain ⟨q1, q2, q3, q4, q5, q6, q7, q8⟩ := zr8_v (ν := ν5) (T := T) (m := m) (x := x) (nd := nd) (U := L + (T + Sw))
      have kt : ∀ j, j ≠ 8 → xe_I (zc7 μ5 T m (T - f) (nI nd) (nI sp) (P + S) L) (61 + 5 * T) j = xe_I (zc51 μ5 (61 + 5 * T) (nI m) (nI nd) (nI sp)) (61 + 5 * T) j := fun j hj => zc7_t m4 hT24 hj
      refine ⟨zRt_c7 m4 (by omega) hR5, ?_, ⟨x3, x4, ?_, ?_, x6, ?_, ?_⟩, ⟨o1', ?_, x1, x2, x7⟩, ⟨(kt 1 (by decide)).trans z1, (kt 2 (by decide)).trans z2, (kt 3 (by decide)).trans z3, (kt 5 (by decide)).trans z4, (kt 6 (by decide)).trans z5, x5, (kt 11 (by decide)).trans z6, (kt 13 (by decide)).trans z7⟩, ⟨?_, ?_, ?_⟩, ⟨zr8_N, q1, q2, q5.trans u3', q6.trans u4', q3, q4⟩, q7, q8, fun q hq => ?_⟩
      · refine zNp_k hNp (fun e he => ⟨kc 184 e (by decide) (by unfold zX3; omega) (by omega) (by omega) (by omega) (by omega) (by omega), kc 185 e (by decide) (by unfold zX3; omega) (by omega) (by omega) (by omega) (by omega) (by omega), (g5 183 (by decide) e).2.1 (fun w => by unfold zY3 at w; omega)⟩) ⟨funext fun e => ?_, funext fun e => ?_⟩ ⟨?_, ?_⟩
        · rw [zr8_L (by omega)]
          exact (g5r 210 (by decide) e).2.1 (fun w => w.2 rfl)
        · rw [zr8_L (by omega)]
          exact (g5r 212 (by decide) e).2.1 (fun w => w.2 rfl)
        · exact kr 203 12 (by decide) (by unfold zX3r; omega) (by omega) (by omega) (by omega) (by omega)
        · exact kr 203 15 (by decide) (by unfold zX3r; omega) (by omega) (by omega) (by omega) (by omega)
      · exact (kc 8 2 (by decide) (by unfold zX3; omega) (by omega) (by omega) (by omega) (by omega) (by omega)).trans c1
      · exact (kc 181 7 (by decide) (by unfold zX3; omega) (by omega) (by omega) (by omega) (by omega) (by omega)).trans c2
      · exact ((zfG_c7 (L' := 0) 181 (by decide) 10).2.2 (by unfold zZt; omega)).trans (((g5 181 (by decide) 10).2.2 (fun w => w.2 rfl)).trans d1)
      · exact (kc _ 4 (by omega) (by unfold zX3; omega) (by omega) (by omega) (by omega) (by omega) (by omega)).trans d2
      · exact (zc7_o m4 (by omega) (by omega) (by omega) (by omega) (by omega)).trans o2'
      · exact (zr8_o (by omega) (by omega) (by omega) (by omega)).trans v47
      · exact (kr 203 52 (by decide) (by unfold zX3r; omega) (by omega) (by omega) (by omega) (by omega)).trans c4
      · exact (kr 203 22 (by decide) (by unfold zX3r; omega) (by omega) (by omega) (by omega) (by omega)).trans n3
      · rw [← d5 q hq]
        constructor
        · rintro ⟨k, w1, w2, w3⟩
          rw [kr 218 k (by decide) (by unfold zX3r; omega) (by omega) (by omega) (by omega) (by omega)] at w2
          rw [kr 227 _ (by decide) (by unfold zX3r; omega) (by omega) (by omega) (by omega) (by omega)] at w3
          refine ⟨k, ?_, w1, w3⟩
          by_cases hk : k < f
          · obtain ⟨i, i1, i2⟩ := d4 k hk
            rw [i2, zi_eq (by omega) (by omega)] at w2
            omega
          · omega
        · rintro ⟨k, w1, w2, w3⟩
          refine ⟨k, w2, ?_, ?_⟩
          · rw [kr 218 k (by decide) (by unfold zX3r; omega) (by omega) (by omega) (by omega) (by omega)]
            obtain ⟨_, _, _, _, _, _, _, _, _, _, -, -, hh, -⟩ := hts k w1 w2
            exact hh.1
          · rw [kr 227 _ (by decide) (by unfold zX3r; omega) (by omega) (by omega) (by omega) (by omega)]
            exact w3
    have hP7 : zPo N (zc7 μ5 T m (T - f) (nI nd) (nI sp) (P + S) L) (zr8 ν5 T m x nd (L + (T + Sw))) (p3 + 1 + 1) := by
      obtain ⟨h1, h2, h3, h4, h5', h6, h7, h8, -⟩ := h5
      refine ⟨zTE_k h1 (fun a ha => ⟨funext fun j => zc7_o m4 (by omega) (by omega) (by omega) (by omega) (by omega), rfl, funext fun j => (zfG_c7 (L' := 0) a (by omega) j).2.2 (by unfold zZt; omega)⟩) (fun a ha => ⟨funext fun j => zr8_o (by omega) (by omega) (by omega) (by omega), funext fun j => zr8_L (by omega)⟩), (zc7_o m4 (by omega) (by omega) (by omega) (by omega) (by omega)).trans h2, (zr8_o (by omega) (by omega) (by omega) (by omega)).trans h3, h4, (zr8_o (by omega) (by omega) (by omega) (by omega)).trans h5', h6, h7, h8, 0, by decide, (zc7_v m4).2.2.2.1⟩
    have hW7 : zW μ ν (zc7 μ5 T m (T - f) (nI nd) (nI sp) (P + S) L) (zr8 ν5 T m x nd (L + (T + Sw))) := zW_t hW5 (zW_t (zW_c7 m4) zW_r8)
    have G1 : zfG (zXt m T L) (zYt T) (zZt m (T - f)) μ (zc7 μ5 T m (T - f) (nI nd) (nI sp) (P + S) L) := zfG_t (zfG_w g5 (fun a j q => by unfold zX3 at q; unfold zXt; omega) (fun a j q => Or.inr q) (fun a j q => absurd rfl q.2)) zfG_c7
    have G2 : zfG (zXu T (L + T + Sw)) (zYu T) zZu ν (zr8 ν5 T m x nd (L + (T + Sw))) := zfG_t (zfG_w g5r (fun a j q => by unfold zX3r at q; unfold zXu; omega) (fun a j q => absurd rfl q.2) (fun a j q => q)) zfG_r8
    rcases z_tblk hP7 hb hT24 m4 d3 c6 (by omega) (by omega) with ⟨μ', ν', p', L', ub, Lc, abn, st', w, a1, a2, a3, a4, a5, a6, a7, a8, a9, a10, a11, a12⟩ | hf
    · refine Or.inl ⟨_, _, p' + 1, L', st', mb ||| abn, a1, a2, z_tend h hT rfl hb G1 G2 w1 htm hsp a7 a6 a4 a3 a8 a9 a10, by omega, zW_t hW7 (zW_t (zW_t zW_0 ⟨zG_b a9, zGr_b a10, a11, a12⟩) (zW_t (zW_t (zW_I (zgI_a (by decide) (by decide))) (zW_c9 m4)) zW_r9))⟩
    · exact Or.inr (zFx_w hW7 hf)
  · exact Or.inr (zFx_w hW hf)
theorem z_task (h : zIM N P S m f k0 s0 μ ν p T Sw Sl L st mb per) (hN : p + 1 < N) (hT : T < f + 6) : zTO N P S m f k0 s0 μ ν p T Sw Sl per (zD47 μ) (zD153 (nI m) ν) := by
  obtain ⟨hP, hK, hNn, hC, hM, ⟨m4, f6, k4, s120⟩, hO, hD⟩ := id h
  obtain ⟨hR, hNp, ⟨p1, p2, p3'⟩, ct, cm, cv⟩ := id hK
  obtain ⟨⟨n1, n2, n3, n4⟩, ⟨n5, n6, n7, n8⟩⟩ := id hNn
  obtain ⟨d1, d2, d3, d4, d5⟩ := id hM
  obtain ⟨⟨b1, b2, b3, b4, b5, b6, b7, b8⟩, ⟨e1, e2, e3, e4, e5, e6⟩, -, hts, -, -⟩ := id hD
  have hT24 : T < 24 := by omega
  have hna : zNa 190 24 := Or.inr (Or.inr ⟨rfl, rfl⟩)
  rw [z47a m4 d1 e3 (by omega) hP.2.1, if_neg (by omega), z153a hP.2.2.1]
  have h1 := zPo_mv hP hN
  rcases z_ta (T := T) (m := m) (per := per) h1 hR hT24 ((xu_In (by omega)).trans n1) ((xu_In (by omega)).trans n3) (fun t ht => (n4 t ht).1) m4 d1 ((xu_In (by omega)).trans e1) ((xu_In (by omega)).trans e2) b2 with ⟨x, y, s, y1, y2, hN2, ea, eb⟩ | hf
  · rw [ea, eb]
    have h2 := zPo_mv (zPo_mv (zPo_nn (s := T) (x := x) (a := 0) (b := 0) hna h1) (by omega)) (show p + 1 + 1 + 1 < N by omega)
    refine z_task2 (p3 := p + 1 + 1 + 1) (tm := y) h hT ?_ ?_ ?_ ?_ (by omega) hR ?_ ?_ ?_ xu_I y1 y2
    · unfold zmv znn
      refine zfG_t ?_ (zfG_I (by unfold zX3; omega))
      refine zfG_t ?_ (zfG_I (by unfold zX3; omega))
      refine zfG_t ?_ (zfG_I (by unfold zX3; omega))
      refine zfG_t ?_ (zfG_I (by unfold zX3; omega))
      refine zfG_t ?_ (zfG_I (by unfold zX3; omega))
      refine zfG_t ?_ (zfG_L (by unfold zY3; omega))
      exact zfG_I (by unfold zX3; omega)
    · unfold zrmv
      refine zfG_t ?_ (zfG_I (by unfold zX3r; omega))
      refine zfG_t ?_ (zfG_I (by unfold zX3r; omega))
      refine zfG_t ?_ (zfG_I (by unfold zX3r; omega))
      refine zfG_t ?_ (zfG_I (by unfold zX3r; omega))
      exact zfG_I (by unfold zX3r; omega)
    · exact zW_t zW_mv (zW_t (zW_nn hna) (zW_t zW_mv (zW_t zW_mv (zW_t (zW_rI ⟨by omega, by omega⟩) (zW_rI ⟨by omega, by omega⟩)))))
    · exact zPo_k h2 (fun _ _ => ⟨rfl, rfl, rfl⟩) (fun a ha => ⟨funext fun j => by rw [xu_In (by omega), xu_In (by omega)], rfl⟩) rfl ⟨by rw [xu_In (by omega), xu_In (by omega)], by rw [xu_In (by omega), xu_In (by omega)]⟩ rfl rfl rfl
    · show xe_L (xe_setL (zmv μ p) 191 T x) 191 T = x
      rw [zu_L, if_pos ⟨rfl, rfl⟩]
    · refine (xu_In (by omega)).trans ((xu_In (by omega)).trans ?_)
      exact xu_I
    · exact (xu_In (by omega)).trans xu_I
  · exact Or.inr (zFx_w zW_mv hf)
end
