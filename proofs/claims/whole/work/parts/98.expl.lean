/-! an expression: the levels, and all of it -/
section
variable {N P S Lc t : Nat} {tk : Bool} {off a0 : Nat} {ab : Nat → Bool} {T : Int32} {μ ν : xe_Mem} {p c L dep : Nat} {W : List Nat} {cs : List Bool} {n l : Nat}
theorem z_loop (ih : zSl N P S Lc t tk off a0 ab T n) (hl : l ≤ 2) (hn : 5 * (8 - dep) + 5 ≤ n + (l + 1)) (hW : zWo W l) : ∀ (m : Nat) (μ1 ν1 : xe_Mem) (p1 c1 L1 ub1 F1 g1 : Nat) (Pn : List Nat) (cs1 : List Bool) (i K fu : Nat), 61 - c1 ≤ m → m < fu → zEA N P S Lc t tk off a0 ab μ1 ν1 p1 c1 L1 ub1 dep Pn W cs1 → (∀ q ∈ Pn, 18 ≤ q ∧ q ≤ 24 ∧ l ≤ zlv q) → zNx μ1 p1 (l + 1) cs1 → ((l = 0 ∧ K = 1 ∧ ((i = 0 ∧ ∃ ct, cs = false :: ct ∧ cs1 = false :: ct) ∨ (i = 1 ∧ ∃ ct, cs = false :: ct ∧ cs1 = true :: ct))) ∨ (1 ≤ l ∧ K = 60 ∧ 2 * i + 1 ≤ c1 ∧ cs1 = cs)) → p < p1 → c < c1 → p1 + c = p + c1 → L < L1 + Pn.length → L1 + Pn.length + p ≤ L + p1 → L ≤ L1 → zEp P S μ1 L (L1 + Pn.length) → zfI (zXc L) μ μ1 → zfI (zXr (L + off) t) ν ν1 → xe_sh μ1 = xe_sh μ → xe_sl μ1 = xe_sl μ → 200 ≤ F1 + c1 → 192 + dep ≤ g1 → zLo N P S Lc t tk off a0 ab T l μ ν p c L dep W cs (zD56_21 (zKE n).1 (zKE n).2 fu (nI l) (nI dep) (nI K) (nI i) μ1) (zC T F1 g1 ν1) := by
  intro m
  induction m with
  | zero =>
    intro μ1 ν1 p1 c1 L1 ub1 F1 g1 Pn cs1 i K fu hm hfu h
    have := h.2.2.2.2.2.2.2.2.1
    omega
  | succ m im =>
    intro μ1 ν1 p1 c1 L1 ub1 F1 g1 Pn cs1 i K fu hm hfu h hP hX hI a1 a2 a3 a4 a5 a6 a7 a8 a9 a10 a11 a12 a13
    obtain ⟨fu, rfl⟩ : ∃ g, fu = g + 1 := ⟨fu - 1, by omega⟩
    obtain ⟨hx, ⟨e1, e2, e3, e4⟩, ⟨r1, r2, r3, r4, r5, r6, r7, r8⟩, hcd, hpd, hub, b1, b2, b3, b4, b5, b6, b7, b8, b9, b10, b11⟩ := id h
    have hN2 := hx.1.2.1
    obtain ⟨q, pl, t1, t2, t3⟩ := hx.1.2.2 p1 b1
    have hp3 : p1 < 3001 := by omega
    show zLo N P S Lc t tk off a0 ab T l μ ν p c L dep W cs (zD56_21_b (zKE n).1 (zKE n).2 (zD56_21 (zKE n).1 (zKE n).2 fu) (nI l) (nI dep) (nI K) (nI i) μ1) (zC T F1 g1 ν1)
    unfold zD56_21_b zD56_57
    by_cases hKi : K ≤ i
    · rw [if_pos (nI_le hKi (by omega))]
      rcases hI with ⟨q1, q2, q3 | ⟨q3, ct, q4, q5⟩⟩ | ⟨q1, q2, q3, q4⟩
      · omega
      · refine Or.inl ⟨μ1, ν1, p1, c1, L1, ub1, F1, g1, Pn, cs1, rfl, rfl, h, hP, fun y y1 y2 y3 y4 => ?_, Or.inr ⟨q1, ct, q4, q5⟩, a1, a2, a3, a4, a5, a6, a7, a8, a9, a10, a11, a12, a13⟩
        rcases hX y y1 y2 y3 y4 with z | ⟨z, -⟩
        · exact Or.inr ⟨q1, by omega, ct, q5⟩
        · omega
      · omega
    · rw [if_neg (nI_ge (by omega) (by omega)), e1, zx_nI hp3 (by decide), t3.1, zs_some, zk_ok (by omega), zkl_q q t1]
      by_cases hop : (18 ≤ q ∧ q ≤ 24) ∧ zlv q = l
      · obtain ⟨⟨h18, h24⟩, hlq⟩ := hop
        rw [if_pos (show (if 18 ≤ q ∧ q ≤ 24 then nI (zlv q) else -1) = nI l by rw [if_pos ⟨h18, h24⟩, hlq]), zx_nI hp3 (by decide), t3.1, zs_some, zk_ok (by omega)]
        have hka : List.getD xg_ka (1000001 + q - 1000001) 0 = zac q := by
          unfold zac
          rw [show 1000001 + q - 1000001 = q by omega]
        simp only [zq_vI]
        rw [hka, nI_1 l]
        have hi0 : l = 0 → i = 0 ∧ ∃ ct, cs = false :: ct ∧ cs1 = false :: ct := by
          intro hl0
          rcases hI with ⟨q1, q2, ⟨q3, q4⟩ | ⟨q3, q4⟩⟩ | ⟨q1, -⟩
          · exact ⟨q3, q4⟩
          · omega
          · omega
        obtain ⟨F1, rfl⟩ : ∃ g, F1 = g + 1 := ⟨F1 - 1, by omega⟩
        obtain ⟨g1, rfl⟩ : ∃ g, g1 = g + 1 := ⟨g1 - 1, by omega⟩
        obtain ⟨ν3, u1, u2, u3, u4⟩ := z_cop (T := T) (F := F1) (g := g1) h hP hW t3 h18 h24 hlq (t2.mp (by omega)) (fun hl0 => by
          obtain ⟨-, ct, -, q5⟩ := hi0 hl0
          exact ⟨ct, q5⟩)
        by_cases hc : c1 < 60
        · obtain ⟨v1, v2, v3⟩ := u3 hc
          have hzf : 200 ≤ zfu := by decide
          have G1 : zfI (zXc L) μ (ztk μ1 p1 c1) := zfI_t a8 ztk_f
          have G2 : zfI (zXr (L + off) t) ν (zrtk ν3 p1 c1) := zfI_t a9 (zfI_w v3 (zXr_w (by omega)))
          rw [v1, z59 e1 e2 hc, zcV_ok]
          rcases ih (l + 1) (by omega) (ztk μ1 p1 c1) (zrtk ν3 p1 c1) (p1 + 1) (c1 + 1) (L1 + Pn.length) ub1 dep (zsc q :: W) (if l = 0 then true :: cs1.tail else cs1) F1 zfu (by omega) v2 (Or.inr ⟨zsc q, W, rfl, zsc_lt q, fun e => by
            have w : ∀ q, q < 25 → 18 ≤ q → zsc q ≠ 95 := by decide +kernel
            exact w q (by omega) h18 e, (by rw [ztg_s q (by omega) h18, hlq]; exact Nat.le_refl _)⟩) (fun e => by omega) (by omega) (by omega) with ⟨μ2, ν2, p2, c2, L2, ub2, F2, g2, Pn2, cs2, o1, o2, o3, o4, o5, o6, o7, o8, o9, o10, o11, o11b, o12, o13, o14, o15, o16, o17, o18⟩ | hfl
          · obtain ⟨y1, ⟨w1, w2, w3, w4⟩, ⟨x1, x2, x3, x4, x5, x6, x7, x8⟩, y2, y3, y4, y5, y6, y7, y8, y9, y10, y11, y12, y13, y14, y15⟩ := id o3
            rw [List.length_cons] at y8
            have hcs2 : cs2 = if l = 0 then true :: cs1.tail else cs1 := by
              rcases o6 with e | ⟨e, -⟩
              · exact e
              · omega
            rw [o1, zcV_ok, o2, z58 w3 (by omega), zcI_ok, nI_1 i]
            have K1 : zfI (zXc (L2 + Pn2.length)) μ2 (zadd μ2 (L2 + Pn2.length) (zac q) 0) := zadd_f
            have K2 : zfI (zXr (L2 + off) t) ν2 ν2 := zfI_rfl
            have hlen : (Pn2 ++ [q]).length = Pn2.length + 1 := by rw [List.length_append]; rfl
            have hmap : (Pn2 ++ [q]).map zsc ++ W = Pn2.map zsc ++ zsc q :: W := by rw [List.map_append, List.append_assoc]; rfl
            have hEA : zEA N P S Lc t tk off a0 ab (zadd μ2 (L2 + Pn2.length) (zac q) 0) ν2 p2 c2 L2 ub2 dep (Pn2 ++ [q]) W cs2 := by
              refine ⟨zCx_f y1 K1 K2 rfl rfl, ⟨?_, ?_, ?_, ?_⟩, ?_, zCd_f y2 (by omega) (Nat.le_refl _) K1 K2, ?_, y4, ?_⟩
              · rw [zadd_o (Or.inl (by decide)) (by decide) (by decide)]; exact w1
              · rw [zadd_o (Or.inl (by decide)) (by decide) (by decide)]; exact w2
              · rw [hlen, ← Nat.add_assoc]; exact zadd_s
              · rw [zadd_o (Or.inl (by decide)) (by decide) (by decide)]; exact w4
              · rw [hmap]; exact ⟨x1, x2, x3, x4, x5, x6, x7, x8⟩
              · exact zPd_1 Pn2 L2 (zPd_f K1 Pn2 L2 (Nat.le_refl _) y3) zadd_e.1 zadd_e.2
              · rw [hlen]
                exact ⟨y5, by omega, y7, by omega, y9, y10, y11, by omega, y13, y14, y15⟩
            refine im _ ν2 p2 c2 L2 ub2 F2 g2 (Pn2 ++ [q]) cs2 (i + 1) K fu (by omega) (by omega) hEA (fun x hx => ?_) (fun z z1 z2 z3 z4 => o5 z z1 z2 z3 z4) ?_ (by omega) (by omega) (by omega) (by rw [hlen]; omega) (by rw [hlen]; omega) (by omega) ?_ (zfI_t G1 (zfI_t (zfI_w o13 (zXc_w (by omega))) (zfI_w K1 (zXc_w (by omega))))) (zfI_t G2 (zfI_w o14 (zXr_w (by omega)))) (o15.trans a10) (o16.trans a11) o17 (by omega)
            · rcases List.mem_append.mp hx with hx | hx
              · have := o4 x hx
                exact ⟨this.1, this.2.1, by omega⟩
              · rw [List.mem_singleton] at hx
                rw [hx]
                exact ⟨h18, h24, by omega⟩
            · rcases hI with ⟨q1, q2, -⟩ | ⟨q1, q2, q3, q4⟩
              · obtain ⟨i0, ct, i1, i2⟩ := hi0 q1
                refine Or.inl ⟨q1, q2, Or.inr ⟨by omega, ct, i1, ?_⟩⟩
                rw [hcs2, if_pos q1, i2]
                rfl
              · refine Or.inr ⟨q1, q2, by omega, ?_⟩
                rw [hcs2, if_neg (by omega)]
                exact q4
            · rw [hlen, ← Nat.add_assoc]
              have Z1 : zEp P S (zadd μ2 (L2 + Pn2.length) (zac q) 0) L (L1 + Pn.length) := zEp_f (L := L1 + Pn.length) a7 (Nat.le_refl _) (zfI_t ztk_f (zfI_t o13 (zfI_w K1 (zXc_w (by omega)))))
              have Z2 : zEp P S (zadd μ2 (L2 + Pn2.length) (zac q) 0) (L1 + Pn.length) (L2 + Pn2.length) := zEp_f (L := L2 + Pn2.length) o12 (Nat.le_refl _) K1
              exact zEp_two Z1 Z2 h18 h24 zadd_e.1 a4 o10
          · refine Or.inr ?_
            have hfl2 := zFl_f hfl (show L ≤ L1 + Pn.length by omega) (show L + off ≤ L1 + Pn.length + off by omega) G1 G2 a10 a11
            obtain ⟨μ2, ν2, p2, w1, w2⟩ := hfl2
            refine ⟨μ2, ν2, p2, ?_, w2⟩
            rw [w1, zcV_no]
        · have hc' : c1 = 60 := by omega
          rw [u4 hc']
          refine Or.inr ⟨μ1, xe_setI ν3 203 11 1, p1, ?_, rfl, ⟨b1, ub1, b11, e4⟩, e1, (xu_In (by omega)).trans u2, a8, zfI_t (zXf_of a9) (zfI_t (zXf_of (zfI_w u1 (zXr_w (by omega)))) (zfI_s rfl)), a10, a11⟩
          rw [z59n (by rw [e2, hc']), zthr hx.2.2.2.2.1 hx.2.2.2.2.2]
          rfl
      · rw [if_neg (show ¬ (if 18 ≤ q ∧ q ≤ 24 then nI (zlv q) else -1) = nI l from fun e => hop (by
          split at e
          · rename_i hh
            have := zlv_lt q
            rw [zi_eq (by omega) (by omega)] at e
            exact ⟨hh, e⟩
          · have h1 := congrArg Int32.toInt e
            rw [nI_toInt (by omega), show ((-1 : Int32)).toInt = -1 from by decide] at h1
            omega))]
        refine Or.inl ⟨μ1, ν1, p1, c1, L1, ub1, F1, g1, Pn, cs1, rfl, rfl, h, hP, fun y y1 y2 y3 y4 => ?_, ?_, a1, a2, a3, a4, a5, a6, a7, a8, a9, a10, a11, a12, a13⟩
        · have hyq : y = q := by
            rw [t3.1] at y2
            have := Option.some.inj y2
            omega
          subst hyq
          rcases hX y y1 y2 y3 y4 with z | ⟨z, -⟩
          · refine Or.inl ?_
            have : ¬ zlv y = l := fun e => hop ⟨⟨y3, y4⟩, e⟩
            omega
          · omega
        · rcases hI with ⟨q1, q2, ⟨q3, ct, q4, q5⟩ | ⟨q3, q4⟩⟩ | ⟨q1, q2, q3, q4⟩
          · exact Or.inl (by rw [q4, q5])
          · omega
          · exact Or.inl q4
end
theorem z_exp {N P S Lc t : Nat} {tk : Bool} {off a0 : Nat} {ab : Nat → Bool} {T : Int32} (hT : zTT T tk t) : ∀ n : Nat, zSo N P S Lc t tk off a0 ab T n ∧ zSl N P S Lc t tk off a0 ab T n := by
  intro n
  induction n with
  | zero => exact ⟨fun μ ν p c L ub dep W cs F f hn => by omega, fun l hl μ ν p c L ub dep W cs F f hn => by omega⟩
  | succ n ih =>
    refine ⟨fun μ ν p c L ub dep W cs F f hn h hF hf => ?_, fun l hl μ ν p c L ub dep W cs F f hn h hW hcs hF hf => ?_⟩
    · show zOo N P S Lc t tk off a0 ab T μ ν p c L dep W cs (zD57 (zKE n).1 (zKE n).2 (nI dep) μ) (zA T F f ν)
      obtain ⟨q, pl, t1, t2, t3, t4⟩ := z_tok h
      have hc6 : c ≤ 60 := h.2.2.2.2.2.2.2.2.1
      by_cases h26 : q = 26
      · subst h26
        obtain ⟨f, rfl⟩ : ∃ g, f = g + 1 := ⟨f - 1, by omega⟩
        exact z_num h (t2.mp (by decide)) t3 hF
      · by_cases h25 : q = 25
        · subst h25
          obtain ⟨f, rfl⟩ : ∃ g, f = g + 1 := ⟨f - 1, by omega⟩
          exact z_nam h (t2.mp (by decide)) t3 hT hF
        · by_cases h21 : q = 21
          · subst h21
            exact z_minus ih.1 h (t2.mp (by decide)) t3 hn hF hf
          · by_cases h16 : q = 16
            · subst h16
              exact z_brk ih.2 h (t2.mp (by decide)) t3 hn hF hf
            · obtain ⟨f, rfl⟩ : ∃ g, f = g + 1 := ⟨f - 1, by omega⟩
              have r1 := h.2.2.1.1
              refine Or.inr (z_here h ?_ (zA_no (ν1 := xe_setI ν 203 11 1) ?_) ((xu_In (by omega)).trans r1) (zfI_s rfl))
              · rw [z57 h.2.1.1 t4 t3.1 t1, if_neg h26, if_neg h25, if_neg h21, if_neg h16]
                unfold zD57_111 zD57_114 zD37
                rw [if_neg (by decide), zthr h.1.2.2.2.2.1 h.1.2.2.2.2.2]
                rfl
              · rw [z161 r1 t4 t3 t1, if_neg h21, if_neg h16, if_neg h26, if_neg h25]
    · show zLo N P S Lc t tk off a0 ab T l μ ν p c L dep W cs (zD56 (zKE n).1 (zKE n).2 (nI l) (nI dep) μ) (zA T F f ν)
      unfold zD56
      by_cases hl3 : l = 3
      · subst hl3
        rw [if_neg (by decide)]
        rcases ih.1 μ ν p c L ub dep W cs F f (by omega) h hF hf with ⟨μ', ν', p', c', L', ub', F', g', h', o1, o2, o3, o4, o5, o6, o7, o8, o9, o10, o11, o12, o13, o14, o15, o16⟩ | hfl
        · have hWn : W = [] ∨ ∃ x W', W = x :: W' ∧ x < 256 ∧ x ≠ 95 := by
            rcases hW with e | ⟨x, W', q1, q2, q3, q4⟩
            · exact Or.inl e
            · exact Or.inr ⟨x, W', q1, q2, q3⟩
          have y := o3.2.2.2.2.2.2
          have y4 : 0 + W.length ≤ c' := y.2.2.2.1
          have y3 : c' ≤ 60 := y.2.2.1
          rw [o1, zcV_ok, o2, zB_no (z_turn_no hWn (by omega) o3.2.2.1.2.2.2.1 o3.2.2.1.2.2.2.2.1 (by omega))]
          refine Or.inl ⟨μ', ν', p', c', L', ub', F', g', [], cs, rfl, rfl, o3, (fun q hq => by cases hq), fun q q1 q2 q3 q4 => Or.inl ?_, Or.inl rfl, o4, o5, o6, o7, o8, by omega, o9, o10, o11, o12, o13, o14, o15⟩
          have := zlv_lt q
          omega
        · refine Or.inr ?_
          obtain ⟨μ2, ν2, p2, w1, w2⟩ := hfl
          refine ⟨μ2, ν2, p2, ?_, w2⟩
          rw [w1, zcV_no]
      · rw [if_pos (show nI l ≤ (2 : Int32) from nI_le (b := 2) (by omega) (by decide)), nI_1]
        have hW1 : zWo W (l + 1) := by
          rcases hW with e | ⟨x, W', q1, q2, q3, q4⟩
          · exact Or.inl e
          · exact Or.inr ⟨x, W', q1, q2, q3, by omega⟩
        rcases ih.2 (l + 1) (by omega) μ ν p c L ub dep W cs F f (by omega) h hW1 (fun e => by omega) hF hf with ⟨μ', ν', p', c', L', ub', F', g', Pn, cs', o1, o2, o3, o4, o5, o6, o7, o8, o9, o10, o11, o11b, o12, o13, o14, o15, o16, o17, o18⟩ | hfl
        · have hcs2 : cs' = cs := by
            rcases o6 with e | ⟨e, -⟩
            · exact e
            · omega
          rw [o1, zcV_ok, o2]
          have hP : ∀ q ∈ Pn, 18 ≤ q ∧ q ≤ 24 ∧ l ≤ zlv q := fun q hq => ⟨(o4 q hq).1, (o4 q hq).2.1, by have := (o4 q hq).2.2; omega⟩
          unfold zD56_18
          by_cases hl0 : l = 0
          · obtain ⟨ct, hct⟩ := hcs hl0
            rw [if_pos (show nI l = (0 : Int32) by rw [hl0]; rfl)]
            exact z_loop ih.2 (by omega) (by omega) hW 61 μ' ν' p' c' L' ub' F' g' Pn cs' 0 1 zfu (by omega) (zfu_lt (by decide)) o3 hP o5 (Or.inl ⟨hl0, rfl, Or.inl ⟨rfl, ct, hct, by rw [hcs2, hct]⟩⟩) o7 o8 o9 o10 o11 o11b o12 o13 o14 o15 o16 o17 o18
          · rw [if_neg (show ¬ nI l = (0 : Int32) from fun e => hl0 (by
              rw [show (0 : Int32) = nI 0 from rfl, zi_eq (by omega) (by decide)] at e
              exact e))]
            exact z_loop ih.2 (by omega) (by omega) hW 61 μ' ν' p' c' L' ub' F' g' Pn cs' 0 60 zfu (by omega) (zfu_lt (by decide)) o3 hP o5 (Or.inr ⟨by omega, rfl, by omega, hcs2⟩) o7 o8 o9 o10 o11 o11b o12 o13 o14 o15 o16 o17 o18
        · refine Or.inr ?_
          obtain ⟨μ2, ν2, p2, w1, w2⟩ := hfl
          refine ⟨μ2, ν2, p2, ?_, w2⟩
          rw [w1, zcV_no]
