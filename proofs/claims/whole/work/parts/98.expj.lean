/-! an expression: where it ends, and a bracket whole -/
theorem zn_32 {x : Nat} (h : x < 2147483648) : (nL x).toInt32 = nI x := by
  apply Int32.toInt_inj.mp
  rw [Int64.toInt_toInt32, nL_toInt (by omega), nI_toInt h]
  exact Int.bmod_eq_of_le (by omega) (by omega)
theorem ztg_n : ∀ q, q < 18 → 11 ≤ q → ztg (zsc q) = 0 := by decide +kernel
section
variable {N P S Lc t : Nat} {tk : Bool} {off a0 : Nat} {ab : Nat → Bool} {T : Int32} {μ ν : xe_Mem} {p c L ub dep : Nat} {W : List Nat} {cs : List Bool} {F f n g : Nat}
/-- the sign at hand, as the reference sees it: its char, or nothing -/
def zsx (q : Nat) : Nat := if 11 ≤ q ∧ q ≤ 24 then zsc q else 0
theorem zsx_lt (q : Nat) : zsx q < 256 := by
  unfold zsx
  split
  · exact zsc_lt q
  · decide
theorem zsx_tg {q : Nat} : ztg (zsx q) = if 18 ≤ q ∧ q ≤ 24 then zlv q + 1 else 0 := by
  unfold zsx
  by_cases h : 11 ≤ q ∧ q ≤ 24
  · rw [if_pos h]
    by_cases h2 : 18 ≤ q
    · rw [if_pos ⟨h2, h.2⟩, ztg_s q (by omega) h2]
    · rw [if_neg (fun e => h2 e.1), ztg_n q (by omega) h.1]
  · rw [if_neg h, if_neg (fun e => h ⟨by omega, e.2⟩)]
    rfl
theorem zlv_lt (q : Nat) : zlv q ≤ 2 := by
  unfold zlv
  split
  · decide
  · split <;> decide
/-- behind an operand: the sign is looked at, unless a bracket closes -/
theorem z_cgo {q pl : Nat} (r1 : xe_I ν 203 10 = nI p) (h3 : p < 3001) (hk : zTk μ ν p q pl) (r6 : xe_I ν 203 64 = nI (cs.length - 1)) (hcs : cs.length ≤ 10) (h17 : cs.length = 1 ∨ q ≠ 17) : zC T F (g + 1) ν = zD160_80 (zD160_19 F) T 1 (nI (zsx q)) ν := by
  have hl := zkr_lt q
  have e65 : zD160_65 (zD160_19 F) T 1 ν = zD160_80 (zD160_19 F) T 1 (nI (zsx q)) ν := by
    unfold zD160_65
    rw [r1, zx_nI (show p < 3002 by omega) (by decide), zx_nI (show p < 3002 by omega) (by decide), zRk_k hk.2.2.2.2]
    have c3 : (nI (zkr q) = (3 : Int32)) = (zkr q = 3) := zi_eq (b := 3) (by omega) (by decide)
    have hs := zsc_lt q
    unfold zsx
    by_cases h : 11 ≤ q ∧ q ≤ 24
    · rw [if_pos (c3.mpr (zkr_3.mpr h)), if_pos h, zRk_s hk.2.2.2.2 h.1 h.2, zn_32 (by omega)]
    · rw [if_neg (fun e => h (zkr_3.mp (c3.mp e))), if_neg h]
      rfl
  show zD160_29_b (zD160_19 F) (zD160_29 (zD160_19 F) g) T 1 ν = _
  unfold zD160_29_b
  rw [r6]
  by_cases hc1 : cs.length - 1 = 0
  · rw [hc1, if_pos (show nI 0 ≤ (0 : Int32) by decide)]
    exact e65
  · rw [if_neg (show ¬ nI (cs.length - 1) ≤ (0 : Int32) from nI_ge (a := 0) (by omega) (by omega)), show zD147 41 ν = _ from z147 r1 h3 hk (K := 17) (by decide) (by decide), zcI_ok, decide_eq_false (show ¬ q = 17 by omega), if_pos (by decide)]
    exact e65
theorem z_cstop {q pl : Nat} (r1 : xe_I ν 203 10 = nI p) (h3 : p < 3001) (hk : zTk μ ν p q pl) (r6 : xe_I ν 203 64 = nI (cs.length - 1)) (r7 : zCs (xe_I ν 249) cs) (hcs : cs.length ≤ 10) (h17 : cs.length = 1 ∨ q ≠ 17) (hs : 18 ≤ q → q ≤ 24 → zlv q = 0 ∧ ∃ ct, cs = true :: ct) : zC T F (g + 1) ν = zD160_19 F T 0 ν := by
  rw [z_cgo r1 h3 hk r6 hcs h17]
  have hx := zsx_lt q
  unfold zD160_80 zD160_95 zD160_97
  rw [z165 hx, zcI_ok, z165 hx, zcI_ok, zsx_tg]
  have e0 : zD160_98 (zD160_19 F) T (nI (zsx q)) 0 ν = zD160_19 F T 0 ν := by
    unfold zD160_98
    rw [if_pos rfl]
  by_cases h : 18 ≤ q ∧ q ≤ 24
  · obtain ⟨h0, ct, hct⟩ := hs h.1 h.2
    rw [if_pos h, h0, if_neg (by decide), if_pos (by decide), r6, hct, List.length_cons, zx_nI (show ct.length + 1 - 1 < 12 by rw [hct, List.length_cons] at hcs; omega) (by decide)]
    rw [hct] at r7
    rw [show ct.length + 1 - 1 = ct.length by omega, r7.1, if_neg (by decide)]
    exact e0
  · rw [if_neg h, if_neg (by decide), if_neg (by decide)]
    exact e0
/-- a bracket -/
theorem z_brk (ih : zSl N P S Lc t tk off a0 ab T n) (h : zEA N P S Lc t tk off a0 ab μ ν p c L ub dep [] W cs) (hN : p + 1 < N) {pl : Nat} (hk : zTk μ ν p 16 pl) (hn : 5 * (8 - dep) + 1 ≤ n + 1) (hF : 200 ≤ F + c) (hf : 200 ≤ f + c) : zOo N P S Lc t tk off a0 ab T μ ν p c L dep W cs (zD57 (zKE n).1 (zKE n).2 (nI dep) μ) (zA T F f ν) := by
  obtain ⟨hx, ⟨e1, e2, e3, e4⟩, ⟨r1, r2, r3, r4, r5, r6, r7, r8⟩, hcd, -, hub, b1, b2, b3, b4, b5, b6, b7, b8, b9, b10, b11⟩ := id h
  have hN2 := hx.1.2.1
  simp only [List.length_nil, Nat.zero_add, Nat.add_zero] at b2 b4 b8 e3
  obtain ⟨f, rfl⟩ : ∃ g, f = g + 1 := ⟨f - 1, by omega⟩
  have hC : zD57 (zKE n).1 (zKE n).2 (nI dep) μ = if nI dep = 8 then zD57_111 (zKE n).1 (zKE n).2 (nI dep) μ else zD57_114 (zKE n).1 (zKE n).2 (nI dep) 0 μ := by
    rw [z57 e1 (by omega) hk.1 (by decide), if_neg (by decide), if_neg (by decide), if_neg (by decide), if_pos rfl]
  have hR : zD161_0 (f + 1) T ν = zD161_8 (zD161_0 f) T ν := by
    rw [z161 r1 (by omega) hk (by decide), if_neg (by decide), if_pos rfl]
  by_cases hd : dep = 8
  · subst hd
    refine Or.inr (z_here h ?_ (zA_no (by rw [hR]; exact z161_8n r3)) ((xu_In (by omega)).trans r1) (zfI_s rfl))
    rw [hC, if_pos (show nI 8 = (8 : Int32) from rfl)]
    unfold zD57_111 zD57_114 zD37
    rw [if_neg (by decide), zthr hx.2.2.2.2.1 hx.2.2.2.2.2]
    rfl
  · have hC2 : zD57 (zKE n).1 (zKE n).2 (nI dep) μ = zq_cV (zD59 μ) fun m15 => zq_cV ((zKE n).1 (nI 0) (nI (dep + 1)) m15) fun m17 => zq_cI (zD35 1000018 m17) fun x21 m19 => if x21 = 0 then zD57_130 (zKE n).1 (zKE n).2 1 m19 else zD57_130 (zKE n).1 (zKE n).2 0 m19 := by
      rw [hC, if_neg (fun e => hd (by
        rw [show (8 : Int32) = nI 8 from rfl, zi_eq (by omega) (by decide)] at e
        exact e))]
      unfold zD57_114 zD37
      rw [if_pos rfl, zcV_ok, nI_1]
      rfl
    have hR2 : zD161_0 (f + 1) T ν = zD161_55 (zD161_0 f) T (zopn ν W.length dep cs.length) := by
      rw [hR, z161_8 (Or.inr rfl) hk r1 (by omega) r3 (by omega) (W := W) r4 (by omega), if_neg (by decide)]
      simp only [zq_m]
      rw [zpsh_o (by decide) (Or.inr (by decide)), r6, nI_1, show cs.length - 1 + 1 = cs.length by omega, xu_I, zx_nI (show cs.length < 12 by omega) (by decide)]
      rfl
    have k1 : xe_I (zopn ν W.length dep cs.length) 203 10 = nI p := (zopn_o (by decide) (by decide) (Or.inr (by decide))).trans r1
    have k2 : xe_I (zopn ν W.length dep cs.length) 203 59 = nI c := (zopn_o (by decide) (by decide) (Or.inr (by decide))).trans r2
    by_cases hc : c < 60
    · obtain ⟨q1, q2, q3⟩ := z_par1 h hN hc (by omega)
      have hA : zA T F (f + 1) ν = zA T F f (zrtk (zopn ν W.length dep cs.length) p c) := by
        refine zA_go ?_
        rw [hR2]
        unfold zD161_55
        rw [z162 k1 k2 hc, zcI_ok, if_neg (by decide)]
      rw [hC2, hA, z59 e1 e2 hc, zcV_ok]
      rcases ih 0 (by decide) (ztk μ p c) (zrtk (zopn ν W.length dep cs.length) p c) (p + 1) (c + 1) L ub (dep + 1) (40 :: W) (false :: cs) F f (by omega) q1 (Or.inr ⟨40, W, rfl, by decide, by decide, by decide⟩) (fun _ => ⟨cs, rfl⟩) (by omega) (by omega) with ⟨μ', ν', p', c', L', ub', F', g', Pn, cs', o1, o2, o3, o4, o5, o6, o7, o8, o9, o10, o11, o11b, o12, o13, o14, o15, o16, o17, o18⟩ | hfl
      · obtain ⟨b, rfl⟩ : ∃ b, cs' = b :: cs := by
          rcases o6 with e | ⟨-, ct, a1, a2⟩
          · exact ⟨false, e⟩
          · rw [List.cons.injEq] at a1
            exact ⟨true, by rw [a2, a1.2]⟩
        rw [o1, zcV_ok, o2]
        obtain ⟨y1, ⟨w1, w2, w3, w4⟩, ⟨x1, x2, x3, x4, x5, x6, x7, x8⟩, y2, y3, y4, y5⟩ := id o3
        obtain ⟨q', pl', t1, t2, t3⟩ := y1.1.2.2 p' y5.1
        have hp3 : p' < 3001 := by
          have := y5.1
          omega
        have hc6 : c' ≤ 60 := y5.2.2.1
        rw [show zD35 1000018 μ' = _ from z35 w1 hp3 t3.1 t1 (K := 17) (by decide), zcI_ok]
        obtain ⟨g', rfl⟩ : ∃ g, g' = g + 1 := ⟨g' - 1, by omega⟩
        by_cases h17 : q' = 17
        · subst h17
          rw [decide_eq_true rfl, if_neg (show ¬ zb01 true = 0 by decide)]
          have hD : zD57_130 (zKE n).1 (zKE n).2 0 μ' = zq_cV (zD59 μ') fun m24 => some (.inl none, m24) := by
            unfold zD57_130 zD57_131 zD37
            rw [if_pos rfl, zcV_ok]
          rw [hD]
          obtain ⟨ν2, u1, u2, u3, u4, u5⟩ := z_par2 (T := T) (F := F') (g := g') o3 (fun q hq => ⟨(o4 q hq).1, (o4 q hq).2.1⟩) b6 b5 (t2.mp (by decide)) t3
          by_cases hc2 : c' < 60
          · obtain ⟨v1, v2, v3⟩ := u4 hc2
            rw [z59 w1 w2 hc2, zcV_ok, v1]
            have hzf : 200 ≤ zfu := by decide
            exact Or.inl ⟨ztk μ' p' c', zrtk ν2 p' c', p' + 1, c' + 1, L' + Pn.length, ub', F', g', zfu, rfl, rfl, v2, by omega, by omega, by omega, by omega, by omega, zEp_f (L := L' + Pn.length) o12 (Nat.le_refl _) ztk_f, zfI_t (zfI_t q2 o13) ztk_f, zfI_t (zfI_t q3 o14) (zfI_w v3 (zXr_w (by omega))), o15, o16, by omega, by omega, by omega⟩
          · have hc3 : c' = 60 := by omega
            rw [u5 hc3]
            refine Or.inr ⟨μ', xe_setI ν2 203 11 1, p', ?_, rfl, ⟨y5.1, ub', y5.2.2.2.2.2.2.2.2.2.2, w4⟩, w1, (xu_In (by omega)).trans u2, zfI_t q2 o13, zfI_t (zXf_of (zfI_t q3 o14)) (zfI_t (zXf_of (zfI_w u1 (zXr_w (by omega)))) (zfI_s rfl)), o15, o16⟩
            rw [z59n (by rw [w2, hc3]), zthr y1.2.2.2.2.1 y1.2.2.2.2.2]
            rfl
        · rw [decide_eq_false h17, if_pos (show zb01 false = 0 by decide)]
          have hD : zD57_130 (zKE n).1 (zKE n).2 1 μ' = some (.inr (xe_sh μ').length, xe_add μ' (.inl 12) 6) := by
            unfold zD57_130 zD37
            rw [if_neg (by decide), zthr y1.2.2.2.2.1 y1.2.2.2.2.2]
            rfl
          rw [hD, z_cstop x1 hp3 t3 x6 x7 (by rw [List.length_cons]; omega) (Or.inr h17) (fun z1 z2 => by
            rcases o5 q' t1 t3.1 z1 z2 with z | ⟨-, z3, z4⟩
            · omega
            · exact ⟨z3, z4⟩)]
          have hst : zD160_19 F' T 0 ν' = zint 0 (xe_setI ν' 203 11 1) := by
            obtain ⟨F2, rfl⟩ : ∃ g, F' = g + 1 := ⟨F' - 1, by omega⟩
            show zD160_19_b (zD160_19 F2) T 0 ν' = _
            unfold zD160_19_b
            have x6' : xe_I ν' 203 64 = nI cs.length := x6
            rw [if_pos rfl, x6', if_neg (show ¬ nI cs.length ≤ (0 : Int32) from nI_ge (a := 0) (by omega) (by omega)), z150, zcI_ok]
            exact zz_0
          exact Or.inr ⟨μ', xe_setI ν' 203 11 1, p', rfl, hst, ⟨y5.1, ub', y5.2.2.2.2.2.2.2.2.2.2, w4⟩, w1, (xu_In (by omega)).trans x1, zfI_t q2 o13, zfI_t (zXf_of (zfI_t q3 o14)) (zfI_s rfl), o15, o16⟩
      · refine Or.inr ?_
        have hfl2 := zFl_f hfl (Nat.le_refl L) (Nat.le_refl _) q2 q3 rfl rfl
        obtain ⟨μ2, ν2, p2, w1, w2⟩ := hfl2
        refine ⟨μ2, ν2, p2, ?_, w2⟩
        rw [w1, zcV_no]
    · have hc' : c = 60 := by omega
      subst hc'
      refine Or.inr (z_here h ?_ (zA_no (ν1 := xe_setI (zopn ν W.length dep cs.length) 203 11 1) ?_) ((xu_In (by omega)).trans k1) (zfI_t (zXf_of zopn_f) (zfI_s rfl)))
      · rw [hC2, z59n e2, zthr hx.2.2.2.2.1 hx.2.2.2.2.2]
        rfl
      · rw [hR2]
        unfold zD161_55
        rw [z162n k2, zcI_ok, if_pos rfl]
end
