/-! names in an expression -/
section
variable {N P S Lc t : Nat} {tk : Bool} {off a0 : Nat} {ab : Nat → Bool} {T : Int32} {μ ν : xe_Mem} {p c L ub dep : Nat} {W : List Nat} {cs : List Bool} {f56 : Int32 → Int32 → xe_Mem → zO} {f57 : Int32 → xe_Mem → zO} {F f : Nat} {x : Int64} {v4 v5 v6 : Int32}
/-- the reference's task at hand, or none -/
def zTT (T : Int32) (tk : Bool) (t : Nat) : Prop := (tk = true ∧ T = nI t) ∨ (tk = false ∧ T < 0)
theorem z_loc0 (hm : zNm μ ν P S Lc tk) (ht : t < 24) (hT : zTT T tk t) (h : ∀ l, l < Lc → ¬ (¬ xe_I ν 242 l = 0 ∧ xe_L ν 241 l = x)) : zD161_107 zfu T x v4 v5 (-1) 0 ν = zD161_130 T v4 v5 (-1) ν := by
  obtain ⟨h1, h2, h3, h4, h5, h6, h7, h8, h9, h10, h11, h12⟩ := hm
  rcases hT with ⟨htk, hT⟩ | ⟨htk, hT⟩
  · have e := z107 (ν := ν) (x := x) (v4 := v4) (v5 := v5) (T := T) (by rw [hT]; exact nI_pos (by omega)) 6 zfu 0 (-1) rfl (zfu_lt (by decide))
    rw [zlast_no 6 0 (fun y q1 q2 => decide_eq_false (fun q => by
      by_cases hy : y < Lc
      · exact h y hy q
      · exact q.1 (h12 htk y (by omega) (by omega))))] at e
    exact e
  · exact z107n hT
theorem z_loc1 (hm : zNm μ ν P S Lc tk) (ht : t < 24) (hT : zTT T tk t) {l : Nat} (hl : l < Lc) (hx : xe_L ν 241 l = x) (hk : xe_I ν 242 l = 1) (hu : ∀ y, y < Lc → xe_L ν 241 y = x → y = l) : zD161_107 zfu T x v4 v5 (-1) 0 ν = zD161_130 T v4 v5 (nI l) ν := by
  obtain ⟨h1, h2, h3, h4, h5, h6, h7, h8, h9, h10, h11, h12⟩ := hm
  have htk := (h11 l hl).1
  rcases hT with ⟨-, hT⟩ | ⟨htf, -⟩
  · have e := z107 (ν := ν) (x := x) (v4 := v4) (v5 := v5) (T := T) (by rw [hT]; exact nI_pos (by omega)) 6 zfu 0 (-1) rfl (zfu_lt (by decide))
    rw [zlast_one (E := fun k => decide (¬ xe_I ν 242 k = 0 ∧ xe_L ν 241 k = x)) (z := l) (decide_eq_true ⟨by rw [hk]; decide, hx⟩) 6 0 (-1) (by omega) (by omega) (fun y q1 q2 q3 => by
      have q := of_decide_eq_true q3
      by_cases hy : y < Lc
      · exact hu y hy q.2
      · exact absurd (h12 htk y (by omega) (by omega)) q.1)] at e
    exact e
  · rw [htk] at htf
    cases htf
/-- the last of operand: the instruction, and past -/
def zlst (u v : Int32) (ν : xe_Mem) : zO := zq_cV (zD157 u v ν) fun m => zq_cI (zD162 m) fun x m => zq_z x (some (.inl (some (.int x)), m))
theorem z130n : zD161_130 T (-1) (-1) (-1) ν = zint 0 (xe_setI ν 203 11 1) := by
  unfold zD161_130
  rw [if_neg (by decide), if_neg (by decide), if_neg (by decide), z150, zcI_ok]
  exact zz_0
theorem z130l {l : Nat} (hl : l < 100) : zD161_130 T (-1) (-1) (nI l) ν = zlst 4 (nI l) ν := by
  unfold zD161_130 zD161_139 zD161_152 zD161_162 zD161_171
  rw [if_neg (by decide), if_neg (by decide), if_pos (nI_pos' (by omega)), if_pos (by decide), if_pos (by decide), if_pos (by decide), if_pos (by decide), if_pos (by decide)]
  rfl
theorem z130s {s : Nat} (hs : s < 100) : zD161_130 T (-1) (nI s) v6 ν = zlst 3 (nI s) ν := by
  unfold zD161_130 zD161_139 zD161_152 zD161_162 zD161_171
  rw [if_neg (by decide), if_pos (nI_pos' (by omega)), if_pos (by decide), if_pos (by decide), if_neg (nI_pos (by omega)), if_pos (by decide), if_neg (nI_pos (by omega))]
  rfl
theorem z130p {p0 : Nat} (hp : p0 < 12) (ht : t < 24) (hT : zTT T tk t) : zD161_130 T (nI p0) v5 v6 ν = zlst 2 (nI p0) (if tk = true then xe_setI ν 226 (12 * t + p0) 1 else ν) := by
  unfold zD161_130 zD161_139 zD161_152 zD161_162 zD161_171
  rw [if_pos (nI_pos' (by omega)), if_neg (nI_pos (by omega))]
  rcases hT with ⟨htk, hT⟩ | ⟨htk, hT⟩
  · rw [if_pos htk, if_neg (by rw [hT]; exact nI_pos (by omega)), hT, show (12 * nI t + nI p0 : Int32) = nI (12 * t + p0) from by rw [show (12 : Int32) = nI 12 from rfl, zn_mul, nI_add], zx_nI (show 12 * t + p0 < 288 by omega) (by decide)]
    simp only [zq_m]
    rw [if_neg (nI_pos (by omega)), if_neg (nI_pos (by omega))]
    rfl
  · rw [if_neg (show ¬ tk = true by rw [htk]; decide), if_pos hT, if_neg (nI_pos (by omega)), if_neg (nI_pos (by omega))]
    rfl
theorem zor_lt {a b : Nat} (ha : a < 4096) (hb : b < 12) : a ||| 2 ^ b < 4096 := by
  have h : (2 : Nat) ^ b ≤ 2 ^ 11 := Nat.pow_le_pow_right (by decide) (by omega)
  exact Nat.or_lt_two_pow (n := 12) ha (by omega)
theorem z_nam (h : zEA N P S Lc t tk off a0 ab μ ν p c L ub dep [] W cs) (hN : p + 1 < N) {pl : Nat} (hk : zTk μ ν p 25 pl) (hT : zTT T tk t) (hF : 200 ≤ F + c) : zOo N P S Lc t tk off a0 ab T μ ν p c L dep W cs (zD57 f56 f57 (nI dep) μ) (zA T F (f + 1) ν) := by
  obtain ⟨hx, ⟨e1, e2, e3, e4⟩, ⟨r1, r2, r3, r4, r5, r6, r7, r8⟩, hcd, -, hub, b1, b2, b3, b4, b5, b6, b7, b8, b9, b10, b11⟩ := id h
  have hN2 := hx.1.2.1
  simp only [List.length_nil, Nat.add_zero, Nat.zero_add] at b2 b4 b8 e3
  have hw := zRk_n hk.2.2.2.2 rfl
  have hm := hx.2.1
  obtain ⟨m1, m2, m3, m4, m5, m6, m7, m8, m9, m10, m11, m12⟩ := id hm
  have hC : zD57 f56 f57 (nI dep) μ = zq_cI (zD39 182 (xe_L μ 6 p) μ) (fun x m => if x < 0 then zD57_39 f56 f57 x m else zq_x x 22 fun j => if (xe_I m 184 j) = 0 then zD57_39 f56 f57 x m else zD57_42 f56 f57 x 0 m) := by
    rw [z57 e1 (by omega) hk.1 (by decide), if_neg (by decide), if_pos rfl]
  have hR : zD161_0 (f + 1) T ν = zq_cI (zD144 (xe_L μ 6 p) ν) (fun x31 m29 => zq_cI (zD145 (xe_L μ 6 p) m29) fun x34 m32 => zD161_107 zfu T (xe_L μ 6 p) x31 x34 (-1) 0 m32) := by
    rw [z161 r1 (by omega) hk (by decide), if_neg (by decide), if_neg (by decide), if_neg (by decide), if_pos rfl, hw]
  -- refused
  have hno : ∀ e : Int32, zD57 f56 f57 (nI dep) μ = zD57_39 f56 f57 e μ → zD161_0 (f + 1) T ν = zint 0 (xe_setI ν 203 11 1) → zOo N P S Lc t tk off a0 ab T μ ν p c L dep W cs (zD57 f56 f57 (nI dep) μ) (zA T F (f + 1) ν) := by
    intro e q1 q2
    refine Or.inr ⟨μ, xe_setI ν 203 11 1, p, ?_, zA_no q2, ⟨b1, ub, b11, e4⟩, e1, (xu_In (by omega)).trans r1, zfI_rfl, zfI_s rfl, rfl, rfl⟩
    rw [q1]
    unfold zD57_39 zD57_42 zD37
    rw [if_neg (by decide), zthr hx.2.2.2.2.1 hx.2.2.2.2.2]
    rfl
  -- taken
  have hyes : ∀ (e y : Nat) (a : Int32) (ν1 : xe_Mem) (ub' : Nat), e < 22 → zD39 182 (xe_L μ 6 p) μ = zint (nI e) μ → xe_I μ 184 e = a → ¬ a = 0 → xe_I μ 185 e = nI y → (a = 2 ∨ a = 3 ∨ a = 4) → zlf P S a (nI y) → ub' < 4096 → (nI ub ||| (if a = 2 then (1 : Int32) <<< (nI y &&& 31) else 0)) = nI ub' → zfI (zXr (L + off) t) ν ν1 → (∀ b j, b ≠ 226 → xe_I ν1 b j = xe_I ν b j) → zUb ν1 t tk ub' ab → zD161_0 (f + 1) T ν = zlst a (nI y) ν1 → zOo N P S Lc t tk off a0 ab T μ ν p c L dep W cs (zD57 f56 f57 (nI dep) μ) (zA T F (f + 1) ν) := by
    intro e y a ν1 ub' he hf1 ha ha0 hy ha3 hlf hub' hor hfr hsame hub1 hr
    have u1 : xe_I ν1 203 47 = nI (L + off) := (hsame 203 47 (by decide)).trans r8
    have k4 : ∀ j, xe_I (zadd μ L a (nI y)) 184 j = xe_I μ 184 j := fun j => zadd_o (Or.inl (by decide)) (by decide) (by decide)
    have k5 : ∀ j, xe_I (zadd μ L a (nI y)) 185 j = xe_I μ 185 j := fun j => zadd_o (Or.inl (by decide)) (by decide) (by decide)
    refine z_prim h hN (μa := xe_setI (zadd μ L a (nI y)) 181 9 (nI ub')) (νa := zrad ν1 (L + off) a (nI y)) (ub' := ub') (f56 := f56) (f57 := f57) hF ?_ ?_ (zfI_t zadd_f (zfI_s (zXc_s (Or.inr (Or.inr rfl))))) rfl rfl (fun j hj => ?_) ?_ xu_I (zfI_t hfr (zfI_w zrad_f zXs_r)) (fun b j hb => ?_) zrad_s ?_ ?_ (fun htk q hq => ?_) hub'
    · rw [hC, hf1, zcI_ok, if_neg (nI_pos (by omega)), zx_nI he (by decide), ha, if_neg ha0]
      unfold zD57_42 zD37
      rw [if_pos rfl, zcV_ok, zx_nI he (by decide), zx_nI he (by decide), ha, hy, z58 e3 (by omega), zcI_ok, zx_nI he (by decide), k4, ha, zx_nI he (by decide), k5, hy]
      have k9 : xe_I (zadd μ L a (nI y)) 181 9 = nI ub := (zadd_o (Or.inl (by decide)) (by decide) (by decide)).trans e4
      unfold zD57_76
      rw [k9]
      simp only [zq_m]
      rw [← hor]
      by_cases a2 : a = 2
      · rw [if_pos a2, if_pos a2]
      · rw [if_neg a2, if_neg a2]
    · rw [hr]
      unfold zlst
      rw [z157 u1 (by omega), zcV_ok]
    · rw [xu_In (by omega)]
      exact zadd_o (Or.inl (by decide)) (by decide) (by decide)
    · rw [xu_In (by omega)]
      exact zadd_s
    · rw [zrad_k b j hb]
      exact hsame b j (by omega)
    · rw [xu_In (by omega), xu_In (by omega), zadd_e.1, zadd_e.2, zrad_e.1, zrad_e.2]
      exact Or.inl ⟨Or.inr ha3, rfl, rfl⟩
    · rw [xu_In (by omega), xu_In (by omega), zadd_e.1, zadd_e.2]
      exact hlf
    · rw [zrad_o (Or.inl (by decide)) (by decide) (by decide)]
      exact hub1 htk q hq
  have hr0 : ∀ v4 v5 v6 : Int32, zD144 (xe_L μ 6 p) ν = zint v4 ν → zD145 (xe_L μ 6 p) ν = zint v5 ν → zD161_107 zfu T (xe_L μ 6 p) v4 v5 (-1) 0 ν = zD161_130 T v4 v5 v6 ν → zD161_0 (f + 1) T ν = zD161_130 T v4 v5 v6 ν := by
    intro v4 v5 v6 q1 q2 q3
    rw [hR, q1, zcI_ok, q2, zcI_ok, q3]
  rcases z_look (x := xe_L μ 6 p) hm hx.2.2.1 with ⟨e, p0, h1, h2, h3, h4, h5, h6, h7, h8⟩ | ⟨e, s, h1, h2, h3, h4, h5, h6, h7, h8⟩ | ⟨l, h1, h2, h3, h4, h5, h6⟩ | ⟨h1, h2, h3, h4, -⟩
  · have q := hr0 _ _ _ h6 h7 (z_loc0 hm b10 hT (fun l hl q => h8 l hl q.2))
    rw [z130p (by omega) b10 hT] at q
    refine hyes e p0 2 _ (ub ||| 2 ^ p0) (by omega) h3 h4 (by decide) h5 (Or.inl rfl) (Or.inr (Or.inl ⟨rfl, p0, h2, rfl⟩)) (zor_lt b11 (by omega)) ?_ ?_ ?_ ?_ q
    · rw [if_pos rfl, zsh1 p0 (by omega), zn_or]
    · split
      · refine zfI_s ?_
        unfold zXr
        rw [Nat.ble_eq_true_of_le (show 12 * t ≤ 12 * t + p0 by omega), Nat.ble_eq_true_of_le (show 12 * t + p0 + 1 ≤ 12 * t + 12 by omega)]
        rfl
      · exact zfI_rfl
    · intro b j hb
      split
      · exact xu_In (fun q => hb q.1)
      · rfl
    · intro htk y hy
      rw [if_pos htk, Nat.testBit_or, Nat.testBit_two_pow]
      by_cases hyp : y = p0
      · subst hyp
        rw [xu_I, decide_eq_true rfl, Bool.or_true, Bool.true_or]
        rfl
      · rw [xu_In (by omega), decide_eq_false (fun q => hyp q.symm), Bool.or_false]
        exact hub htk y hy
  · have q := hr0 _ _ _ h6 h7 (z_loc0 hm b10 hT (fun l hl q => h8 l hl q.2))
    rw [z130s (by omega)] at q
    refine hyes e s 3 ν ub (by omega) h3 h4 (by decide) h5 (Or.inr (Or.inl rfl)) (Or.inr (Or.inr (Or.inl ⟨rfl, s, h2, rfl⟩))) b11 ?_ zfI_rfl (fun _ _ _ => rfl) hub q
    rw [if_neg (by decide), show (0 : Int32) = nI 0 from rfl, zn_or, Nat.or_zero]
  · obtain ⟨k1, k2, k3, k4⟩ := m11 l h1
    rcases k4 with ⟨k4, k5⟩ | ⟨k4, k5⟩
    · have q := hr0 _ _ _ h4 h5 (z_loc1 hm b10 hT h1 h3 k5 h6)
      rw [z130l (by omega)] at q
      refine hyes (P + S + l) l 4 ν ub (by omega) h2 k4 (by decide) k3 (Or.inr (Or.inr rfl)) (Or.inr (Or.inr (Or.inr ⟨rfl, l, by omega, rfl⟩))) b11 ?_ zfI_rfl (fun _ _ _ => rfl) hub q
      rw [if_neg (by decide), show (0 : Int32) = nI 0 from rfl, zn_or, Nat.or_zero]
    · have q := hr0 _ _ _ h4 h5 (z_loc0 hm b10 hT (fun y hy q => by
        have := h6 y hy q.2
        rw [this] at q
        exact q.1 k5))
      rw [z130n] at q
      refine hno (nI (P + S + l)) ?_ q
      rw [hC, h2, zcI_ok, if_neg (nI_pos (by omega)), zx_nI (show P + S + l < 22 by omega) (by decide), k4, if_pos rfl]
  · have q := hr0 _ _ _ h2 h3 (z_loc0 hm b10 hT (fun l hl q => h4 l hl q.2))
    rw [z130n] at q
    refine hno (-1) ?_ q
    rw [hC, h1, zcI_ok, if_pos (by decide)]
end
