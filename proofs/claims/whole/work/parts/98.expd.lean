/-! numbers and names in an expression -/
theorem zn_or (a b : Nat) : nI a ||| nI b = nI (a ||| b) := by
  apply Int32.toBitVec_inj.mp
  apply BitVec.eq_of_toNat_eq
  show (BitVec.ofNat 32 a ||| BitVec.ofNat 32 b).toNat = (BitVec.ofNat 32 (a ||| b)).toNat
  rw [BitVec.toNat_or, BitVec.toNat_ofNat, BitVec.toNat_ofNat, BitVec.toNat_ofNat, Nat.or_mod_two_pow]
theorem zsh1 : ∀ p, p < 12 → (1 : Int32) <<< (nI p &&& 31) = nI (2 ^ p) := by decide +kernel
section
variable {ν : xe_Mem} {T v4 v5 : Int32} {x : Int64}
theorem z107n {v6 : Int32} (hT : T < 0) : zD161_107 zfu T x v4 v5 v6 0 ν = zD161_130 T v4 v5 v6 ν := by
  obtain ⟨k, hk⟩ : ∃ k, zfu = k + 1 := ⟨999999999, rfl⟩
  rw [hk]
  show zD161_107_b (zD161_107 k) T x v4 v5 v6 0 ν = _
  unfold zD161_107_b
  rw [if_neg (by decide), if_pos hT]
theorem z107 (hT : ¬ T < 0) : ∀ (m f w : Nat) (v6 : Int32), w + m = 6 → m < f → zD161_107 f T x v4 v5 v6 (nI w) ν = zD161_130 T v4 v5 (zlast (fun k => decide (¬ xe_I ν 242 k = 0 ∧ xe_L ν 241 k = x)) m w v6) ν := by
  intro m
  induction m with
  | zero =>
    intro f w v6 hw hf
    obtain ⟨f, rfl⟩ : ∃ g, f = g + 1 := ⟨f - 1, by omega⟩
    show zD161_107_b (zD161_107 f) T x v4 v5 v6 (nI w) ν = _
    unfold zD161_107_b
    rw [if_pos (show (6 : Int32) ≤ nI w from nI_le (a := 6) (by omega) (by omega))]
    rfl
  | succ m ih =>
    intro f w v6 hw hf
    obtain ⟨f, rfl⟩ : ∃ g, f = g + 1 := ⟨f - 1, by omega⟩
    show zD161_107_b (zD161_107 f) T x v4 v5 v6 (nI w) ν = _
    unfold zD161_107_b
    rw [if_neg (show ¬ (6 : Int32) ≤ nI w from nI_ge (b := 6) (by omega) (by omega)), if_neg hT, zx_nI (show w < 6 by omega) (by decide)]
    unfold zD161_126 zD161_127 zlast
    by_cases h1 : xe_I ν 242 w = 0
    · rw [if_pos h1, nI_1, ih f (w + 1) _ (by omega) (by omega), if_neg (show ¬ decide (¬ xe_I ν 242 w = 0 ∧ xe_L ν 241 w = x) = true from fun e => (of_decide_eq_true e).1 h1)]
    · rw [if_neg h1, zx_nI (show w < 6 by omega) (by decide)]
      by_cases h2 : xe_L ν 241 w = x
      · rw [if_pos ((lg_cmp_eq _ _).mpr h2), nI_1, ih f (w + 1) _ (by omega) (by omega), if_pos (decide_eq_true ⟨h1, h2⟩)]
      · rw [if_neg (fun e => h2 ((lg_cmp_eq _ _).mp e)), nI_1, ih f (w + 1) _ (by omega) (by omega), if_neg (show ¬ decide (¬ xe_I ν 242 w = 0 ∧ xe_L ν 241 w = x) = true from fun e => h2 (of_decide_eq_true e).2)]
end
section
variable {N P S Lc t : Nat} {tk : Bool} {off a0 : Nat} {ab : Nat → Bool} {T : Int32} {μ ν : xe_Mem} {p c L ub dep : Nat} {W : List Nat} {cs : List Bool} {f56 : Int32 → Int32 → xe_Mem → zO} {f57 : Int32 → xe_Mem → zO} {F f : Nat}
theorem zrad_k {U : Nat} {u v : Int32} : ∀ a j, (a = 203 ∧ (j = 10 ∨ j = 59 ∨ j = 60 ∨ j = 61 ∨ j = 64)) ∨ a = 248 ∨ a = 249 → xe_I (zrad ν U u v) a j = xe_I ν a j := fun a j h => zrad_o (by omega) (by omega) (by omega)
theorem z_num (h : zEA N P S Lc t tk off a0 ab μ ν p c L ub dep [] W cs) (hN : p + 1 < N) {pl : Nat} (hk : zTk μ ν p 26 pl) (hF : 200 ≤ F + c) : zOo N P S Lc t tk off a0 ab T μ ν p c L dep W cs (zD57 f56 f57 (nI dep) μ) (zA T F (f + 1) ν) := by
  obtain ⟨hx, ⟨e1, e2, e3, e4⟩, ⟨r1, r2, r3, r4, r5, r6, r7, r8⟩, hcd, -, hub, b1, b2, b3, b4, b5, b6, b7, b8, b9, b10, b11⟩ := id h
  have hN2 := hx.1.2.1
  simp only [List.length_nil, Nat.add_zero, Nat.zero_add] at b2 b4 b8 e3
  obtain ⟨w1, x, w2, w3⟩ := zRk_v hk.2.2.2.2 rfl
  refine z_prim h hN (μa := zadd μ L 1 (xe_L μ 6 p).toInt32) (νa := zrad ν (L + off) 1 (xe_L μ 6 p).toInt32) (ub' := ub) (f56 := f56) (f57 := f57) hF ?_ ?_ zadd_f rfl rfl (fun j hj => zadd_o (by omega) (by decide) (by decide)) zadd_s ((zadd_o (by omega) (by decide) (by decide)).trans e4) (zfI_w zrad_f zXs_r) zrad_k zrad_s ?_ ?_ ?_ b11
  · rw [z57 e1 (by omega) hk.1 (by decide), if_pos rfl, z58 e3 (by omega), zcI_ok]
  · rw [z161 r1 (by omega) hk (by decide), if_neg (by decide), if_neg (by decide), if_pos rfl, w1, z157 r8 (by omega), zcV_ok]
  · rw [zadd_e.1, zadd_e.2, zrad_e.1, zrad_e.2]
    exact Or.inl ⟨Or.inl rfl, rfl, rfl⟩
  · rw [zadd_e.1]
    exact Or.inl rfl
  · intro htk q hq
    rw [zrad_o (Or.inl (by decide)) (by decide) (by decide)]
    exact hub htk q hq
end
