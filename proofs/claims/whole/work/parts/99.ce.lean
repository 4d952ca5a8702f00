/-! running: follow and run whole -/
theorem z73 {v N : Nat} {x : Int32} {μ : xe_Mem} (h : xv_S[v]? = some (.inr (0, N))) (hv : v < 203) (hN : N < 2000) : ∃ μ', zD73 v x μ = some (.inl none, μ') ∧ (∀ j, j < N → xe_I μ' v j = x) ∧ zfG (fun a j => a = v ∧ j < N) zZu zZu μ μ' ∧ xe_sh μ' = xe_sh μ := by
  have hl : ∀ (r g i : Nat) (μ1 : xe_Mem), i + r = N → r < g → (∀ j, j < i → xe_I μ1 v j = x) → zfG (fun a j => a = v ∧ j < N) zZu zZu μ μ1 → xe_sh μ1 = xe_sh μ → ∃ μ', zD73_5 g v x (nI i) (nI N) μ1 = some (.inl none, μ') ∧ (∀ j, j < N → xe_I μ' v j = x) ∧ zfG (fun a j => a = v ∧ j < N) zZu zZu μ μ' ∧ xe_sh μ' = xe_sh μ := by
    intro r
    induction r with
    | zero =>
      intro g i μ1 hi hg hj hG hsh
      obtain ⟨g, rfl⟩ : ∃ k, g = k + 1 := ⟨g - 1, by omega⟩
      have : i = N := by omega
      subst this
      refine ⟨μ1, ?_, hj, hG, hsh⟩
      show zD73_5_b (zD73_5 g) v x (nI i) (nI i) μ1 = _
      unfold zD73_5_b
      rw [if_pos (nI_le (Nat.le_refl _) (by omega))]
    | succ r ih =>
      intro g i μ1 hi hg hj hG hsh
      obtain ⟨g, rfl⟩ : ∃ k, g = k + 1 := ⟨g - 1, by omega⟩
      obtain ⟨μ', e1, e2, e3⟩ := ih g (i + 1) (xe_setI μ1 v i x) (by omega) (by omega) (fun j hj' => by
        by_cases e : j = i
        · subst e; rw [xu_I]
        · rw [xu_In (by omega)]; exact hj j (by omega)) (zfG_t hG (zfG_I ⟨rfl, by omega⟩)) hsh
      refine ⟨μ', ?_, e2, e3⟩
      show zD73_5_b (zD73_5 g) v x (nI i) (nI N) μ1 = _
      unfold zD73_5_b
      rw [if_neg (nI_ge (by omega) (by omega)), za_in h hv, zx_nI (show i < N by omega) (by omega)]
      simp only [zq_m, nI_1]
      exact e1
  obtain ⟨μ', e1, e2, e3⟩ := hl N zfu 0 μ (by omega) (by have : zfu = 1000000000 := rfl; omega) (fun j hj => by omega) zfG_r rfl
  refine ⟨μ', ?_, e2, e3⟩
  unfold zD73
  rw [za_in h hv]
  exact e1
theorem z190h {ν : xe_Mem} {x : Int32} : ∃ ν', zD190 x ν = zD190_33 zfu x 0 0 x ν' ∧ (∀ j, j < 12 → xe_I ν' 252 j = xe_I ν 250 j) ∧ (∀ j, j < 6 → xe_I ν' 251 j = 0) ∧ zfG zYfo zZu zZu ν ν' := by
  have hz : zfu = 1000000000 := rfl
  have hl2 : ∀ (r g i : Nat) (ν1 : xe_Mem), i + r = 6 → r < g → (∀ j, j < 12 → xe_I ν1 252 j = xe_I ν 250 j) → (∀ j, j < i → xe_I ν1 251 j = 0) → zfG zYfo zZu zZu ν ν1 → ∃ ν', zD190_17 g x (nI i) ν1 = zD190_33 zfu x 0 0 x ν' ∧ (∀ j, j < 12 → xe_I ν' 252 j = xe_I ν 250 j) ∧ (∀ j, j < 6 → xe_I ν' 251 j = 0) ∧ zfG zYfo zZu zZu ν ν' := by
    intro r
    induction r with
    | zero =>
      intro g i ν1 hi hg h1 h2 hG
      obtain ⟨g, rfl⟩ : ∃ k, g = k + 1 := ⟨g - 1, by omega⟩
      have : i = 6 := by omega
      subst this
      refine ⟨ν1, ?_, h1, h2, hG⟩
      show zD190_17_b (zD190_17 g) x (nI 6) ν1 = _
      unfold zD190_17_b
      rw [if_pos (by decide)]
    | succ r ih =>
      intro g i ν1 hi hg h1 h2 hG
      obtain ⟨g, rfl⟩ : ∃ k, g = k + 1 := ⟨g - 1, by omega⟩
      obtain ⟨ν', e1, e2, e3, e4⟩ := ih g (i + 1) (xe_setI ν1 251 i 0) (by omega) (by omega) (fun j hj => by rw [xu_In (by omega)]; exact h1 j hj) (fun j hj => by
        by_cases e : j = i
        · subst e; rw [xu_I]
        · rw [xu_In (by omega)]; exact h2 j (by omega)) (zfG_t hG (zfG_I (by unfold zYfo; omega)))
      refine ⟨ν', ?_, e2, e3, e4⟩
      show zD190_17_b (zD190_17 g) x (nI i) ν1 = _
      unfold zD190_17_b
      rw [if_neg (show ¬ (6 : Int32) ≤ nI i from nI_ge (b := 6) (by omega) (by decide)), zx_nI (show i < 6 by omega) (by decide)]
      simp only [zq_m, nI_1]
      exact e1
  have hl : ∀ (r g i : Nat) (ν1 : xe_Mem), i + r = 12 → r < g → (∀ j, j < i → xe_I ν1 252 j = xe_I ν 250 j) → zfG zYfo zZu zZu ν ν1 → ∃ ν', zD190_2 g x (nI i) ν1 = zD190_33 zfu x 0 0 x ν' ∧ (∀ j, j < 12 → xe_I ν' 252 j = xe_I ν 250 j) ∧ (∀ j, j < 6 → xe_I ν' 251 j = 0) ∧ zfG zYfo zZu zZu ν ν' := by
    intro r
    induction r with
    | zero =>
      intro g i ν1 hi hg h1 hG
      obtain ⟨g, rfl⟩ : ∃ k, g = k + 1 := ⟨g - 1, by omega⟩
      have : i = 12 := by omega
      subst this
      obtain ⟨ν', e1, e2, e3, e4⟩ := hl2 6 zfu 0 ν1 (by omega) (by omega) h1 (fun j hj => by omega) hG
      refine ⟨ν', ?_, e2, e3, e4⟩
      show zD190_2_b (zD190_2 g) x (nI 12) ν1 = _
      unfold zD190_2_b
      rw [if_pos (by decide)]
      exact e1
    | succ r ih =>
      intro g i ν1 hi hg h1 hG
      obtain ⟨g, rfl⟩ : ∃ k, g = k + 1 := ⟨g - 1, by omega⟩
      have h250 : xe_I ν1 250 i = xe_I ν 250 i := (hG 250 (by decide) i).1 (by unfold zYfo; omega)
      obtain ⟨ν', e1, e2, e3, e4⟩ := ih g (i + 1) (xe_setI ν1 252 i (xe_I ν1 250 i)) (by omega) (by omega) (fun j hj => by
        by_cases e : j = i
        · subst e; rw [xu_I]; exact h250
        · rw [xu_In (by omega)]; exact h1 j (by omega)) (zfG_t hG (zfG_I (by unfold zYfo; omega)))
      refine ⟨ν', ?_, e2, e3, e4⟩
      show zD190_2_b (zD190_2 g) x (nI i) ν1 = _
      unfold zD190_2_b
      rw [if_neg (show ¬ (12 : Int32) ≤ nI i from nI_ge (b := 12) (by omega) (by decide)), zx_nI (show i < 12 by omega) (by decide), zx_nI (show i < 12 by omega) (by decide)]
      simp only [zq_m, nI_1]
      exact e1
  exact hl 12 zfu 0 ν (by omega) (by omega) (fun j hj => by omega) zfG_r
def zXfe (a j : Nat) : Prop := (a = 8 ∧ (j = 4 ∨ j = 6)) ∨ a = 11 ∨ a = 12 ∨ a = 13
section
variable {μ ν : xe_Mem} {v3 v5 a b off P S w : Nat}
/-- both begin -/
theorem z_fst (hP : P ≤ 12) (h3 : zVv v3) (h5 : zVv v5) (hp : ∀ j, j < P → xe_I μ v3 j = xe_I ν 250 j) (hg : ∀ j, j < P → xe_I μ v5 j = xe_I μ v3 j) (hs : ∀ j, j < 4 → xe_I μ 201 j = xe_I ν 257 j) : ∃ μ1 ν1, zD110 (nI a) (nI b) v3 v5 μ = zD110_14 zfu (nI b) v3 v5 (nI a) (nI 0) μ1 ∧ zD190 (nI (a + off)) ν = zD190_33 zfu (nI (a + off)) (nI 0) (nI 0) (nI (a + off)) ν1 ∧ zLk P v3 v5 μ ν μ1 ν1 0 0 := by
  obtain ⟨c1, c2, -⟩ := id h3
  obtain ⟨d1, d2, -⟩ := id h5
  obtain ⟨μ1, e1, e2, e3, esh⟩ := z73 (v := 13) (N := 6) (x := 0) (μ := μ) rfl (by decide) (by decide)
  obtain ⟨ν1, f1, f2, f3, f4⟩ := z190h (ν := ν) (x := nI (a + off))
  have k : ∀ v j, v < 265 → v ≠ 13 → xe_I μ1 v j = xe_I μ v j := fun v j q1 q2 => (e3 v q1 j).1 (fun w => q2 w.1)
  refine ⟨xe_setI (xe_setI μ1 8 4 0) 8 6 0, ν1, ?_, f1, ⟨⟨?_, xu_I, esh⟩, fun j hj => by omega, fun j hj => by omega, fun j hj => ?_, fun j hj => ?_, fun j hj => ?_, fun j hj => ?_, ?_, f4⟩⟩
  · unfold zD110
    rw [e1, zcV_ok]
    rfl
  · rw [xu_In (by decide), xu_I]
    rfl
  · rw [xu_In (by omega), xu_In (by omega), e2 j hj, f3 j hj]
  · rw [xu_In (by omega), xu_In (by omega), k v3 j (by omega) (by omega), hp j hj, (f4 250 (by decide) j).1 (by unfold zYfo; omega)]
  · rw [xu_In (by omega), xu_In (by omega), k v5 j (by omega) (by omega), hg j hj, hp j hj, f2 j (by omega)]
  · rw [xu_In (by omega), xu_In (by omega), k 201 j (by omega) (by omega), hs j hj, (f4 257 (by decide) j).1 (by unfold zYfo; omega)]
  · refine zfG_t (zfG_t (zfG_w e3 (fun v j w => ?_) (fun _ _ w => w) (fun _ _ w => w)) (zfG_I (by unfold zXfo; omega))) (zfG_I (by unfold zXfo; omega))
    unfold zXfo
    omega
theorem z_follow (h3 : zVv v3) (h5 : zVv v5) (hne : v3 ≠ v5) (hP : P ≤ 12) (hS : S ≤ 4) (hb : b ≤ 3000) (hU : b + off < 6000) (hcd : zCd μ ν off a b) (hrw : zRw P S 0 μ a b w) (hw : w ≤ 200) (h13 : xe_I ν 239 (b + off) = 13) (hp : ∀ j, j < P → xe_I μ v3 j = xe_I ν 250 j) (hg : ∀ j, j < P → xe_I μ v5 j = xe_I μ v3 j) (hs : ∀ j, j < 4 → xe_I μ 201 j = xe_I ν 257 j) : ∃ x y μ' ν', zD110 (nI a) (nI b) v3 v5 μ = zint x μ' ∧ zD190 (nI (a + off)) ν = zint y ν' ∧ (∀ j, j < P → xe_I μ' v5 j = xe_I ν' 252 j) ∧ zfG (zXfo P v5) zZu zZu μ μ' ∧ zfG zYfo zZu zZu ν ν' ∧ xe_sh μ' = xe_sh μ := by
  have hz : zfu = 1000000000 := rfl
  obtain ⟨μ1, ν1, e1, e2, L⟩ := z_fst (a := a) (b := b) (off := off) hP h3 h5 hp hg hs
  obtain ⟨k, hk⟩ := hrw
  obtain ⟨s, μ2, ν2, s1, s2, s3, s4⟩ := z_ck (v1 := nI (a + off)) (b0 := b) (a0 := a) h3 h5 hne hP hS hb hU hcd k 0 true a b w μ1 ν1 0 hk (Nat.le_refl _) (Nat.le_refl _) (Nat.le_refl _) L
  obtain ⟨g, hgf⟩ : ∃ g, zfu = (g + 1) + s := ⟨zfu - s - 1, by omega⟩
  refine ⟨xe_I μ2 11 0, if 0 = 0 then 0 else xe_I ν2 253 0, μ2, ν2, ?_, ?_, s3.2.2.2.2.2.1, s3.2.2.2.2.2.2.2.1, s3.2.2.2.2.2.2.2.2, s3.1.2.2⟩
  · rw [e1, hgf, s2.1 (g + 1) 0 (by omega)]
    exact zc_end (by omega) hb
  · rw [e2, hgf, s2.2 (g + 1)]
    exact zr_end hU (((zLk_c s3 h5).2 _).1.trans h13) (by decide)
theorem z_value (h3 : zVv v3) (hP : P ≤ 12) (hS : S ≤ 4) (hb : b ≤ 3000) (hU : b + off < 6000) (hcd : zCd μ ν off a b) (hep : zEq P S μ a b) (h13 : xe_I ν 239 (b + off) = 13) (hp : ∀ j, j < P → xe_I μ v3 j = xe_I ν 250 j) (hs : ∀ j, j < 4 → xe_I μ 201 j = xe_I ν 257 j) : ∃ x μ' ν', zD110 (nI a) (nI b) v3 v3 μ = zint x μ' ∧ zD190 (nI (a + off)) ν = zint x ν' ∧ zfG zXfe zZu zZu μ μ' ∧ zfG zYfo zZu zZu ν ν' ∧ xe_sh μ' = xe_sh μ := by
  have hz : zfu = 1000000000 := rfl
  obtain ⟨μ1, ν1, e1, e2, L⟩ := z_fst (a := a) (b := b) (off := off) hP h3 h3 hp (fun _ _ => rfl) hs
  obtain ⟨k, h60, hk⟩ := hep
  obtain ⟨hab, μ2, ν2, s2, s3, s4⟩ := z_ex (v1 := nI (a + off)) (b0 := b) (a0 := a) h3 h3 hP hS hb hU hcd k a b μ1 ν1 0 0 hk (Nat.le_refl _) (Nat.le_refl _) (by omega) L
  obtain ⟨g, hgf⟩ : ∃ g, zfu = (g + 1) + (b - a) := ⟨zfu - (b - a) - 1, by omega⟩
  obtain ⟨⟨o1, o2⟩, o3, o4, o5, o6, o7, o8, o9, o10⟩ := id s3
  refine ⟨xe_I μ2 11 0, μ2, ν2, ?_, ?_, fun v hv j => ⟨fun hn => ?_, (o9 v hv j).2.1, (o9 v hv j).2.2⟩, o10, o2.2⟩
  · rw [e1, hgf, s2.1 (g + 1) 0 (by omega)]
    exact zc_end (by omega) hb
  · rw [e2, hgf, s2.2 (g + 1), zr_end hU (((zLk_c s3 h3).2 _).1.trans h13) (by decide), if_neg (by omega), o3 0 (by omega)]
  · by_cases e : v = v3 ∧ j < P
    · obtain ⟨e, hj⟩ := e
      subst e
      rw [o6 j hj, (o10 250 (by decide) j).1 (by unfold zYfo; omega), hp j hj]
    · exact (o9 v hv j).1 (fun w => by
        unfold zXfe at hn
        unfold zXfo at w
        omega)
end
