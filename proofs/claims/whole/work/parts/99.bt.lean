/-! preparing the whole program -/
theorem zmono2 {F : Nat → Nat} {M : Nat} (h : ∀ m, m < M → F m ≤ F (m + 1)) : ∀ b a, a ≤ b → b ≤ M → F a ≤ F b := by
  intro b
  induction b with
  | zero => intro a h1 _; rw [show a = 0 by omega]; exact Nat.le_refl _
  | succ b ih =>
    intro a h1 h2
    by_cases e : a = b + 1
    · rw [e]; exact Nat.le_refl _
    · exact Nat.le_trans (ih a (by omega) (by omega)) (h b (by omega))
theorem zfind {F : Nat → Nat} : ∀ M, F 0 = 0 → ∀ t, t < F M → ∃ m, m < M ∧ F m ≤ t ∧ t < F (m + 1) := by
  intro M
  induction M with
  | zero => intro h t ht; rw [h] at ht; omega
  | succ M ih =>
    intro h t ht
    by_cases e : t < F M
    · obtain ⟨m, m1, m2⟩ := ih h t e
      exact ⟨m, by omega, m2⟩
    · exact ⟨M, by omega, by omega, ht⟩
def zXpA (a j : Nat) : Prop := (∃ m, m < 4 ∧ ((a = 17 + 11 * m ∧ (j = 10 ∨ j = 12)) ∨ a = 22 + 11 * m ∨ a = 23 + 11 * m)) ∨ (∃ t, t < 24 ∧ ((a = 61 + 5 * t ∧ 11 ≤ j ∧ j ≤ 13) ∨ a = 62 + 5 * t ∨ a = 63 + 5 * t))
def zZpA (a j : Nat) : Prop := ∃ m, m < 4 ∧ a = 21 + 11 * m ∧ j < 120
def zXpB (a j : Nat) : Prop := a = 259 ∨ a = 230 ∨ a = 225 ∨ a = 215 ∨ a = 216 ∨ a = 238 ∨ ((a = 228 ∨ a = 229) ∧ j = j)
/-- the program that both hold, prepared -/
def zPq (N P S M T Sw Sl L : Nat) (μ ν : xe_Mem) : Prop := zKn P S μ ν ∧ (xe_I μ 7 7 = nI T ∧ xe_I ν 203 22 = nI T ∧ xe_I μ 7 6 = nI M ∧ xe_I ν 203 17 = nI M ∧ xe_I ν 203 37 = nI Sw ∧ xe_I ν 203 43 = nI Sl ∧ L ≤ 3000) ∧ (1 ≤ M ∧ M ≤ 4 ∧ T ≤ 6 * M ∧ Sw ≤ 4 * M ∧ Sl ≤ 120 * M) ∧ (∀ t, t < T → zDij ν t) ∧ ∃ F K Z pr : Nat → Nat, (F 0 = 0 ∧ K 0 = 0 ∧ Z 0 = 0 ∧ F M = T ∧ K M = Sw ∧ Z M = Sl) ∧ ∀ m, m < M → zMp N P S L (L + T + Sw) μ ν m (pr m) (F m) (F (m + 1)) (K m) (K (m + 1)) (Z m) (Z (m + 1)) ∧ (∀ e, e < K (m + 1) - K m → ∃ z, z < M ∧ xe_I μ (24 + 11 * m + e) 4 = nI z ∧ zV ν M (K m + e) = nI z) ∧ zVm P T m (F m) (F (m + 1) - F m) (pr m) (Z m) (Z (m + 1)) μ ν
section
variable {N P S M T Sw Sl L : Nat} {μ ν : xe_Mem} {v2 : Int32}
theorem zRt_A {X Y : Nat → Nat → Prop} {μ' : xe_Mem} (h : zRt μ) (hf : zfG X Y zZpA μ μ') : zRt μ' := fun a j b hb => by
  have ha : a < 265 := by
    refine Nat.lt_of_not_le (fun h265 => ?_)
    rw [xv_zn _ (by rw [xv_rl]; omega)] at hb
    cases hb
  rw [(hf a ha j).2.2 (fun w => by
    obtain ⟨m, w1, w2, w3⟩ := w
    rw [w2, zR_21 m w1 j w3] at hb
    cases hb)]
  exact h a j b hb
theorem z_prep (h : zPg N P S M T Sw Sl L μ ν) : ∃ μ' ν', zD68 μ = some (.inl none, μ') ∧ (zq_cV (zD169 ν) fun m21 => zD133_110 zfu v2 0 m21) = zint 0 ν' ∧ zPq N P S M T Sw Sl L μ' ν' ∧ zfG zXpA zZu zZpA μ μ' ∧ zfG zXpB zZu zZu ν ν' := by
  obtain ⟨hK, ⟨⟨n1, n2, n3, n4⟩, ⟨n5, n6, n7, n8⟩⟩, ⟨c1, c2, c3, c4⟩, ⟨m1, m4, f6, k4, s120⟩, F, K, Z, pr, ⟨F0, K0, Z0, FM, KM, ZM⟩, hmd⟩ := id h
  obtain ⟨hR, hNp, ⟨p1, p2, p3⟩, ct, cm, cv⟩ := id hK
  have hP12 : P ≤ 12 := hNp.1
  have hFm : ∀ b a, a ≤ b → b ≤ M → F a ≤ F b := zmono2 (fun m hm => (hmd m hm).1.1.2.2.1)
  have hZm : ∀ b a, a ≤ b → b ≤ M → Z a ≤ Z b := zmono2 (fun m hm => (hmd m hm).1.1.2.2.2.2.2.2.1)
  have hT24 : T ≤ 24 := by omega
  -- the numbers of messages
  have htr0 : ∀ t, t < T → ∃ m, m < M ∧ F m ≤ t ∧ t < F (m + 1) ∧ zTs P S L (L + T + Sw) μ ν m (pr m) t := fun t ht => by
    obtain ⟨m, q1, q2, q3⟩ := zfind M F0 t (by omega)
    exact ⟨m, q1, q2, q3, (hmd m q1).1.2.2.2.1 t q2 q3⟩
  obtain ⟨ν0, a1, a2, a3⟩ := z169 (ν := ν) (T := T) (P := P) n3 hNp.2.2.1 hT24 hP12 (fun t ht => by
    obtain ⟨m, q1, q2, q3, nd, tm, sp, w, lc, ab, ub, a, b, off, ⟨u1, u2, u3, -⟩, -, ⟨-, -, v3, -⟩, -⟩ := htr0 t ht
    have hb := (hmd m q1).1.1
    have hsp1 : 1 ≤ sp := by
      rcases Nat.eq_zero_or_pos sp with w | w
      · rw [w, Nat.mul_zero] at u3
        omega
      · exact w
    have htm : tm ≤ pr m := by
      have : tm * 1 ≤ tm * sp := Nat.mul_le_mul_left tm hsp1
      omega
    rw [v3, zn_n (by omega)])
  have k0 : ∀ a j, a < 265 → a ≠ 228 → a ≠ 229 → xe_I ν0 a j = xe_I ν a j := fun a j q1 q2 q3 => (a2 a q1 j).1 (fun w => by unfold zXm at w; omega)
  obtain ⟨eS0, eN0⟩ := zNs_k (P := P) (T := T) (ν := ν) (ν' := ν0) (fun k => k0 219 k (by decide) (by decide) (by decide)) (fun k => k0 226 k (by decide) (by decide) (by decide)) (fun k => k0 227 k (by decide) (by decide) (by decide))
  have eF0 : ∀ (ν1 : xe_Mem), (∀ a j, a = 218 ∨ a = 219 ∨ a = 220 ∨ a = 226 ∨ a = 227 → xe_I ν1 a j = xe_I ν a j) → zNs ν1 T P = zNs ν T P ∧ zFm ν1 T P = zFm ν T P := fun ν1 hq => by
    obtain ⟨e1, e2⟩ := zNs_k (P := P) (T := T) (ν := ν) (ν' := ν1) (fun k => hq 219 k (by omega)) (fun k => hq 226 k (by omega)) (fun k => hq 227 k (by omega))
    refine ⟨e2, funext fun t => ?_⟩
    unfold zFm
    refine zsm_c t (fun k hk => ?_)
    rw [hq 218 k (by omega), hq 218 t (by omega), hq 220 k (by omega), e2]
  rw [a1, zcV_ok]
  -- the modes
  have hl : ∀ (r i g G : Nat) (μ1 ν1 : xe_Mem), i + r = M → r < g → r < G → zfG zXpA zZu zZpA μ μ1 → zfG zXpB zZu zZu ν ν1 → (∀ t, t < T → xe_I ν1 228 t = nI (zNs ν T P t) ∧ xe_I ν1 229 t = nI (zFm ν T P t)) → (∀ m, m < M → zMp N P S L (L + T + Sw) μ1 ν1 m (pr m) (F m) (F (m + 1)) (K m) (K (m + 1)) (Z m) (Z (m + 1))) → (∀ m, m < i → zVm P T m (F m) (F (m + 1) - F m) (pr m) (Z m) (Z (m + 1)) μ1 ν1) → (∀ m, i ≤ m → m < M → zMd N P S L (L + T + Sw) μ1 ν1 m (pr m) (F m) (F (m + 1)) (K m) (K (m + 1)) (Z m) (Z (m + 1))) →
      ∃ μ' ν', zD68_2 g (nI i) μ1 = some (.inl none, μ') ∧ zD133_110 G v2 (nI i) ν1 = zint 0 ν' ∧ zfG zXpA zZu zZpA μ μ' ∧ zfG zXpB zZu zZu ν ν' ∧ (∀ m, m < M → zMp N P S L (L + T + Sw) μ' ν' m (pr m) (F m) (F (m + 1)) (K m) (K (m + 1)) (Z m) (Z (m + 1)) ∧ zVm P T m (F m) (F (m + 1) - F m) (pr m) (Z m) (Z (m + 1)) μ' ν') := by
    intro r
    induction r with
    | zero =>
      intro i g G μ1 ν1 hi hg hG G1 G2 h28 hp hv hd
      obtain ⟨g, rfl⟩ : ∃ k, g = k + 1 := ⟨g - 1, by omega⟩
      obtain ⟨G, rfl⟩ : ∃ k, G = k + 1 := ⟨G - 1, by omega⟩
      have : i = M := by omega
      subst this
      refine ⟨μ1, ν1, ?_, ?_, G1, G2, fun m hm => ⟨hp m hm, hv m hm⟩⟩
      · show zD68_2_b (zD68_2 g) (nI i) μ1 = _
        unfold zD68_2_b
        rw [(G1 7 (by decide) 6).1 (fun w => by rcases w with ⟨m, w1, w2⟩ | ⟨t, w1, w2⟩ <;> omega), n6, if_pos (nI_le (Nat.le_refl _) (by omega))]
      · show zD133_110_b (zD133_110 G) v2 (nI i) ν1 = _
        unfold zD133_110_b
        rw [(G2 203 (by decide) 17).1 (fun w => by unfold zXpB at w; omega), n7, if_pos (nI_le (Nat.le_refl _) (by omega))]
    | succ r ih =>
      intro i g G μ1 ν1 hi hg hG G1 G2 h28 hp hv hd
      obtain ⟨g, rfl⟩ : ∃ k, g = k + 1 := ⟨g - 1, by omega⟩
      obtain ⟨G, rfl⟩ : ∃ k, G = k + 1 := ⟨G - 1, by omega⟩
      have hR1 := zRt_A hR G1
      have gc : ∀ a j, a < 265 → ¬ zXpA a j → xe_I μ1 a j = xe_I μ a j := fun a j q1 q2 => (G1 a q1 j).1 q2
      have gr : ∀ a j, a < 265 → ¬ zXpB a j → xe_I ν1 a j = xe_I ν a j := fun a j q1 q2 => (G2 a q1 j).1 q2
      have n7x : ∀ j, ¬ zXpA 7 j := fun j w => by rcases w with ⟨m, w1, w2⟩ | ⟨t, w1, w2⟩ <;> omega
      have hdi := hd i (Nat.le_refl _) (by omega)
      have hFi : F i ≤ F (i + 1) := hdi.1.2.2.1
      have hFM : F (i + 1) ≤ T := by rw [← FM]; exact hFm M (i + 1) (by omega) (Nat.le_refl _)
      have hZi : Z i ≤ Z (i + 1) := hdi.1.2.2.2.2.2.2.1
      have hZM : Z (i + 1) ≤ Sl := by rw [← ZM]; exact hZm M (i + 1) (by omega) (Nat.le_refl _)
      have hb6 := hdi.1.2.2.2.1
      have htr : ∀ t, t < T → ∃ m, m < M ∧ F m ≤ t ∧ t < F (m + 1) ∧ zTr P S L (L + T + Sw) μ1 ν1 m (pr m) t := fun t ht => by
        obtain ⟨m, q1, q2, q3⟩ := zfind M F0 t (by omega)
        exact ⟨m, q1, q2, q3, (hp m q1).2.2.2.1 t q2 q3⟩
      have hlow : ∀ t, t < T → ¬ (F i ≤ t ∧ t < F i + (F (i + 1) - F i)) → ¬ xe_I ν1 218 t = nI i := fun t ht hn w => by
        obtain ⟨m, q1, q2, q3, nd, tm, sp, w', lc, ab, ub, a, b, off, -, -, ⟨v1, -⟩, -⟩ := htr t ht
        rw [v1, zi_eq (by omega) (by omega)] at w
        subst w
        omega
      have e28 := eF0 ν1 (fun a j hq => gr a j (by omega) (fun w => by unfold zXpB at w; omega))
      have hfn : F i + (F (i + 1) - F i) = F (i + 1) := by omega
      obtain ⟨μ2, μ3, μ4, ν4, b1, b2, b3, b4', b5, b6', b7, b8, b9⟩ := z_prep1 (μ := μ1) (ν := ν1) (P := P) (S := S) (N := N) (T := T) (L := L) (U := L + T + Sw) (m := i) (f := F i) (n := F (i + 1) - F i) (per := pr i) (k := K i) (k' := K (i + 1)) (s := Z i) (s' := Z (i + 1)) (Sl := Sl) hR1 (by omega) hT24 hP12 ((gc 7 4 (by decide) (n7x 4)).trans p1) ((gc 7 7 (by decide) (n7x 7)).trans n2) (fun t ht => by
        obtain ⟨m, q1, q2, q3, q4⟩ := htr t ht
        have hbm := (hp m q1).1
        -- bits from what is read
        obtain ⟨nd, tm, sp, w, lc, ab, ub, a, b, off, ⟨u1, u2, u3, u4, u5, u6, u7, -⟩, ⟨x1, x2, x3, x4, x5, x6, x7, -⟩, ⟨y1, y2, -⟩, hbs, -⟩ := q4
        have hab : ab < 4096 := Nat.lt_of_lt_of_le u6 (show 2 ^ P ≤ 2 ^ 12 from Nat.pow_le_pow_right (by decide) hP12)
        refine ⟨x2.trans y2.symm, fun p hp => ?_⟩
        rw [x6, x7, zn_or, zbit (Nat.or_lt_two_pow (n := 12) u7 hab) hp, zbit hab hp, (hbs p hp).1, (hbs p hp).2, zb01_f, zb01_f, Nat.testBit_or]
        exact ⟨Iff.rfl, Iff.rfl⟩) (fun t ht => (gc _ 0 (by omega) (fun w => by rcases w with ⟨m, w1, w2⟩ | ⟨t', w1, w2⟩ <;> omega)).trans (ct t ht)) (by rw [hfn]; exact hdi) (by omega) hlow ((gr 203 22 (by decide) (by unfold zXpB; omega)).trans n3) ((gr 203 43 (by decide) (by unfold zXpB; omega)).trans c3) ⟨hZM, by omega⟩ (fun x hx hn w => by
        obtain ⟨m, q1, q2, q3⟩ := zfind M Z0 x (by omega)
        rw [((hp m q1).2.2.2.2.2.1 x q2 q3).1, zi_eq (by omega) (by omega)] at w
        subst w
        omega) (fun t ht => by rw [e28.1, e28.2]; exact h28 t ht) (fun t ht => zDij_k (n4 t ht).2 (fun k hk => gr 218 k (by decide) (by unfold zXpB; omega)) (fun i hi => gr 227 i (by decide) (by unfold zXpB; omega)))
      -- frames of this mode
      have hxA : ∀ a j, zXpc i (F i) (F (i + 1) - F i) a j → zXpA a j := fun a j w => by
        rcases w with (w | ⟨t, w1, w2, w3⟩) | (w | w | w | ⟨t, w1, w2, w3⟩)
        · exact Or.inl ⟨i, by omega, by omega⟩
        · exact Or.inr ⟨t, by omega, by omega⟩
        · exact Or.inl ⟨i, by omega, by omega⟩
        · exact Or.inl ⟨i, by omega, by omega⟩
        · exact Or.inl ⟨i, by omega, by omega⟩
        · exact Or.inr ⟨t, by omega, by omega⟩
      have hzA : ∀ a j, zZ7 i a j → zZpA a j := fun a j w => ⟨i, by omega, w.1, w.2⟩
      have hxB : ∀ a j, zXpr i (F i) (F (i + 1) - F i) (Z i) (Z (i + 1)) a j → zXpB a j := fun a j w => by
        unfold zXpr at w
        unfold zXpB
        omega
      have cn : ∀ a j, (a < 17 ∨ 180 < a ∨ (∃ m, m < 4 ∧ (a = 20 + 11 * m ∨ a = 18 + 11 * m ∨ (24 + 11 * m ≤ a ∧ a < 28 + 11 * m)))) → ¬ zXpc i (F i) (F (i + 1) - F i) a j := fun a j hq w => by
        rcases w with (w | ⟨t, w1, w2, w3⟩) | (w | w | w | ⟨t, w1, w2, w3⟩) <;> rcases hq with q | q | ⟨m, q1, q2⟩ <;> omega
      have hKe : ∀ m, m < M → zKe m (F m) (F (m + 1)) (Z m) (Z (m + 1)) μ1 ν1 μ4 ν4 := fun m hm => by
        refine ⟨fun a j ha hq => (b6' a ha j).1 (cn a j (by
          rcases hq with q | q | q | q | q
          · exact Or.inl (by omega)
          · exact Or.inl (by omega)
          · exact Or.inl (by omega)
          · exact Or.inr (Or.inr ⟨m, by omega, Or.inl q⟩)
          · exact Or.inr (Or.inr ⟨m, by omega, Or.inr (Or.inr q)⟩))), fun a j ha => (b6' a (by omega) j).2.1 (fun w => w.2 rfl), fun j => (b6' _ (by omega) j).2.2 (fun w => by unfold zZ7 at w; omega), fun a j ha q1 q2 q3 q4 q5 q6 => (b7 a ha j).1 (fun w => by unfold zXpr at w; omega), fun a j ha => (b7 a (by omega) j).2.1 (fun w => w.2 rfl)⟩
      have hdisF : ∀ m, m < M → m ≠ i → ∀ t, F m ≤ t → t < F (m + 1) → ¬ (F i ≤ t ∧ t < F (i + 1)) := fun m hm hne t w1 w2 w3 => by
        rcases Nat.lt_or_gt_of_ne hne with w | w
        · have := hFm i (m + 1) (by omega) (by omega)
          omega
        · have := hFm m (i + 1) (by omega) (by omega)
          omega
      have hdisZ : ∀ m, m < M → m ≠ i → ∀ x, Z m ≤ x → x < Z (m + 1) → ¬ (Z i ≤ x ∧ x < Z (i + 1)) := fun m hm hne x w1 w2 w3 => by
        rcases Nat.lt_or_gt_of_ne hne with w | w
        · have := hZm i (m + 1) (by omega) (by omega)
          omega
        · have := hZm m (i + 1) (by omega) (by omega)
          omega
      have hct : ∀ m, m < M → m ≠ i → ∀ t j, F m ≤ t → t < F (m + 1) → xe_I μ4 (61 + 5 * t) j = xe_I μ1 (61 + 5 * t) j ∧ xe_I μ4 (62 + 5 * t) j = xe_I μ1 (62 + 5 * t) j := fun m hm hne t j w1 w2 => by
        have hn := hdisF m hm hne t w1 w2
        have ht : t < 24 := by
          have := hFm M (m + 1) (by omega) (Nat.le_refl _)
          omega
        exact ⟨(b6' _ (by omega) j).1 (fun w => by rcases w with (w | ⟨t', w1, w2, w3⟩) | (w | w | w | ⟨t', w1, w2, w3⟩) <;> omega), (b6' _ (by omega) j).1 (fun w => by rcases w with (w | ⟨t', w1, w2, w3⟩) | (w | w | w | ⟨t', w1, w2, w3⟩) <;> omega)⟩
      have hc17 : ∀ m, m < M → m ≠ i → ∀ j, xe_I μ4 (17 + 11 * m) j = xe_I μ1 (17 + 11 * m) j := fun m hm hne j => (b6' _ (by omega) j).1 (fun w => by rcases w with (w | ⟨t', w1, w2, w3⟩) | (w | w | w | ⟨t', w1, w2, w3⟩) <;> omega)
      have hp4 : ∀ m, m < M → zMp N P S L (L + T + Sw) μ4 ν4 m (pr m) (F m) (F (m + 1)) (K m) (K (m + 1)) (Z m) (Z (m + 1)) := fun m hm => by
        refine zMp_p (hp m hm) (by omega) (hKe m hm) (fun t j w1 w2 w3 => ?_) (fun j hj => (b6' _ (by omega) j).1 (fun w => by rcases w with (w | ⟨t', w1, w2, w3⟩) | (w | w | w | ⟨t', w1, w2, w3⟩) <;> omega))
        have ht : t < 24 := by
          have := hFm M (m + 1) (by omega) (Nat.le_refl _)
          omega
        exact (b6' _ (by omega) j).1 (fun w => by rcases w with (w | ⟨t', w1, w2, w3⟩) | (w | w | w | ⟨t', w1, w2, w3⟩) <;> omega)
      have hR4 : zRt μ4 := zRt_A hR (zfG_t G1 (zfG_w b6' hxA (fun a j q => q) hzA))
      obtain ⟨μ', ν', x1, x2, x3, x4, x5⟩ := ih (i + 1) g G μ4 ν4 (by omega) (by omega) (by omega) (zfG_t G1 (zfG_w b6' hxA (fun a j q => q) hzA)) (zfG_t G2 (zfG_w b7 hxB (fun a j q => q) (fun a j q => q))) (fun t ht => by
        rw [(b7 228 (by decide) t).1 (fun w => by unfold zXpr at w; omega), (b7 229 (by decide) t).1 (fun w => by unfold zXpr at w; omega)]
        exact h28 t ht) hp4 (fun m hm => by
        by_cases e : m = i
        · subst e
          exact b5
        · have hbm := (hp m (by omega)).1
          have hFmM := hFm M (m + 1) (by omega) (Nat.le_refl _)
          refine zVm_p (hv m (by omega)) (by omega) (by omega) hR4 (fun a j ha hq => ?_) (fun a j hq => ?_) (fun a j ha q1 q2 q3 q4 q5 q6 => (b7 a ha j).1 (fun w => by unfold zXpr at w; omega)) ⟨fun t w1 w2 => ?_, ?_, ?_, fun x w1 w2 => ?_⟩
          · rcases hq with q | q | q | ⟨t, q1, q2, q3⟩
            · rw [q]
              exact hc17 m (by omega) e j
            · exact (b6' _ ha j).1 (fun w => by rcases w with (w | ⟨t', w1, w2, w3⟩) | (w | w | w | ⟨t', w1, w2, w3⟩) <;> omega)
            · exact (b6' _ ha j).1 (fun w => by rcases w with (w | ⟨t', w1, w2, w3⟩) | (w | w | w | ⟨t', w1, w2, w3⟩) <;> omega)
            · have := hct m (by omega) e t j q1 (by omega)
              rcases q3 with q3 | q3
              · rw [q3]
                exact this.1
              · rw [q3]
                exact this.2
          · exact (b6' _ (by omega) j).2.2 (fun w => by unfold zZ7 at w; omega)
          · have hn := hdisF m (by omega) e t w1 (by omega)
            exact (b7 225 (by decide) t).1 (fun w => by unfold zXpr at w; omega)
          · exact (b7 215 (by decide) m).1 (fun w => by unfold zXpr at w; omega)
          · exact (b7 216 (by decide) m).1 (fun w => by unfold zXpr at w; omega)
          · have hn := hdisZ m (by omega) e x w1 w2
            exact (b7 238 (by decide) x).1 (fun w => by unfold zXpr at w; omega)) (fun m hm1 hm2 => zMd_p (hd m (by omega) hm2) (by omega) (hKe m hm2) (fun t j w1 w2 => (hct m hm2 (by omega) t j w1 w2).1) (hc17 m hm2 (by omega)) (fun x w1 w2 => by
        have hn := hdisZ m hm2 (by omega) x w1 w2
        exact (b7 238 (by decide) x).1 (fun w => by unfold zXpr at w; omega)))
      refine ⟨μ', ν', ?_, ?_, x3, x4, x5⟩
      · show zD68_2_b (zD68_2 g) (nI i) μ1 = _
        unfold zD68_2_b
        have r15 : ∀ μ9, zfG (zXpc i (F i) (F (i + 1) - F i)) zZu (zZ7 i) μ1 μ9 → xe_R μ9 15 i = some (17 + 11 * i) := fun μ9 g9 => ((g9 15 (by decide) i).2.2 (fun w => by unfold zZ7 at w; omega)).trans (hR1 15 i _ (zR_15 i (by omega)))
        rw [gc 7 6 (by decide) (n7x 6), n6, if_neg (nI_ge (by omega) (by omega)), zx_nI (show i < 4 by omega) (by decide), hR1 15 i _ (zR_15 i (by omega)), zs_some, b1, zcV_ok, zx_nI (show i < 4 by omega) (by decide), r15 μ2 b8, zs_some, zo_in (zS_mode i (by omega)) (by omega), b2, zcV_ok, zx_nI (show i < 4 by omega) (by decide), r15 μ3 b9, zs_some, zo_in (zS_mode i (by omega)) (by omega), b3, zcV_ok, nI_1]
        exact x1
      · show zD133_110_b (zD133_110 G) v2 (nI i) ν1 = _
        unfold zD133_110_b
        rw [gr 203 17 (by decide) (by unfold zXpB; omega), n7, if_neg (nI_ge (by omega) (by omega)), b4', zcV_ok, nI_1]
        exact x2
  have hKm : ∀ b a, a ≤ b → b ≤ M → K a ≤ K b := zmono2 (fun m hm => (hmd m hm).1.1.2.2.2.2.1)
  have hd0 : ∀ m, m < M → zMd N P S L (L + T + Sw) μ ν0 m (pr m) (F m) (F (m + 1)) (K m) (K (m + 1)) (Z m) (Z (m + 1)) := fun m hm => by
    have hFmM := hFm M (m + 1) (by omega) (Nat.le_refl _)
    have hKmM := hKm M (m + 1) (by omega) (Nat.le_refl _)
    have hZmM := hZm M (m + 1) (by omega) (Nat.le_refl _)
    refine zMd_k (M := M) (T := T) (Sw := Sw) (Sl := Sl) (hmd m hm).1 hm (by omega) (by omega) (by omega) ⟨fun _ _ _ => rfl, fun _ _ _ => rfl, fun _ _ _ => rfl⟩ ⟨fun a j q => ?_, fun a j q => ?_⟩ (Nat.le_refl _) (Nat.le_refl _)
    · unfold zQI at q
      exact k0 a j (by omega) (by omega) (by omega)
    · unfold zQL at q
      exact (a2 a (by omega) j).2.1 (fun w => w.2 rfl)
  have G0 : zfG zXpB zZu zZu ν ν0 := zfG_w a2 (fun a j q => by unfold zXm at q; unfold zXpB; omega) (fun a j q => q) (fun a j q => q)
  obtain ⟨μ', ν', x1, x2, x3, x4, x5⟩ := hl M 0 zfu zfu μ ν0 (by omega) (zfu_lt (by omega)) (zfu_lt (by omega)) zfG_r G0 a3 (fun m hm => zMp_d (hd0 m hm)) (fun m hm => absurd hm (by omega)) (fun m _ hm => hd0 m hm)
  have gc : ∀ a j, a < 265 → ¬ zXpA a j → xe_I μ' a j = xe_I μ a j := fun a j q1 q2 => (x3 a q1 j).1 q2
  have gL : ∀ a j, a < 265 → xe_L μ' a j = xe_L μ a j := fun a j q1 => (x3 a q1 j).2.1 (fun w => w.2 rfl)
  have gr : ∀ a j, a < 265 → ¬ zXpB a j → xe_I ν' a j = xe_I ν a j := fun a j q1 q2 => (x4 a q1 j).1 q2
  have grL : ∀ a j, a < 265 → xe_L ν' a j = xe_L ν a j := fun a j q1 => (x4 a q1 j).2.1 (fun w => w.2 rfl)
  have nx : ∀ a j, (a < 17 ∨ 180 < a) → ¬ zXpA a j := fun a j hq w => by rcases w with ⟨m, w1, w2⟩ | ⟨t, w1, w2⟩ <;> omega
  refine ⟨μ', ν', x1, x2, ⟨⟨zRt_A hR x3, zNp_k hNp (fun e _ => ⟨gc 184 e (by decide) (nx _ _ (by omega)), gc 185 e (by decide) (nx _ _ (by omega)), gL 183 e (by decide)⟩) ⟨funext fun e => grL 210 e (by decide), funext fun e => grL 212 e (by decide)⟩ ⟨gr 203 12 (by decide) (by unfold zXpB; omega), gr 203 15 (by decide) (by unfold zXpB; omega)⟩, ⟨(gc 7 4 (by decide) (nx _ _ (by omega))).trans p1, (gc 7 5 (by decide) (nx _ _ (by omega))).trans p2, (gr 203 70 (by decide) (by unfold zXpB; omega)).trans p3⟩, fun t ht => (gc _ 0 (by omega) (fun w => by rcases w with ⟨m, w1, w2⟩ | ⟨t', w1, w2⟩ <;> omega)).trans (ct t ht), fun i hi => (gc _ 0 (by omega) (fun w => by rcases w with ⟨m, w1, w2⟩ | ⟨t', w1, w2⟩ <;> omega)).trans (cm i hi), fun j hj => by rw [gc 14 j (by decide) (nx _ _ (by omega)), gr 211 j (by decide) (by unfold zXpB; omega)]; exact cv j hj⟩, ⟨(gc 7 7 (by decide) (nx _ _ (by omega))).trans n2, (gr 203 22 (by decide) (by unfold zXpB; omega)).trans n3, (gc 7 6 (by decide) (nx _ _ (by omega))).trans n6, (gr 203 17 (by decide) (by unfold zXpB; omega)).trans n7, (gr 203 37 (by decide) (by unfold zXpB; omega)).trans c2, (gr 203 43 (by decide) (by unfold zXpB; omega)).trans c3, c4⟩, ⟨m1, m4, f6, k4, s120⟩, fun t ht => zDij_k (n4 t ht).2 (fun k hk => gr 218 k (by decide) (by unfold zXpB; omega)) (fun i hi => gr 227 i (by decide) (by unfold zXpB; omega)), F, K, Z, pr, ⟨F0, K0, Z0, FM, KM, ZM⟩, fun m hm => ⟨(x5 m hm).1, fun e he => ?_, (x5 m hm).2⟩⟩, x3, x4⟩
  obtain ⟨z, z1, z2, z3⟩ := (hmd m hm).2 e he
  have hb6 := (hmd m hm).1.1.2.2.2.2.2.1
  refine ⟨z, z1, (gc _ 4 (by omega) (fun w => by rcases w with ⟨m', w1, w2⟩ | ⟨t', w1, w2⟩ <;> omega)).trans z2, ?_⟩
  rw [← z3]
  unfold zV
  refine zff_c (s := M) (fun i hi => ?_) M 0 (by omega)
  rw [grL 213 i (by decide), grL 234 _ (by decide)]
end
