/-! checking a mode: from tick to tick -/
theorem zm1_le {a : Nat} (h : a < 2147483648) : (-1 : Int32) ≤ nI a := by
  rw [Int32.le_iff_toInt_le, nI_toInt h, show (-1 : Int32).toInt = -1 by decide]
  omega
theorem zmin2_m1 {x : Int32} (h : -1 ≤ x) : zmin2 (-1) x = -1 := by
  unfold zmin2
  split
  · rfl
  · rename_i hn
    exact Int32.le_antisymm (Int32.not_lt.mp hn) h
theorem zmin2_le {a b : Int32} : zmin2 a b ≤ b := by
  unfold zmin2
  split
  · rename_i h
    exact Int32.le_of_lt h
  · exact Int32.le_refl _
theorem zmin2_r {a b : Int32} (h : b ≤ a) : zmin2 a b = b := by
  unfold zmin2
  rw [if_neg (Int32.not_lt.mpr h)]
theorem zmi_le {g : Nat → Int32} {s : Nat} : ∀ k, zmi g s k ≤ nI s := by
  intro k
  induction k with
  | zero => exact Int32.le_refl _
  | succ k ih => exact Int32.le_trans zmin2_le ih
theorem zmi_ge {g : Nat → Int32} {s : Nat} (hs : s < 2147483648) : ∀ k, (∀ r, r < k → -1 ≤ g r) → -1 ≤ zmi g s k := by
  intro k
  induction k with
  | zero => intro _; exact zm1_le hs
  | succ k ih =>
    intro h
    show -1 ≤ zmin2 (g k) (zmi g s k)
    unfold zmin2
    split
    · exact h k (by omega)
    · exact ih (fun r hr => h r (by omega))
section
variable {m f n per T k : Nat} {d : Nat → Nat → Nat} {ns fm l : Nat → Nat} {μ ν μ' ν' : xe_Mem} {o : Option Nat} {t : Nat}
theorem zvl_ge (h1 : 1 ≤ d 0 t) (h2 : d 0 t ≤ 120) {r : Nat} (hr : r < 120) (h : zDn d f n ν t r) : -1 ≤ zvl d ν t r := by
  unfold zvl
  rcases h with h | ⟨dd, h, h3, h4, -⟩
  · rw [h, if_neg (by decide)]
    decide
  · have hb : (r + 1) * d 0 t ≤ 120 * 120 := Nat.mul_le_mul (by omega) h2
    rw [h, if_pos (nI_pos' (by omega)), zn_sub h4]
    exact zm1_le (by omega)
theorem zdiv_A (h1 : 1 ≤ d 0 t) (h : (k + 1) % d 0 t = 0) : (k + 1) / d 0 t = k / d 0 t + 1 ∧ (k / d 0 t + 1) * d 0 t = k + 1 := by
  have e := (zEn_1 h1).mpr h
  unfold zEn at e
  refine ⟨zdiv_i h1 (by omega) ?_, e⟩
  rw [Nat.add_mul]
  omega
theorem zdiv_B (h1 : 1 ≤ d 0 t) (h : ¬ (k + 1) % d 0 t = 0) : (k + 1) / d 0 t = k / d 0 t := by
  have hs := zdiv_s (a := k) h1
  have hne : ¬ zEn d k t = k + 1 := fun w => h ((zEn_1 h1).mp w)
  unfold zEn at hne
  exact zdiv_i h1 (by omega) (by omega)
/-- a task's facts at the boundary behind the tick k -/
theorem z_bnd (hN : (zAv d f n 4 k t = 0 → ∃ dd, xe_I ν 230 (120 * t + k / d 0 t) = nI dd ∧ k / d 0 t * d 0 t ≤ dd ∧ dd ≤ k + 1 ∧ ∀ j, k / d 0 t * d 0 t ≤ j → j ≤ k → (zLf d f n j t = 0 ↔ dd ≤ j)) ∧ (∀ r, r < k / d 0 t → zDn d f n ν t r) ∧ xe_I μ (61 + 5 * t) 13 = zmi (zvl d ν t) (d 0 t) (k / d 0 t + (if zAv d f n 4 k t = 0 then 1 else 0))) (h1 : 1 ≤ d 0 t) (h2 : d 0 t ≤ 120) (hk : k < per) (h120 : per ≤ 120) (hrow : zRw2 d (zAv d f n 4 k) per (k + 1) t ν ν') (hsl : xe_I μ' (61 + 5 * t) 13 = if zEn d k t = k + 1 ∧ 0 < zAv d f n 4 k t then -1 else xe_I μ (61 + 5 * t) 13) :
    (∀ r, r < (k + 1) / d 0 t → zDn d f n ν' t r) ∧ xe_I μ' (61 + 5 * t) 13 = zmi (zvl d ν' t) (d 0 t) ((k + 1) / d 0 t + (if ¬ (k + 1) % d 0 t = 0 ∧ zAv d f n 4 k t = 0 then 1 else 0)) ∧ ((∀ r, r < k / d 0 t → 0 ≤ xe_I ν 230 (120 * t + r)) → ¬ ((k + 1) % d 0 t = 0 ∧ 0 < zAv d f n 4 k t) → ∀ r, r < (k + 1) / d 0 t → 0 ≤ xe_I ν' 230 (120 * t + r)) := by
  obtain ⟨a4, a5, a6⟩ := hN
  have hdv : k / d 0 t ≤ k := Nat.div_le_self _ _
  by_cases hA : (k + 1) % d 0 t = 0
  · obtain ⟨e1, e2⟩ := zdiv_A h1 hA
    have hen : zEn d k t = k + 1 := (zEn_1 h1).mpr hA
    have hold : ∀ r, r < k / d 0 t → xe_I ν' 230 (120 * t + r) = xe_I ν 230 (120 * t + r) := fun r hr => by
      rw [hrow.2 r (by omega), if_neg (fun w => by have := w.2.2; omega), if_neg (fun w => by have := w.2.2; omega)]
    have hcur : xe_I ν' 230 (120 * t + k / d 0 t) = if 0 < zAv d f n 4 k t then -1 else xe_I ν 230 (120 * t + k / d 0 t) := by
      rw [hrow.2 (k / d 0 t) (by omega), if_neg (fun w => by have := w.2.2; omega)]
      by_cases hl : 0 < zAv d f n 4 k t
      · rw [if_pos ⟨hA, hl, e1.symm⟩, if_pos hl]
      · rw [if_neg (fun w => hl w.2.1), if_neg hl]
    have hDn : ∀ r, r < (k + 1) / d 0 t → zDn d f n ν' t r := fun r hr => by
      by_cases er : r = k / d 0 t
      · unfold zDn
        rw [er, hcur]
        by_cases hl : 0 < zAv d f n 4 k t
        · rw [if_pos hl]
          exact Or.inl rfl
        · rw [if_neg hl]
          obtain ⟨dd, c1, c2, c3, c4⟩ := a4 (by omega)
          exact Or.inr ⟨dd, c1, c2, by omega, fun j w1 w2 => c4 j w1 (by omega)⟩
      · unfold zDn
        rw [hold r (by omega)]
        exact a5 r (by omega)
    refine ⟨hDn, ?_, fun hp hm r hr => ?_⟩
    · rw [if_neg (fun w => w.1 hA), e1, hsl]
      show _ = zmin2 (zvl d ν' t (k / d 0 t)) (zmi (zvl d ν' t) (d 0 t) (k / d 0 t))
      by_cases hl : 0 < zAv d f n 4 k t
      · rw [if_pos ⟨hen, hl⟩]
        have hz : zvl d ν' t (k / d 0 t) = -1 := by
          unfold zvl
          rw [hcur, if_pos hl, if_neg (by decide)]
        rw [hz, zmin2_m1 (zmi_ge (by omega) _ (fun r hr => zvl_ge h1 h2 (by omega) (hDn r (by omega))))]
      · rw [if_neg (fun w => hl w.2), a6, if_pos (by omega)]
        show zmin2 (zvl d ν t (k / d 0 t)) (zmi (zvl d ν t) (d 0 t) (k / d 0 t)) = _
        have hz : ∀ r, r < k / d 0 t + 1 → zvl d ν t r = zvl d ν' t r := fun r hr => by
          unfold zvl
          by_cases er : r = k / d 0 t
          · rw [er, hcur, if_neg hl]
          · rw [hold r (by omega)]
        rw [hz _ (by omega), zmi_c _ (fun r hr => hz r (by omega))]
    · by_cases er : r = k / d 0 t
      · rw [er, hcur, if_neg (fun w => hm ⟨hA, w⟩)]
        obtain ⟨dd, c1, c2, c3, c4⟩ := a4 (by
          rcases Nat.eq_zero_or_pos (zAv d f n 4 k t) with w | w
          · exact w
          · exact absurd ⟨hA, w⟩ hm)
        rw [c1]
        exact nI_pos' (by omega)
      · rw [hold r (by omega)]
        exact hp r (by omega)
  · have e1 := zdiv_B h1 hA
    have hold : ∀ r, r < 120 → xe_I ν' 230 (120 * t + r) = xe_I ν 230 (120 * t + r) := fun r hr => by
      rw [hrow.2 r hr, if_neg (fun w => hA w.1), if_neg (fun w => hA w.1)]
    refine ⟨fun r hr => ?_, ?_, fun hp hm r hr => ?_⟩
    · unfold zDn
      rw [hold r (by omega)]
      exact a5 r (by omega)
    · rw [hsl, if_neg (fun w => hA ((zEn_1 h1).mp w.1)), a6, e1]
      have hcnt : (if ¬ (k + 1) % d 0 t = 0 ∧ zAv d f n 4 k t = 0 then 1 else 0) = (if zAv d f n 4 k t = 0 then 1 else 0) := by
        by_cases hl : zAv d f n 4 k t = 0
        · rw [if_pos ⟨hA, hl⟩, if_pos hl]
        · rw [if_neg (fun w => hl w.2), if_neg hl]
      rw [hcnt]
      refine zmi_c _ (fun r hr => ?_)
      unfold zvl
      rw [hold r (by split at hr <;> omega)]
    · rw [hold r (by omega)]
      exact hp r (by omega)
/-- both at the tick k, its spans begun -/
def zTi (m f n per T : Nat) (d : Nat → Nat → Nat) (ns fm : Nat → Nat) (k : Nat) (o : Option Nat) (μ ν : xe_Mem) : Prop := zNi m f n per T d ns fm 0 k μ ν ∧ xe_I μ (17 + 11 * m) 12 = zov o ∧ (∀ x, o = some x → x < 24) ∧ (o = none → ∀ t, f ≤ t → t < f + n → ∀ r, r < k / d 0 t → 0 ≤ xe_I ν 230 (120 * t + r))
/-- both behind the last tick -/
def zEd (m f n per T : Nat) (d : Nat → Nat → Nat) (ns fm : Nat → Nat) (o : Option Nat) (μ ν : xe_Mem) : Prop := zSt m f n per T d ns fm μ ν ∧ xe_I μ (17 + 11 * m) 12 = zov o ∧ (∀ x, o = some x → x < 24) ∧ ∀ t, f ≤ t → t < f + n → (∀ r, r < per / d 0 t → zDn d f n ν t r) ∧ xe_I μ (61 + 5 * t) 13 = zmi (zvl d ν t) (d 0 t) (per / d 0 t) ∧ (o = none → ∀ r, r < per / d 0 t → 0 ≤ xe_I ν 230 (120 * t + r))
theorem zX8_d : ∀ a j, zXd2 a j → zX8 m a j := fun a j h => by
  unfold zXd2 at h
  unfold zX8
  omega
theorem zAv_le (h : d 2 t < 4) {v : Nat} : zAv d f n v k t ≤ d 1 t := by
  have := zLf_le (d := d) (f := f) (n := n) h k
  unfold zAv
  omega
/-- to the next tick -/
theorem z_nextk {c44 : Int32 → Int32 → Int32 → Int32 → xe_Mem → zO} {v3 : Int32} (h : zNi m f n per T d ns fm 4 k μ ν) (hv : xe_I μ (17 + 11 * m) 12 = zov o) (ho2 : ∀ x, o = some x → x < 24) (hnm : o = none → ∀ t, f ≤ t → t < f + n → ∀ r, r < k / d 0 t → 0 ≤ xe_I ν 230 (120 * t + r)) (hk : k < per) :
    ∃ μ1 ν' o', zD79 (17 + 11 * m) (nI (k + 1)) μ = some (.inl none, μ1) ∧ zfG (zX9 m f n) zZu zZu μ μ1 ∧ zD171_52 c44 zfu (nI m) (zoi o) v3 (nI (k + 1)) (nI 0) ν = zD171_127 c44 zfu (nI m) (zoi o') v3 (nI (k + 1)) (nI 0) ν' ∧ zfG zXd2 zZu zZu ν ν' ∧ (k + 1 < per → ∃ μ', zD74 (17 + 11 * m) (nI (k + 1)) μ1 = some (.inl none, μ') ∧ zfG (zX4 f n) zZu zZu μ1 μ' ∧ zTi m f n per T d ns fm (k + 1) o' μ' ν' ∧ ∀ t, f ≤ t → t < f + n → ((k + 1) % d 0 t = 0 → xe_I μ' (63 + 5 * t) 3 = 0) ∧ (¬ (k + 1) % d 0 t = 0 → xe_I μ' (63 + 5 * t) 3 = xe_I μ (63 + 5 * t) 3)) ∧ (k + 1 = per → zEd m f n per T d ns fm o' μ1 ν') := by
  obtain ⟨hs, ht⟩ := id h
  obtain ⟨hR, ⟨b1, b2, b3, b4, b5, b6⟩, -, hst, -⟩ := id hs
  have hin : ∀ t, f ≤ t → t < f + n → 1 ≤ d 0 t ∧ d 0 t ≤ 120 ∧ d 1 t ≤ 200 ∧ d 2 t < 4 := fun t h1 h2 => by
    obtain ⟨⟨q1, q2, q3, q4, q5⟩, -⟩ := hst t h1 h2
    exact ⟨q1, by omega, q4, q5⟩
  obtain ⟨μ1, a1, a2, a3, a4⟩ := z79 (l := zAv d f n 4 k) (en := zEn d k) (o := o) hs hk (fun t h1 h2 => by
    obtain ⟨q1, q2, q3, q4⟩ := hin t h1 h2
    have := zAv_le (d := d) (f := f) (n := n) (k := k) (t := t) (v := 4) q4
    exact ⟨(ht t h1 h2).1.1, by omega, (ht t h1 h2).1.2.1, zEn_lt (Or.inr trivial) q1 q2 (by omega)⟩) hv ho2
  obtain ⟨ν', c1, c2, c3⟩ := z52 (c44 := c44) (v3 := v3) (k := k + 1) (l := zAv d f n 4 k) (o := o) hs (by omega) (fun t h1 h2 => by
    obtain ⟨q1, q2, q3, q4⟩ := hin t h1 h2
    have := zAv_le (d := d) (f := f) (n := n) (k := k) (t := t) (v := 4) q4
    exact ⟨(ht t h1 h2).1.2.2, by omega, fun _ => by omega⟩) ho2
  have hmse : zof (fun t => decide ((k + 1) % d 0 t = 0) && decide (0 < zAv d f n 4 k t)) f o n = zof (fun t => decide (zEn d k t = k + 1) && decide (0 < zAv d f n 4 k t)) f o n := by
    refine zof_c n (fun t h1 h2 => ?_)
    have := zEn_1 (d := d) (k := k) (hin t h1 h2).1
    by_cases e : (k + 1) % d 0 t = 0
    · rw [decide_eq_true e, decide_eq_true (this.mpr e)]
    · rw [decide_eq_false e, decide_eq_false (fun w => e (this.mp w))]
  rw [hmse] at c1
  have hof24 : ∀ x, zof (fun t => decide (zEn d k t = k + 1) && decide (0 < zAv d f n 4 k t)) f o n = some x → x < 24 := zof_in n ho2 (by omega)
  have hb : ∀ t, f ≤ t → t < f + n → _ := fun t h1 h2 => z_bnd (μ' := μ1) (ν' := ν') (ht t h1 h2).2 (hin t h1 h2).1 (hin t h1 h2).2.1 hk b6 (c3 t h1 h2) (a3 t h1 h2)
  have hnone : zof (fun t => decide (zEn d k t = k + 1) && decide (0 < zAv d f n 4 k t)) f o n = none → ∀ t, f ≤ t → t < f + n → ∀ r, r < (k + 1) / d 0 t → 0 ≤ xe_I ν' 230 (120 * t + r) := fun hz t h1 h2 => by
    obtain ⟨z1, z2⟩ := zof_n n hz
    refine (hb t h1 h2).2.2 (hnm z1 t h1 h2) (fun w => ?_)
    have := z2 t h1 h2
    rw [decide_eq_true ((zEn_1 (hin t h1 h2).1).mpr w.1), decide_eq_true w.2] at this
    cases this
  have g1 : zfG (zX7 m f n) zZu (zZ7 m) μ μ1 := zfG_w a2 zX7_9 (fun a j q => q) (fun a j q => absurd rfl q.2)
  have g2 : zfG (zX8 m) zZu zZu ν ν' := zfG_w c2 zX8_d (fun a j q => q) (fun a j q => q)
  have hs1 := zSt_k hs g1 g2
  refine ⟨μ1, ν', _, a1, a2, c1, c2, fun hk1 => ?_, fun hk1 => ?_⟩
  · obtain ⟨μ', e1, e2, e3⟩ := z74 (k := k + 1) hs1 hk1
    have g3 : zfG (zX7 m f n) zZu (zZ7 m) μ1 μ' := zfG_w e2 zX7_4 (fun a j q => q) (fun a j q => absurd rfl q.2)
    have k63 : ∀ t j, t < 24 → xe_I μ1 (63 + 5 * t) j = xe_I μ (63 + 5 * t) j := fun t j w => (a2 _ (by omega) j).1 (fun w2 => by rcases w2 with w2 | ⟨t', w3, w4, w5, w6⟩ <;> omega)
    have k61 : ∀ t, t < 24 → xe_I μ' (61 + 5 * t) 13 = xe_I μ1 (61 + 5 * t) 13 := fun t w => (e2 _ (by omega) 13).1 (fun w2 => by obtain ⟨t', w3, w4, w5, w6⟩ := w2; omega)
    refine ⟨μ', e1, e2, ⟨⟨zSt_k hs1 g3 zfG_r, fun t h1 h2 => ?_⟩, ?_, hof24, hnone⟩, fun t h1 h2 => ⟨fun w => ((e3 t h1 h2).1 w).2.2.1, fun w => ((e3 t h1 h2).2 w 3).trans (k63 t 3 (by omega))⟩⟩
    · obtain ⟨q1, q2, q3, q4⟩ := hin t h1 h2
      obtain ⟨⟨w1, w2, w3⟩, w4, w5, w6⟩ := ht t h1 h2
      obtain ⟨x1, x2, x3⟩ := hb t h1 h2
      rw [zAv_0, zLf_s q4]
      by_cases hA : (k + 1) % d 0 t = 0
      · obtain ⟨y1, y2⟩ := zdiv_A q1 hA
        obtain ⟨z1, z2, -, -⟩ := (e3 t h1 h2).1 hA
        have hcur : xe_I ν' 230 (120 * t + (k + 1) / d 0 t) = nI (k + 1) := by
          have hdv : (k + 1) / d 0 t ≤ k + 1 := Nat.div_le_self _ _
          rw [(c3 t h1 h2).2 _ (by omega), if_pos ⟨hA, hk1, rfl⟩]
        rw [if_pos hA]
        refine ⟨⟨z1, ?_, ?_⟩, fun w => ⟨k + 1, hcur, ?_, by omega, fun j v1 v2 => ?_⟩, x1, ?_⟩
        · rw [z2]
          unfold zEn
          rw [y1, Nat.add_mul, y2, Nat.one_mul]
        · rw [(c3 t h1 h2).1, if_pos ⟨hA, hk1⟩]
        · rw [y1, y2]
          exact Nat.le_refl _
        · rw [y1, y2] at v1
          have : j = k + 1 := by omega
          rw [this, zLf_s q4, if_pos hA]
          exact ⟨fun _ => Nat.le_refl _, fun _ => w⟩
        · rw [k61 t (by omega), x2, if_neg (fun w => w.1 hA), Nat.add_zero]
          by_cases hw : d 1 t = 0
          · rw [if_pos hw]
            show _ = zmin2 (zvl d ν' t ((k + 1) / d 0 t)) (zmi (zvl d ν' t) (d 0 t) ((k + 1) / d 0 t))
            have hz : zvl d ν' t ((k + 1) / d 0 t) = nI (d 0 t) := by
              unfold zvl
              rw [hcur, if_pos (nI_pos' (by omega)), y1, Nat.add_mul, y2, Nat.one_mul, zn_sub (by omega)]
              congr 1
              omega
            rw [hz, zmin2_r (zmi_le _)]
          · rw [if_neg hw]
            rfl
      · have y1 := zdiv_B q1 hA
        rw [if_neg hA]
        have hold : ∀ r, r < 120 → xe_I ν' 230 (120 * t + r) = xe_I ν 230 (120 * t + r) := fun r hr => by
          rw [(c3 t h1 h2).2 r hr, if_neg (fun w => hA w.1), if_neg (fun w => hA w.1)]
        have hdv : k / d 0 t ≤ k := Nat.div_le_self _ _
        refine ⟨⟨?_, ?_, ?_⟩, fun w => ?_, x1, ?_⟩
        · rw [(e3 t h1 h2).2 hA 0, k63 t 0 (by omega)]
          exact w1
        · rw [(e3 t h1 h2).2 hA 1, k63 t 1 (by omega), w2]
          unfold zEn
          rw [y1]
        · rw [(c3 t h1 h2).1, if_neg (fun w => hA w.1)]
          exact w3
        · obtain ⟨dd, v1, v2, v3', v4⟩ := w4 w
          rw [y1, hold _ (by omega)]
          refine ⟨dd, v1, v2, by omega, fun j u1 u2 => ?_⟩
          by_cases ej : j = k + 1
          · rw [ej, zLf_s q4, if_neg hA]
            exact ⟨fun _ => v3', fun _ => w⟩
          · exact v4 j u1 (by omega)
        · rw [k61 t (by omega), x2]
          congr 2
          by_cases hl : zAv d f n 4 k t = 0
          · rw [if_pos ⟨hA, hl⟩, if_pos hl]
          · rw [if_neg (fun w => hl w.2), if_neg hl]
    · rw [(e2 _ (by omega) 12).1 (fun w2 => by obtain ⟨t', w3, w4, w5, w6⟩ := w2; omega)]
      exact a4
  · refine ⟨hs1, a4, hof24, fun t h1 h2 => ?_⟩
    obtain ⟨q1, q2, q3, q4⟩ := hin t h1 h2
    obtain ⟨x1, x2, x3⟩ := hb t h1 h2
    have hA : (k + 1) % d 0 t = 0 := by
      rw [hk1]
      exact (hst t h1 h2).1.2.2.1
    rw [hk1] at x1 x2
    rw [if_neg (fun w => w.1 (by rw [← hk1]; exact hA)), Nat.add_zero] at x2
    refine ⟨x1, x2, fun hz => ?_⟩
    have := hnone hz t h1 h2
    rw [hk1] at this
    exact this
end
