/-! messages: the class counts those of a mode -/
theorem zR_62 : ∀ t, t < 24 → (xv_rt.getD (61 + 5 * t) []).lookup 10 = some (62 + 5 * t) ∧ (xv_rt.getD (61 + 5 * t) []).lookup 14 = some (63 + 5 * t) := by decide +kernel
theorem zS_62 : ∀ t, t < 24 → xv_S[62 + 5 * t]? = some (.inr (0, 12)) ∧ xv_S[63 + 5 * t]? = some (.inl 6) := by decide +kernel
def zXq1 (m t a j : Nat) : Prop := (a = 17 + 11 * m ∧ j = 10) ∨ (a = 61 + 5 * t ∧ (j = 11 ∨ j = 12)) ∨ a = 62 + 5 * t
def zXq (m f n a j : Nat) : Prop := (a = 17 + 11 * m ∧ j = 10) ∨ (∃ t, f ≤ t ∧ t < f + n ∧ ((a = 61 + 5 * t ∧ (j = 11 ∨ j = 12)) ∨ a = 62 + 5 * t))
/-- the ports that a task sends, in their order -/
def zSp2 (μ ν : xe_Mem) (T t P : Nat) : Prop := ∀ p, p < P → zSn ν T t p = true → xe_I μ (62 + 5 * t) (zct (zSn ν T t) p) = nI p
section
variable {μ ν : xe_Mem} {T P t m f n i per A : Nat} {c2 : Nat → Int32 → xe_Mem → zO}
theorem zTc_k {μ' : xe_Mem} (h : zTc T μ ν) (k : ∀ t j, t < T → j = 2 ∨ j = 6 ∨ j = 7 → xe_I μ' (61 + 5 * t) j = xe_I μ (61 + 5 * t) j) : zTc T μ' ν := fun t ht => by
  rw [k t 2 ht (by omega), k t 6 ht (by omega), k t 7 ht (by omega)]
  exact h t ht
theorem z69p (hR : zRt μ) (hm : m < 4) (ht : t < T) (hT : T ≤ 24) (hP : P ≤ 12) (h74 : xe_I μ 7 4 = nI P) (h77 : xe_I μ 7 7 = nI T) (hc : zTc T μ ν) {tm sp : Nat} (hsp : xe_I μ (61 + 5 * t) 3 = nI sp) (htm : tm * sp = per) (htm1 : 1 ≤ tm) (hsp1 : 1 ≤ sp) (hper : xe_I μ (17 + 11 * m) 1 = nI per) (h120 : per ≤ 120) : ∀ (r g p : Nat) (μ1 : xe_Mem), p + r = P → r < g → zfG (zXq1 m t) zZu zZu μ μ1 → xe_I μ1 (61 + 5 * t) 11 = nI (zct (zSn ν T t) p) → zSp2 μ1 ν T t p → xe_I μ1 (17 + 11 * m) 10 = nI A →
    ∃ μ2, zD69_13 c2 g (17 + 11 * m) (nI i) (61 + 5 * t) (nI p) μ1 = c2 (17 + 11 * m) (nI (i + 1)) μ2 ∧ zfG (zXq1 m t) zZu zZu μ μ2 ∧ xe_I μ2 (61 + 5 * t) 11 = nI (zNs ν T P t) ∧ xe_I μ2 (61 + 5 * t) 12 = nI A ∧ zSp2 μ2 ν T t P ∧ xe_I μ2 (17 + 11 * m) 10 = nI (A + tm * zNs ν T P t) := by
  intro r
  induction r with
  | zero =>
    intro g p μ1 hr hg G h11 hsp2 hA
    obtain ⟨g, rfl⟩ : ∃ k, g = k + 1 := ⟨g - 1, by omega⟩
    have hpP : p = P := by omega
    subst hpP
    have k3 : xe_I μ1 (61 + 5 * t) 3 = nI sp := ((G (61 + 5 * t) (by omega) 3).1 (fun w => by unfold zXq1 at w; omega)).trans hsp
    have k1 : xe_I μ1 (17 + 11 * m) 1 = nI per := ((G (17 + 11 * m) (by omega) 1).1 (fun w => by unfold zXq1 at w; omega)).trans hper
    have hsp120 : sp ≤ per := by
      have := Nat.div_le_self per sp
      have h1 : 1 * sp ≤ tm * sp := Nat.mul_le_mul_right sp htm1
      omega
    have hdiv : per / sp = tm := by rw [← htm]; exact Nat.mul_div_cancel _ hsp1
    refine ⟨xe_setI (xe_setI μ1 (61 + 5 * t) 12 (nI A)) (17 + 11 * m) 10 (nI (A + tm * zNs ν T p t)), ?_, zfG_t G (zfG_t (zfG_I (by unfold zXq1; omega)) (zfG_I (by unfold zXq1; omega))), ?_, ?_, fun q hq hs => ?_, xu_I⟩
    · show zD69_13_b c2 (zD69_13 c2 g) (17 + 11 * m) (nI i) (61 + 5 * t) (nI p) μ1 = _
      unfold zD69_13_b
      rw [(G 7 (by decide) 4).1 (fun w => by unfold zXq1 at w; omega), h74, if_pos (nI_le (by omega) (by omega)), zo_in (zS_mode m hm) (by omega), zo_in (zS_task t (by omega)) (by omega), hA]
      simp only [zq_m]
      rw [show xe_I (xe_setI μ1 (61 + 5 * t) 12 (nI A)) (61 + 5 * t) 3 = nI sp from (xu_In (by omega)).trans k3, zd_ok (nI_ne0 hsp1 (by omega)), show xe_I (xe_setI μ1 (61 + 5 * t) 12 (nI A)) (17 + 11 * m) 10 = nI A from (xu_In (by omega)).trans hA, show xe_I (xe_setI μ1 (61 + 5 * t) 12 (nI A)) (17 + 11 * m) 1 = nI per from (xu_In (by omega)).trans k1, show xe_I (xe_setI μ1 (61 + 5 * t) 12 (nI A)) (61 + 5 * t) 11 = _ from (xu_In (by omega)).trans h11, zn_div (by omega) (by omega), hdiv, zn_mul, nI_add, nI_1]
      rfl
    · rw [xu_In (by omega), xu_In (by omega)]
      exact h11
    · rw [xu_In (by omega)]
      exact xu_I
    · rw [xu_In (by omega), xu_In (by omega)]
      exact hsp2 q hq hs
  | succ r ih =>
    intro g p μ1 hr hg G h11 hsp2 hA
    obtain ⟨g, rfl⟩ : ∃ k, g = k + 1 := ⟨g - 1, by omega⟩
    have ht24 : t < 24 := by omega
    have hR1 := zRt_G hR G
    have gk : ∀ a j, a < 265 → ¬ zXq1 m t a j → xe_I μ1 a j = xe_I μ a j := fun a j q1 q2 => (G a q1 j).1 q2
    have hc1 : zTc T μ1 ν := zTc_k hc (fun k j hk hj => gk _ j (by omega) (fun w => by unfold zXq1 at w; omega))
    obtain ⟨q1, q2⟩ := hc1 t ht
    have hle := zct_le (g := zSn ν T t) p
    have hbit := (q2 p (by omega)).2
    have hel := z70 (t := t) (p := p) (v2 := xe_I μ1 (61 + 5 * t) 2) hR1 ((gk 7 7 (by decide) (fun w => by unfold zXq1 at w; omega)).trans h77) hT hc1 (by omega) q1
    have hstep : zD69_13 c2 (g + 1) (17 + 11 * m) (nI i) (61 + 5 * t) (nI p) μ1 = if zSn ν T t p = true then zD69_13 c2 g (17 + 11 * m) (nI i) (61 + 5 * t) (nI (p + 1)) (xe_setI (xe_setI μ1 (62 + 5 * t) (zct (zSn ν T t) p) (nI p)) (61 + 5 * t) 11 (nI (zct (zSn ν T t) p + 1))) else zD69_13 c2 g (17 + 11 * m) (nI i) (61 + 5 * t) (nI (p + 1)) μ1 := by
      show zD69_13_b c2 (zD69_13 c2 g) (17 + 11 * m) (nI i) (61 + 5 * t) (nI p) μ1 = _
      unfold zD69_13_b zD69_42
      rw [gk 7 4 (by decide) (fun w => by unfold zXq1 at w; omega), h74, if_neg (nI_ge (by omega) (by omega)), zo_in (zS_task t ht24) (by omega), nI_1]
      by_cases h0 : xe_I ν 227 (12 * t + p) = 0
      · have hn : ¬ zSn ν T t p = true := fun w => by
          unfold zSn at w
          rw [Bool.and_eq_true] at w
          exact (of_decide_eq_true w.2) h0
        rw [if_pos (hbit.mpr h0), if_neg hn]
      · rw [if_neg (fun w => h0 (hbit.mp w)), hel, zcI_ok]
        cases hz : (!(zall (fun k => decide (xe_I ν 219 k = xe_I ν 219 t ∨ xe_I ν 226 (12 * k + p) = 0)) T 0)) with
        | false =>
          have hn : ¬ zSn ν T t p = true := fun w => by
            unfold zSn at w
            rw [hz, Bool.false_and] at w
            cases w
          rw [if_pos (show zb01 false = 0 by decide), if_neg hn]
        | true =>
          have hn : zSn ν T t p = true := by
            unfold zSn
            rw [hz, Bool.true_and]
            exact decide_eq_true h0
          rw [if_neg (show ¬ zb01 true = 0 by decide), if_pos hn, hR1 _ _ _ (zR_62 t ht24).1, zs_some, za_in (zS_62 t ht24).1 (by omega), h11, zx_nI (show zct (zSn ν T t) p < 12 by omega) (by decide)]
          simp only [zq_m]
          rw [show xe_I (xe_setI μ1 (62 + 5 * t) (zct (zSn ν T t) p) (nI p)) (61 + 5 * t) 11 = _ from (xu_In (by omega)).trans h11, nI_1]
    rw [hstep]
    cases hg2 : zSn ν T t p with
    | true =>
      rw [if_pos rfl]
      refine ih g (p + 1) _ (by omega) (by omega) (zfG_t G (zfG_t (zfG_I (by unfold zXq1; omega)) (zfG_I (by unfold zXq1; omega)))) ?_ (fun q hq hs => ?_) ?_
      · rw [zct_s.2.1 hg2]
        exact xu_I
      · rw [xu_In (by omega)]
        by_cases e : q = p
        · rw [e]
          exact xu_I
        · have := zct_l (g := zSn ν T t) (show q < p by omega) hs
          rw [xu_In (by omega)]
          exact hsp2 q (by omega) hs
      · rw [xu_In (by omega), xu_In (by omega)]
        exact hA
    | false =>
      rw [if_neg (by decide)]
      refine ih g (p + 1) _ (by omega) (by omega) G ?_ (fun q hq hs => ?_) hA
      · rw [zct_s.2.2 hg2]
        exact h11
      · by_cases e : q = p
        · rw [e, hg2] at hs
          cases hs
        · exact hsp2 q (by omega) hs
/-- what both know of the tasks of a mode -/
def zTm2 (μ ν : xe_Mem) (m f n per : Nat) : Prop := ∀ t, f ≤ t → t < f + n → ∃ tm sp w nd, (1 ≤ tm ∧ 1 ≤ sp ∧ tm * sp = per ∧ w ≤ 200 ∧ nd < 4) ∧ (xe_I μ (61 + 5 * t) 2 = nI nd ∧ xe_I μ (61 + 5 * t) 3 = nI sp ∧ xe_I μ (61 + 5 * t) 4 = nI w) ∧ (xe_I ν 218 t = nI m ∧ xe_I ν 219 t = nI nd ∧ xe_I ν 220 t = nI tm ∧ xe_I ν 221 t = nI sp ∧ xe_I ν 222 t = nI w)
theorem z69 (hR : zRt μ) (hm : m < 4) (hT : T ≤ 24) (hP : P ≤ 12) (h74 : xe_I μ 7 4 = nI P) (h77 : xe_I μ 7 7 = nI T) (hc : zTc T μ ν) (hper : xe_I μ (17 + 11 * m) 1 = nI per) (h120 : per ≤ 120) (hs : xe_I μ (17 + 11 * m) 3 = nI n) (hn : n ≤ 6) (hfn : f + n ≤ T) (hr18 : ∀ i, i < n → xe_R μ (18 + 11 * m) i = some (61 + 5 * (f + i))) (htm : zTm2 μ ν m f n per) (h10 : xe_I μ (17 + 11 * m) 10 = 0) (h11 : ∀ t, f ≤ t → t < f + n → xe_I μ (61 + 5 * t) 11 = 0) (hlow : ∀ k, k < f → ¬ xe_I ν 218 k = nI m) :
    ∃ μ', zD69 (17 + 11 * m) μ = some (.inl none, μ') ∧ zfG (zXq m f n) zZu zZu μ μ' ∧ (∀ t, f ≤ t → t < f + n → xe_I μ' (61 + 5 * t) 11 = nI (zNs ν T P t) ∧ xe_I μ' (61 + 5 * t) 12 = nI (zFm ν T P t) ∧ zSp2 μ' ν T t P) ∧ xe_I μ' (17 + 11 * m) 10 = nI (zsm (zHm ν T P m) (f + n)) := by
  have h0 : zsm (zHm ν T P m) f = 0 := by
    have : ∀ k, k ≤ f → zsm (zHm ν T P m) k = 0 := by
      intro k
      induction k with
      | zero => intro _; rfl
      | succ k ih =>
        intro hk
        show zsm (zHm ν T P m) k + zHm ν T P m k = 0
        rw [ih (by omega)]
        unfold zHm
        rw [if_neg (hlow k (by omega))]
    exact this f (Nat.le_refl _)
  have hfm : ∀ t, f ≤ t → t < f + n → zFm ν T P t = zsm (zHm ν T P m) t := fun t h1 h2 => by
    obtain ⟨tm, sp, w, nd, -, -, r1, -⟩ := htm t h1 h2
    unfold zFm
    refine zsm_c t (fun k hk => ?_)
    unfold zHm
    rw [r1]
  have hl : ∀ (r g i : Nat) (μ1 : xe_Mem), i + r = n → r < g → zfG (zXq m f n) zZu zZu μ μ1 → (∀ t, f ≤ t → t < f + i → xe_I μ1 (61 + 5 * t) 11 = nI (zNs ν T P t) ∧ xe_I μ1 (61 + 5 * t) 12 = nI (zFm ν T P t) ∧ zSp2 μ1 ν T t P) → (∀ t, f + i ≤ t → t < f + n → xe_I μ1 (61 + 5 * t) 11 = 0) → xe_I μ1 (17 + 11 * m) 10 = nI (zsm (zHm ν T P m) (f + i)) →
      ∃ μ', zD69_2 g (17 + 11 * m) (nI i) μ1 = some (.inl none, μ') ∧ zfG (zXq m f n) zZu zZu μ μ' ∧ (∀ t, f ≤ t → t < f + n → xe_I μ' (61 + 5 * t) 11 = nI (zNs ν T P t) ∧ xe_I μ' (61 + 5 * t) 12 = nI (zFm ν T P t) ∧ zSp2 μ' ν T t P) ∧ xe_I μ' (17 + 11 * m) 10 = nI (zsm (zHm ν T P m) (f + n)) := by
    intro r
    induction r with
    | zero =>
      intro g i μ1 hr hg G q1 q2 q3
      obtain ⟨g, rfl⟩ : ∃ k, g = k + 1 := ⟨g - 1, by omega⟩
      have hi : i = n := by omega
      subst hi
      refine ⟨μ1, ?_, G, q1, q3⟩
      show zD69_2_b (zD69_2 g) (17 + 11 * m) (nI i) μ1 = _
      unfold zD69_2_b
      rw [zo_in (zS_mode m hm) (by omega), (G (17 + 11 * m) (by omega) 3).1 (fun w => by rcases w with w | ⟨t, w1, w2, w3⟩ <;> omega), hs, if_pos (nI_le (by omega) (by omega))]
    | succ r ih =>
      intro g i μ1 hr hg G q1 q2 q3
      obtain ⟨g, rfl⟩ : ∃ k, g = k + 1 := ⟨g - 1, by omega⟩
      have hR1 := zRt_G hR G
      have gk : ∀ a j, a < 265 → ¬ zXq m f n a j → xe_I μ1 a j = xe_I μ a j := fun a j w1 w2 => (G a w1 j).1 w2
      obtain ⟨tm, sp, w, nd, ⟨u1, u2, u3, u4, u5⟩, ⟨v1, v2, v3⟩, ⟨x1, x2, x3, x4, x5⟩⟩ := htm (f + i) (by omega) (by omega)
      have hstep : zD69_2 (g + 1) (17 + 11 * m) (nI i) μ1 = zD69_13 (zD69_2 g) zfu (17 + 11 * m) (nI i) (61 + 5 * (f + i)) (nI 0) μ1 := by
        show zD69_2_b (zD69_2 g) (17 + 11 * m) (nI i) μ1 = _
        unfold zD69_2_b
        rw [zo_in (zS_mode m hm) (by omega), gk (17 + 11 * m) 3 (by omega) (fun w => by rcases w with w | ⟨t, w1, w2, w3⟩ <;> omega), hs, if_neg (nI_ge (by omega) (by omega)), hR1 _ _ _ (zR_m m hm).1, zs_some, za_in (zS_18 m hm).1 (by omega), zx_nI (show i < 6 by omega) (by decide), (G (18 + 11 * m) (by omega) i).2.2 (fun w => w.2 rfl), hr18 i (by omega), zs_some]
        rfl
      obtain ⟨μ2, a1, a2, a3, a4, a5, a6⟩ := z69p (c2 := zD69_2 g) (i := i) (A := zsm (zHm ν T P m) (f + i)) (ν := ν) (t := f + i) (m := m) (per := per) (T := T) (P := P) (tm := tm) (sp := sp) hR1 hm (by omega) hT hP ((gk 7 4 (by decide) (fun w => by rcases w with w | ⟨t, w1, w2, w3⟩ <;> omega)).trans h74) ((gk 7 7 (by decide) (fun w => by rcases w with w | ⟨t, w1, w2, w3⟩ <;> omega)).trans h77) (zTc_k hc (fun k j hk hj => gk _ j (by omega) (fun w => by rcases w with w | ⟨t, w1, w2, w3⟩ <;> omega))) ((gk _ 3 (by omega) (fun w => by rcases w with w | ⟨t, w1, w2, w3⟩ <;> omega)).trans v2) u3 u1 u2 ((gk _ 1 (by omega) (fun w => by rcases w with w | ⟨t, w1, w2, w3⟩ <;> omega)).trans hper) h120 P zfu 0 μ1 (by omega) (zfu_lt (by omega)) zfG_r (q2 (f + i) (by omega) (by omega)) (fun p hp => absurd hp (by omega)) q3
      rw [hstep, a1]
      have ha2 : ∀ t j, t ≠ f + i → t < 24 → xe_I μ2 (61 + 5 * t) j = xe_I μ1 (61 + 5 * t) j ∧ xe_I μ2 (62 + 5 * t) j = xe_I μ1 (62 + 5 * t) j := fun t j w1 w2 => ⟨(a2 _ (by omega) j).1 (fun w => by unfold zXq1 at w; omega), (a2 _ (by omega) j).1 (fun w => by unfold zXq1 at w; omega)⟩
      refine ih g (i + 1) μ2 (by omega) (by omega) (zfG_t G (zfG_w a2 (fun a j q => ?_) (fun a j q => q) (fun a j q => q))) (fun t w1 w2 => ?_) (fun t w1 w2 => ?_) ?_
      · unfold zXq1 at q
        rcases q with q | q | q
        · exact Or.inl q
        · exact Or.inr ⟨f + i, by omega, by omega, Or.inl q⟩
        · exact Or.inr ⟨f + i, by omega, by omega, Or.inr q⟩
      · by_cases e : t = f + i
        · rw [e]
          exact ⟨a3, by rw [a4, hfm (f + i) (by omega) (by omega)], a5⟩
        · obtain ⟨y1, y2, y3⟩ := q1 t w1 (by omega)
          refine ⟨(ha2 t 11 e (by omega)).1.trans y1, (ha2 t 12 e (by omega)).1.trans y2, fun p hp hs2 => (ha2 t _ e (by omega)).2.trans (y3 p hp hs2)⟩
      · rw [(ha2 t 11 (by omega) (by omega)).1]
        exact q2 t (by omega) w2
      · rw [a6]
        congr 1
        show _ = zsm (zHm ν T P m) (f + i) + zHm ν T P m (f + i)
        unfold zHm
        rw [if_pos x1, x3, zn_n (by
          have : tm * 1 ≤ tm * sp := Nat.mul_le_mul_left tm u2
          omega)]
  exact hl n zfu 0 μ (by omega) (zfu_lt (by omega)) zfG_r (fun t h1 h2 => absurd h1 (by omega)) (fun t h1 h2 => h11 t (by omega) h2) (by rw [h10, Nat.add_zero, h0]; rfl)
end
