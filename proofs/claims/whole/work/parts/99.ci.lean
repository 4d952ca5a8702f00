/-! running: what both hold from tick to tick; spans end -/
def zXst (a j : Nat) : Prop := (a = 8 ∧ (j = 4 ∨ j = 6)) ∨ a = 11 ∨ a = 12 ∨ a = 13 ∨ (61 ≤ a ∧ a < 181 ∧ 2 ≤ (a - 61) % 5) ∨ (a = 194 ∧ 2 ≤ j ∧ j ≤ 8) ∨ (195 ≤ a ∧ a ≤ 202)
def zYst (a j : Nat) : Prop := (a = 203 ∧ 71 ≤ j ∧ j ≤ 77) ∨ (250 ≤ a ∧ a ≤ 263)
theorem zXst_g {μ μ' : xe_Mem} (g : zfG zXst zZu zZu μ μ') : zfG zXrun zYo zYo μ μ' := zfG_w g (fun a j w => by unfold zXst at w; unfold zXrun; omega) (fun _ _ w => absurd rfl w.2) (fun _ _ w => absurd rfl w.2)
theorem zYst_g {ν ν' : xe_Mem} (g : zfG zYst zZu zZu ν ν') : zfG zYrun zZo zZo ν ν' := zfG_w g (fun a j w => by unfold zYst at w; unfold zYrun; omega) (fun _ _ w => absurd rfl w.2) (fun _ _ w => absurd rfl w.2)
/-- what was told of a task -/
def zTo (t : Nat) (μ ν : xe_Mem) : Prop := xe_I μ (63 + 5 * t) 2 = xe_I ν 260 t ∧ (xe_I ν 260 t = -1 ∨ ∃ n, n ≤ 200 ∧ xe_I ν 260 t = nI n)
/-- what both hold, beside the runs at hand -/
def zRg (P T m k : Nat) (μ ν : xe_Mem) : Prop := (zSd P μ ν ∧ ∃ g, xe_sh μ = xv_S ++ g) ∧ (xe_I μ 194 2 = nI m ∧ xe_I ν 203 71 = nI m ∧ xe_I μ 194 3 = nI k ∧ xe_I ν 203 72 = nI k) ∧ (xe_I μ 194 4 = xe_I ν 203 73 ∧ xe_I μ 194 5 = xe_I ν 203 74 ∧ xe_I μ 194 6 = xe_I ν 203 75 ∧ xe_I μ 194 7 = xe_I ν 203 76 ∧ xe_I μ 194 8 = xe_I ν 203 77) ∧ (∀ j, j < 4 → xe_I μ 201 j = xe_I ν 257 j) ∧ (∀ j, j < 4 → xe_I μ 202 j = xe_I ν 258 j) ∧ ∀ t, t < T → zTo t μ ν
/-- a run at hand -/
def zRx (P en t : Nat) (μ ν : xe_Mem) : Prop := ∃ l sb, zRq P en l sb t μ ν
theorem z_skip {D : Nat → Nat → zO} : ∀ (r t G : Nat), (∀ G i, t ≤ i → i < t + r → D (G + 1) i = D G (i + 1)) → D (G + r) t = D G (t + r) := by
  intro r
  induction r with
  | zero => intro t G _; rfl
  | succ r ih =>
    intro t G h
    rw [show G + (r + 1) = (G + r) + 1 by omega, h (G + r) t (Nat.le_refl _) (by omega), ih (t + 1) G (fun G i h1 h2 => h G i (by omega) (by omega)), show t + 1 + r = t + (r + 1) by omega]
/-- what the reference does when the spans have ended -/
def zF187 (x71 : Int32) (m69 : xe_Mem) : zO := if x71 = 0 then zq_x (xe_I m69 203 71) 4 fun j72 => if (xe_I m69 203 72) = (xe_I m69 214 j72) then zD187_40 m69 else zD187_43 m69 else zD187_40 m69
def zr187 (ν : xe_Mem) : zO := zq_cI (zD189 ν) zF187
section
variable {P S M T Sw Sl m f n per k0 nk s s' t k : Nat} {d : Nat → Nat → Nat} {ns fm : Nat → Nat} {μ ν μ' ν' : xe_Mem}
theorem zVw_s (h : zVw P S M T Sw Sl m f n per k0 nk s s' d ns fm μ ν) (g1 : zfG zXst zZu zZu μ μ') (g2 : zfG zYst zZu zZu ν ν') : zVw P S M T Sw Sl m f n per k0 nk s s' d ns fm μ' ν' := zVw_k h (zXst_g g1) (zRt_G h.1.1 g1) (zYst_g g2)
theorem zHp_v {en l sb : Nat} (hV : zVw P S M T Sw Sl m f n per k0 nk s s' d ns fm μ ν) (h1 : f ≤ t) (h2 : t < f + n) (hs : zSd P μ ν) (hq : zRq P en l sb t μ ν) : ∃ ab, ab < 4096 ∧ zHp t P (d 2 t) l ab sb μ ν := by
  obtain ⟨hst, hti, -, -, ⟨hP, -, -, h74, h12, -⟩⟩ := hV
  obtain ⟨hR, -, -, ht, -⟩ := hst
  obtain ⟨-, ⟨-, u1, -⟩, ⟨-, v2, -⟩⟩ := ht t h1 h2
  obtain ⟨a, b, off, ab, ⟨a1, -⟩, ⟨x6, -⟩, hb, -⟩ := hti t h1 h2
  obtain ⟨⟨q1, q2, q3, q4⟩, ⟨q5, q6⟩, q7⟩ := hq
  exact ⟨ab, a1, hR, hs, ⟨u1, v2, q2, q1⟩, ⟨x6, q5, h74, h12⟩, fun p hp => ⟨hb p (by omega), q7 p hp⟩⟩
theorem z187s {G i : Nat} (h22 : xe_I ν 203 22 = nI T) (hi : i < T) (hT : T ≤ 24) (hn : ¬ xe_I ν 218 i = xe_I ν 203 71) : zD187_5 (G + 1) (nI i) ν = zD187_5 G (nI (i + 1)) ν := by
  show zD187_5_b (zD187_5 G) (nI i) ν = _
  unfold zD187_5_b zD187_27
  rw [h22, if_neg (nI_ge hi (by omega)), zx_nI (show i < 24 by omega) (by decide), if_neg hn, nI_1]
theorem zRx_k {en : Nat} {X Y : Nat → Nat → Prop} (h : zRx P en t μ ν) (ht : t < 24) (hP : P ≤ 12) (g1 : zfG X zZu zZu μ μ') (g2 : zfG Y zZu zZu ν ν') (hX : ∀ a j, 63 + 5 * t ≤ a → a ≤ 65 + 5 * t → ¬ (a = 63 + 5 * t ∧ j = 2) → ¬ X a j) (hY : ∀ a j, (a = 259 ∧ j = t) ∨ (261 ≤ a ∧ a ≤ 263 ∧ 12 * t ≤ j ∧ j < 12 * t + 12) → ¬ Y a j) : zRx P en t μ' ν' := by
  obtain ⟨l, sb, ⟨h1, h2, h3, h4⟩, ⟨h5, h6⟩, h7⟩ := h
  have k1 : ∀ a j, 63 + 5 * t ≤ a → a ≤ 65 + 5 * t → ¬ (a = 63 + 5 * t ∧ j = 2) → xe_I μ' a j = xe_I μ a j := fun a j q1 q2 q3 => (g1 a (by omega) j).1 (hX a j q1 q2 q3)
  have k2 : ∀ a j, (a = 259 ∧ j = t) ∨ (261 ≤ a ∧ a ≤ 263 ∧ 12 * t ≤ j ∧ j < 12 * t + 12) → xe_I ν' a j = xe_I ν a j := fun a j q => (g2 a (by omega) j).1 (hY a j q)
  refine ⟨l, sb, ⟨(k1 _ _ (by omega) (by omega) (by omega)).trans h1, (k2 _ _ (by omega)).trans h2, h3, (k1 _ _ (by omega) (by omega) (by omega)).trans h4⟩, ⟨(k1 _ _ (by omega) (by omega) (by omega)).trans h5, h6⟩, fun p hp => ?_⟩
  rw [k2 263 _ (by omega), k2 261 _ (by omega), k2 262 _ (by omega), k1 (65 + 5 * t) p (by omega) (by omega) (by omega), k1 (64 + 5 * t) p (by omega) (by omega) (by omega)]
  exact h7 p hp
/-- spans end in both -/
theorem z_ends (hV : zVw P S M T Sw Sl m f n per k0 nk s s' d ns fm μ ν) (hG : zRg P T m k μ ν) (hk : k ≤ per) (en : Nat → Nat) (hr : ∀ t, f ≤ t → t < f + n → zRx P (en t) t μ ν) : ∃ μ' ν', zD106 (17 + 11 * m) μ = some (.inl none, μ') ∧ zD187_5 zfu (nI 0) ν = zr187 ν' ∧ zVw P S M T Sw Sl m f n per k0 nk s s' d ns fm μ' ν' ∧ zRg P T m k μ' ν' ∧ (∀ t, f ≤ t → t < f + n → ¬ k % d 0 t = 0 → zRx P (en t) t μ' ν') ∧ zfG zXst zZu zZu μ μ' ∧ zfG zYst zZu zZu ν ν' := by
  have hz : zfu = 1000000000 := rfl
  have hl : ∀ (r i g G : Nat) (μ ν : xe_Mem), i + r = n → r < g → 30 < G → zVw P S M T Sw Sl m f n per k0 nk s s' d ns fm μ ν → zRg P T m k μ ν → (∀ t, f ≤ t → t < f + n → (¬ k % d 0 t = 0 ∨ f + i ≤ t) → zRx P (en t) t μ ν) → ∃ μ' ν', zD106_2 g (17 + 11 * m) (nI i) μ = some (.inl none, μ') ∧ zD187_5 (G + r) (nI (f + i)) ν = zr187 ν' ∧ zVw P S M T Sw Sl m f n per k0 nk s s' d ns fm μ' ν' ∧ zRg P T m k μ' ν' ∧ (∀ t, f ≤ t → t < f + n → ¬ k % d 0 t = 0 → zRx P (en t) t μ' ν') ∧ zfG zXst zZu zZu μ μ' ∧ zfG zYst zZu zZu ν ν' := by
    intro r
    induction r with
    | zero =>
      intro i g G μ ν hi hg hG' hV hG hr
      obtain ⟨g, rfl⟩ : ∃ k, g = k + 1 := ⟨g - 1, by omega⟩
      have : i = n := by omega
      subst this
      obtain ⟨hR, ⟨b1, b2, b3, b4, b5, b6⟩, ⟨c1, c2, c3⟩, ht, ⟨r1, r2, r3⟩⟩ := id hV.1
      obtain ⟨-, ⟨e1, e2, e3, e4⟩, -⟩ := id hG
      refine ⟨μ, ν, ?_, ?_, hV, hG, fun t w1 w2 w3 => hr t w1 w2 (Or.inl w3), zfG_r, zfG_r⟩
      · show zD106_2_b (zD106_2 g) _ (nI i) μ = _
        unfold zD106_2_b
        rw [zo_in (zS_mode m b1) (by omega), c1, if_pos (nI_le (Nat.le_refl _) (by omega))]
      · have e : zD187_5 ((G - 1 - (T - (f + i)) + 1) + (T - (f + i))) (nI (f + i)) ν = zD187_5 (G - 1 - (T - (f + i)) + 1) (nI (f + i + (T - (f + i)))) ν := z_skip (D := fun G i => zD187_5 G (nI i) ν) (T - (f + i)) (f + i) _ (fun G j w1 w2 => z187s r1 (by omega) b4 (by rw [e2]; exact r3 j (by omega) (by omega)))
        rw [show G + 0 = (G - 1 - (T - (f + i)) + 1) + (T - (f + i)) by omega, e, show f + i + (T - (f + i)) = T by omega]
        show zD187_5_b (zD187_5 _) (nI T) ν = _
        unfold zD187_5_b
        rw [r1, if_pos (nI_le (Nat.le_refl _) (by omega))]
        rfl
    | succ r ih =>
      intro i g G μ ν hi hg hG' hV hG hr
      obtain ⟨g, rfl⟩ : ∃ k, g = k + 1 := ⟨g - 1, by omega⟩
      obtain ⟨hR, ⟨b1, b2, b3, b4, b5, b6⟩, ⟨c1, c2, c3⟩, ht, ⟨r1, r2, r3⟩⟩ := id hV.1
      obtain ⟨⟨hsd, hsh⟩, ⟨e1, e2, e3, e4⟩, ⟨f1, f2, f3, f4, f5⟩, hs1, hs2, hto⟩ := id hG
      have hP : P ≤ 12 := hV.2.2.2.2.1
      have ht24 : f + i < 24 := by omega
      obtain ⟨⟨q1, q2, q3, q4, q5⟩, ⟨u0, u1, u2, -⟩, ⟨v1, v2, v3, -⟩⟩ := ht (f + i) (by omega) (by omega)
      have hmod : k % d 0 (f + i) ≤ k := Nat.mod_le _ _
      have hc : zD106_2 (g + 1) (17 + 11 * m) (nI i) μ = if k % d 0 (f + i) = 0 then zq_cV (zD107 (61 + 5 * (f + i)) μ) fun m20 => zD106_2 g (17 + 11 * m) (nI (i + 1)) m20 else zD106_2 g (17 + 11 * m) (nI (i + 1)) μ := by
        show zD106_2_b (zD106_2 g) _ (nI i) μ = _
        unfold zD106_2_b zD106_21
        rw [zo_in (zS_mode m b1) (by omega), c1, if_neg (nI_ge (by omega) (by omega)), hR _ _ _ (zR_m m b1).1, zs_some, za_in (zS_18 m b1).1 (by omega), zx_nI (show i < 6 by omega) (by decide), c3 i (by omega), zs_some, zo_in (zS_task (f + i) ht24) (by omega), u2, e3, zd_ok (nI_ne0 q1 (by omega)), zn_mod (by omega) (by omega), nI_1]
        by_cases e : k % d 0 (f + i) = 0
        · rw [if_pos (show nI (k % d 0 (f + i)) = 0 by rw [e]; rfl), if_pos e, zs_some, za_in (zS_18 m b1).1 (by omega), zx_nI (show i < 6 by omega) (by decide), c3 i (by omega), zs_some]
        · rw [if_neg (show ¬ nI (k % d 0 (f + i)) = 0 from nI_ne0 (by omega) (by omega)), if_neg e]
      have hrr : zD187_5 (G + (r + 1)) (nI (f + i)) ν = if k % d 0 (f + i) = 0 then zq_cV (zD188 (nI (f + i)) ν) fun m20 => zD187_5 (G + r) (nI (f + i + 1)) m20 else zD187_5 (G + r) (nI (f + i + 1)) ν := by
        show zD187_5_b (zD187_5 (G + r)) (nI (f + i)) ν = _
        unfold zD187_5_b zD187_27
        rw [r1, if_neg (nI_ge (by omega) (by omega)), zx_nI ht24 (by decide), v1, e2, if_pos rfl, zx_nI ht24 (by decide), v3, e4, zd_ok (nI_ne0 q1 (by omega)), zn_mod (by omega) (by omega), nI_1]
        by_cases e : k % d 0 (f + i) = 0
        · rw [if_pos (show nI (k % d 0 (f + i)) = 0 by rw [e]; rfl), if_pos e]
        · rw [if_neg (show ¬ nI (k % d 0 (f + i)) = 0 from nI_ne0 (by omega) (by omega)), if_neg e]
      by_cases e : k % d 0 (f + i) = 0
      · rw [if_pos e] at hc hrr
        obtain ⟨l, sb, hq⟩ := hr (f + i) (by omega) (by omega) (Or.inr (Nat.le_refl _))
        obtain ⟨ab, hab, hp⟩ := zHp_v hV (by omega) (by omega) hsd hq
        obtain ⟨μ1, ν1, a1, a2, a3, a4, a5, a6, a7⟩ := z_pub ht24 hP q5 hq.1.2.2.1 hab hq.2.1.2 hp u0 ⟨f2, f3⟩
        rw [a1, zcV_ok] at hc
        rw [a2, zcV_ok] at hrr
        have g1 : zfG zXst zZu zZu μ μ1 := zfG_w a5 (fun a j w => by unfold zXpu at w; unfold zXst; omega) (fun _ _ w => w) (fun _ _ w => w)
        have g2 : zfG zYst zZu zZu ν ν1 := zfG_w a6 (fun a j w => by unfold zYpu at w; unfold zYst; omega) (fun _ _ w => w) (fun _ _ w => w)
        have kc : ∀ a j, a < 265 → ¬ zXpu a j → xe_I μ1 a j = xe_I μ a j := fun a j w1 w2 => (a5 a w1 j).1 w2
        have kr : ∀ a j, a < 265 → ¬ zYpu (f + i) a j → xe_I ν1 a j = xe_I ν a j := fun a j w1 w2 => (a6 a w1 j).1 w2
        have c' : ∀ j, j ≠ 5 → j ≠ 6 → xe_I μ1 194 j = xe_I μ 194 j := fun j w1 w2 => kc 194 j (by decide) (by unfold zXpu; omega)
        have r' : ∀ j, j ≠ 74 → j ≠ 75 → xe_I ν1 203 j = xe_I ν 203 j := fun j w1 w2 => kr 203 j (by decide) (by unfold zYpu; omega)
        have hG1 : zRg P T m k μ1 ν1 := by
          refine ⟨⟨a3, by rw [a7]; exact hsh⟩, ⟨(c' 2 (by decide) (by decide)).trans e1, (r' 71 (by decide) (by decide)).trans e2, (c' 3 (by decide) (by decide)).trans e3, (r' 72 (by decide) (by decide)).trans e4⟩, ⟨?_, a4.1, a4.2, ?_, ?_⟩, fun j hj => ?_, fun j hj => ?_, fun t ht => ?_⟩
          · rw [c' 4 (by decide) (by decide), r' 73 (by decide) (by decide)]; exact f1
          · rw [c' 7 (by decide) (by decide), r' 76 (by decide) (by decide)]; exact f4
          · rw [c' 8 (by decide) (by decide), r' 77 (by decide) (by decide)]; exact f5
          · rw [kc 201 j (by decide) (by unfold zXpu; omega), kr 257 j (by decide) (by unfold zYpu; omega)]; exact hs1 j hj
          · rw [kc 202 j (by decide) (by unfold zXpu; omega), kr 258 j (by decide) (by unfold zYpu; omega)]; exact hs2 j hj
          · unfold zTo
            rw [kc (63 + 5 * t) 2 (by omega) (by unfold zXpu; omega), kr 260 t (by decide) (by unfold zYpu; omega)]; exact hto t ht
        obtain ⟨μ', ν', x1, x2, x3, x4, x5, x6, x7⟩ := ih (i + 1) g G μ1 ν1 (by omega) (by omega) hG' (zVw_s hV g1 g2) hG1 (fun t w1 w2 w3 => by
          have hne : t ≠ f + i := fun w => by subst w; rcases w3 with w3 | w3; exact w3 e; omega
          refine zRx_k (hr t w1 w2 (by rcases w3 with w3 | w3; exact Or.inl w3; exact Or.inr (by omega))) (by omega) hP a5 a6 (fun a j w4 w5 w6 w7 => by unfold zXpu at w7; omega) (fun a j w4 w5 => by unfold zYpu at w5; omega))
        exact ⟨μ', ν', hc.trans x1, hrr.trans x2, x3, x4, x5, zfG_t g1 x6, zfG_t g2 x7⟩
      · rw [if_neg e] at hc hrr
        obtain ⟨μ', ν', x1, x2, x3⟩ := ih (i + 1) g G μ ν (by omega) (by omega) hG' hV hG (fun t w1 w2 w3 => hr t w1 w2 (by
          rcases w3 with w3 | w3
          · exact Or.inl w3
          · exact Or.inr (by omega)))
        exact ⟨μ', ν', hc.trans x1, hrr.trans x2, x3⟩
  obtain ⟨hR, ⟨b1, b2, b3, b4, b5, b6⟩, ⟨c1, c2, c3⟩, ht, ⟨r1, r2, r3⟩⟩ := id hV.1
  obtain ⟨-, ⟨e1, e2, e3, e4⟩, -⟩ := id hG
  obtain ⟨μ', ν', x1, x2, x3⟩ := hl n 0 zfu (zfu - f - n) μ ν (by omega) (by omega) (by omega) hV hG (fun t w1 w2 _ => hr t w1 w2)
  refine ⟨μ', ν', x1, ?_, x3⟩
  have e : zD187_5 ((zfu - f - n + n) + f) (nI 0) ν = zD187_5 (zfu - f - n + n) (nI (0 + f)) ν := z_skip (D := fun G i => zD187_5 G (nI i) ν) f 0 _ (fun G j w1 w2 => z187s r1 (by omega) b4 (by rw [e2]; exact r3 j (by omega) (by omega)))
  rw [Nat.zero_add] at e
  have e9 : zD187_5 zfu (nI 0) ν = zD187_5 ((zfu - f - n + n) + f) (nI 0) ν := congrArg (fun q => zD187_5 q (nI 0) ν) (by omega)
  exact e9.trans (e.trans x2)
end
