/-! running: the nodes of a tick -/
def zcnd (μ : xe_Mem) (v t l : Nat) : xe_Mem := xe_setI (xe_setI (xe_setI μ 202 v (nI t)) (63 + 5 * t) 0 (nI (l - 1))) 194 8 (xe_I μ 194 8 + (if l = 1 then 1 else 0))
def zrnd (ν : xe_Mem) (v t l : Nat) : xe_Mem := if l = 1 then xe_setI (xe_setI (xe_setI ν 258 v (nI t)) 259 t (nI (l - 1))) 203 77 (xe_I ν 203 77 + 1) else xe_setI (xe_setI ν 258 v (nI t)) 259 t (nI (l - 1))
section
variable {P S M T Sw Sl m f n per k0 nk s s' t k v l : Nat} {d : Nat → Nat → Nat} {ns fm : Nat → Nat} {μ ν μ' ν' : xe_Mem}
theorem zRg_n (h : zRg P T m k μ ν) (hT : T ≤ 24) (ht : t < 24) (hv : v < 4) : zRg P T m k (zcnd μ v t l) (zrnd ν v t l) := by
  obtain ⟨⟨⟨s1, s2⟩, hsh0⟩, ⟨e1, e2, e3, e4⟩, ⟨f1, f2, f3, f4, f5⟩, hs1, hs2, hto⟩ := h
  have c : ∀ a j, ¬ (a = 63 + 5 * t ∧ j = 0) → ¬ (a = 194 ∧ j = 8) → ¬ (a = 202 ∧ j = v) → xe_I (zcnd μ v t l) a j = xe_I μ a j := fun a j w1 w2 w3 => by
    unfold zcnd
    rw [xu_In w2, xu_In w1, xu_In w3]
  have r : ∀ a j, ¬ (a = 259 ∧ j = t) → ¬ (a = 203 ∧ j = 77) → ¬ (a = 258 ∧ j = v) → xe_I (zrnd ν v t l) a j = xe_I ν a j := fun a j w1 w2 w3 => by
    unfold zrnd
    split
    · rw [xu_In w2, xu_In w1, xu_In w3]
    · rw [xu_In w1, xu_In w3]
  refine ⟨⟨⟨fun p hp => ?_, fun n hn p hp => ?_⟩, hsh0⟩, ⟨?_, ?_, ?_, ?_⟩, ⟨?_, ?_, ?_, ?_, ?_⟩, fun j hj => ?_, fun j hj => ?_, fun t' ht' => ?_⟩
  · rw [c 195 p (by omega) (by omega) (by omega), r 255 p (by omega) (by omega) (by omega)]; exact s1 p hp
  · rw [c (197 + n) p (by omega) (by omega) (by omega), r 256 _ (by omega) (by omega) (by omega)]; exact s2 n hn p hp
  · rw [c 194 _ (by omega) (by omega) (by omega)]; exact e1
  · rw [r 203 _ (by omega) (by omega) (by omega)]; exact e2
  · rw [c 194 _ (by omega) (by omega) (by omega)]; exact e3
  · rw [r 203 _ (by omega) (by omega) (by omega)]; exact e4
  · rw [c 194 _ (by omega) (by omega) (by omega), r 203 _ (by omega) (by omega) (by omega)]; exact f1
  · rw [c 194 _ (by omega) (by omega) (by omega), r 203 _ (by omega) (by omega) (by omega)]; exact f2
  · rw [c 194 _ (by omega) (by omega) (by omega), r 203 _ (by omega) (by omega) (by omega)]; exact f3
  · rw [c 194 _ (by omega) (by omega) (by omega), r 203 _ (by omega) (by omega) (by omega)]; exact f4
  · unfold zcnd zrnd
    rw [xu_I]
    by_cases w : l = 1
    · rw [if_pos w, if_pos w, xu_I, f5]
    · rw [if_neg w, if_neg w, xu_In (by omega), xu_In (by omega), f5]
      exact Int32.add_zero _
  · rw [c 201 j (by omega) (by omega) (by omega), r 257 j (by omega) (by omega) (by omega)]; exact hs1 j hj
  · by_cases w : j = v
    · subst w
      have h1 : xe_I (zcnd μ j t l) 202 j = nI t := by
        unfold zcnd
        rw [xu_In (by omega), xu_In (by omega), xu_I]
      have h2 : xe_I (zrnd ν j t l) 258 j = nI t := by
        unfold zrnd
        split
        · rw [xu_In (by omega), xu_In (by omega), xu_I]
        · rw [xu_In (by omega), xu_I]
      rw [h1, h2]
    · rw [c 202 j (by omega) (by omega) (by omega), r 258 j (by omega) (by omega) (by omega)]; exact hs2 j hj
  · unfold zTo
    rw [c (63 + 5 * t') 2 (by omega) (by omega) (by omega), r 260 t' (by omega) (by omega) (by omega)]; exact hto t' ht'
theorem zRg_i (h : zRg P T m k μ ν) (hT : T ≤ 24) : zRg P T m k (xe_setI μ 202 v (-1)) (xe_setI ν 258 v (-1)) := by
  obtain ⟨⟨⟨s1, s2⟩, hsh0⟩, ⟨e1, e2, e3, e4⟩, ⟨f1, f2, f3, f4, f5⟩, hs1, hs2, hto⟩ := h
  have c : ∀ a j, a ≠ 202 → xe_I (xe_setI μ 202 v (-1)) a j = xe_I μ a j := fun a j w => xu_In (by omega)
  have r : ∀ a j, a ≠ 258 → xe_I (xe_setI ν 258 v (-1)) a j = xe_I ν a j := fun a j w => xu_In (by omega)
  refine ⟨⟨⟨fun p hp => ?_, fun n hn p hp => ?_⟩, hsh0⟩, ⟨?_, ?_, ?_, ?_⟩, ⟨?_, ?_, ?_, ?_, ?_⟩, fun j hj => ?_, fun j hj => ?_, fun t' ht' => ?_⟩
  · rw [c 195 p (by omega), r 255 p (by omega)]; exact s1 p hp
  · rw [c (197 + n) p (by omega), r 256 _ (by omega)]; exact s2 n hn p hp
  · rw [c 194 _ (by omega)]; exact e1
  · rw [r 203 _ (by omega)]; exact e2
  · rw [c 194 _ (by omega)]; exact e3
  · rw [r 203 _ (by omega)]; exact e4
  · rw [c 194 _ (by omega), r 203 _ (by omega)]; exact f1
  · rw [c 194 _ (by omega), r 203 _ (by omega)]; exact f2
  · rw [c 194 _ (by omega), r 203 _ (by omega)]; exact f3
  · rw [c 194 _ (by omega), r 203 _ (by omega)]; exact f4
  · rw [c 194 _ (by omega), r 203 _ (by omega)]; exact f5
  · rw [c 201 j (by omega), r 257 j (by omega)]; exact hs1 j hj
  · by_cases w : j = v
    · subst w; rw [xu_I, xu_I]
    · rw [xu_In (by omega), xu_In (by omega)]; exact hs2 j hj
  · unfold zTo
    rw [c (63 + 5 * t') 2 (by omega), r 260 t' (by omega)]; exact hto t' ht'
theorem zRg_t (h : zRg P T m k μ ν) : zRg P T m (k + 1) (xe_setI μ 194 3 (xe_I μ 194 3 + 1)) (xe_setI ν 203 72 (xe_I ν 203 72 + 1)) := by
  obtain ⟨⟨⟨s1, s2⟩, hsh0⟩, ⟨e1, e2, e3, e4⟩, ⟨f1, f2, f3, f4, f5⟩, hs1, hs2, hto⟩ := h
  have c : ∀ (x : Int32) a j, ¬ (a = 194 ∧ j = 3) → xe_I (xe_setI μ 194 3 x) a j = xe_I μ a j := fun x a j w => xu_In w
  have r : ∀ (x : Int32) a j, ¬ (a = 203 ∧ j = 72) → xe_I (xe_setI ν 203 72 x) a j = xe_I ν a j := fun x a j w => xu_In w
  refine ⟨⟨⟨fun p hp => ?_, fun n hn p hp => ?_⟩, hsh0⟩, ⟨?_, ?_, ?_, ?_⟩, ⟨?_, ?_, ?_, ?_, ?_⟩, fun j hj => ?_, fun j hj => ?_, fun t ht => ?_⟩
  · rw [c _ 195 p (by omega), r _ 255 p (by omega)]; exact s1 p hp
  · rw [c _ (197 + n) p (by omega), r _ 256 _ (by omega)]; exact s2 n hn p hp
  · rw [c _ 194 2 (by omega)]; exact e1
  · rw [r _ 203 71 (by omega)]; exact e2
  · rw [xu_I, e3, nI_1]
  · rw [xu_I, e4, nI_1]
  · rw [c _ 194 4 (by omega), r _ 203 73 (by omega)]; exact f1
  · rw [c _ 194 5 (by omega), r _ 203 74 (by omega)]; exact f2
  · rw [c _ 194 6 (by omega), r _ 203 75 (by omega)]; exact f3
  · rw [c _ 194 7 (by omega), r _ 203 76 (by omega)]; exact f4
  · rw [c _ 194 8 (by omega), r _ 203 77 (by omega)]; exact f5
  · rw [c _ 201 j (by omega), r _ 257 j (by omega)]; exact hs1 j hj
  · rw [c _ 202 j (by omega), r _ 258 j (by omega)]; exact hs2 j hj
  · unfold zTo
    rw [c _ (63 + 5 * t) 2 (by omega), r _ 260 t (by omega)]; exact hto t ht
/-- a node's turn in both -/
theorem z_turn1 (hV : zVw P S M T Sw Sl m f n per k0 nk s s' d ns fm μ ν) (hG : zRg P T m k μ ν) (hk : k < per) (hr : ∀ t, f ≤ t → t < f + n → zRx P (zEn d k t) t μ ν) (hv : v < 4) : ∃ μ' ν', zD119 (nI v) μ = some (.inl none, μ') ∧ (∀ G, zD187_104 (G + 1) (nI v) ν = zD187_104 G (nI (v + 1)) ν') ∧ zRg P T m k μ' ν' ∧ (∀ t, f ≤ t → t < f + n → zRx P (zEn d k t) t μ' ν') ∧ zfG zXst zZu zZu μ μ' ∧ zfG zYst zZu zZu ν ν' := by
  have hP : P ≤ 12 := hV.2.2.2.2.1
  obtain ⟨hR, ⟨b1, b2, b3, b4, b5, b6⟩, ⟨c1, c2, c3⟩, htt, ⟨r1, r2, r3⟩⟩ := id hV.1
  obtain ⟨-, ⟨e1, e2, e3, e4⟩, -⟩ := id hG
  obtain ⟨L, hL⟩ : ∃ L : Nat → Nat, ∀ t, L t = zn (xe_I ν 259 t) := ⟨_, fun _ => rfl⟩
  have hq : ∀ t, f ≤ t → t < f + n → xe_I μ (63 + 5 * t) 0 = nI (L t) ∧ xe_I ν 259 t = nI (L t) ∧ L t ≤ 200 ∧ xe_I μ (63 + 5 * t) 1 = nI (zEn d k t) := fun t h1 h2 => by
    obtain ⟨l, sb, ⟨q1, q2, q3, q4⟩, -⟩ := hr t h1 h2
    have e : L t = l := by rw [hL, q2, zn_n (by omega)]
    rw [e]
    exact ⟨q1, q2, q3, q4⟩
  have h78 := z78 (μ := μ) (m := m) (f := f) (n := n) (v := v) (nd := d 2) (l := L) (en := zEn d k) hR b1 c1 b2 (by omega) hv c3 (fun t h1 h2 => by
    obtain ⟨⟨q1, q2, q3, q4, q5⟩, ⟨u0, u1, u2, u3, u4, u5⟩, -⟩ := htt t h1 h2
    obtain ⟨w1, w2, w3, w4⟩ := hq t h1 h2
    exact ⟨q5, w3, zEn_lt (Or.inr trivial) q1 (by omega) (by omega), u1, w1, w4⟩)
  have h172 := z172 (ν := ν) (m := m) (T := T) (v := v) (k := k) (nd := d 2) (l := L) (sp := d 0) r1 b4 b1 hv (by omega) (fun t h1 h2 => by
    have hin : f ≤ t ∧ t < f + n := by
      by_cases w : f ≤ t ∧ t < f + n
      · exact w
      · exact absurd h2 (r3 t h1 w)
    obtain ⟨⟨q1, q2, q3, q4, q5⟩, -, ⟨v1, v2, v3, v4, -⟩⟩ := htt t hin.1 hin.2
    obtain ⟨w1, w2, w3, w4⟩ := hq t hin.1 hin.2
    exact ⟨q5, w3, q1, by omega, v2, w2, v3⟩)
  have hpk : zpk (fun t => decide (xe_I ν 218 t = nI m) && (decide (d 2 t = v) && decide (0 < L t))) (fun t => (k / d 0 t + 1) * d 0 t) 0 T = zpk (fun t => decide (d 2 t = v) && decide (0 < L t)) (zEn d k) f n := by
    have hout : ∀ t, t < T → ¬ (f ≤ t ∧ t < f + n) → (decide (xe_I ν 218 t = nI m) && (decide (d 2 t = v) && decide (0 < L t))) = false := fun t h1 h2 => by
      rw [decide_eq_false (r3 t h1 h2), Bool.false_and]
    rw [show T = f + n + (T - (f + n)) by omega, zpk_e (T - (f + n)) (fun t h1 h2 => hout t (by omega) (by omega)), zpk_a (fun t h1 => hout t (by omega) (by omega)) n]
    refine zpk_c n (fun t h1 h2 => ⟨?_, rfl⟩)
    rw [decide_eq_true (htt t h1 h2).2.2.1, Bool.true_and]
  rw [hpk] at h172
  have hc0 : zD119 (nI v) μ = zq_n (zoa (zpk (fun t => decide (d 2 t = v) && decide (0 < L t)) (zEn d k) f n)) (zD119_18 none (nI v) (-1) μ) fun b10 => zq_o b10 8 <| zD119_18 (some b10) (nI v) (xe_I μ b10 0) μ := by
    unfold zD119
    rw [e1, zx_nI b1 (by decide), hR _ _ _ (zR_15 m b1), zs_some, zo_in (zS_mode m b1) (by omega), h78, zcO_ok]
  have hr0 : ∀ G, zD187_104 (G + 1) (nI v) ν = zq_x (nI v) 4 fun j6 => zq_m (xe_setI ν 258 j6 (zoi (zpk (fun t => decide (d 2 t = v) && decide (0 < L t)) (zEn d k) f n))) fun m10 => zq_x (nI v) 4 fun j12 => if 0 ≤ (xe_I m10 258 j12) then zq_x (nI v) 4 fun j16 => zq_x (xe_I m10 258 j16) 24 fun j20 => zq_x (xe_I m10 258 j16) 24 fun j24 => zq_m (xe_setI m10 259 j24 ((xe_I m10 259 j20) - 1)) fun m28 => zq_x (nI v) 4 fun j30 => zq_x (xe_I m28 258 j30) 24 fun j34 => if (xe_I m28 259 j34) = 0 then zq_m (xe_setI m28 203 77 ((xe_I m28 203 77) + 1)) fun m38 => zD187_149 (zD187_104 G) (nI v) m38 else zD187_149 (zD187_104 G) (nI v) m28 else zD187_149 (zD187_104 G) (nI v) m10 := fun G => by
    show zD187_104_b (zD187_104 G) (nI v) ν = _
    unfold zD187_104_b
    rw [if_neg (show ¬ (4 : Int32) ≤ nI v from nI_ge (b := 4) hv (by decide)), e2, e4, h172, zcI_ok]
  cases hzz : zpk (fun t => decide (d 2 t = v) && decide (0 < L t)) (zEn d k) f n with
  | none =>
    rw [hzz] at hc0 hr0
    refine ⟨xe_setI μ 202 v (-1), xe_setI ν 258 v (-1), ?_, fun G => ?_, zRg_i hG b4, fun t h1 h2 => ?_, zfG_I (by unfold zXst; omega), zfG_I (by unfold zYst; omega)⟩
    · rw [hc0]
      show zD119_18 none (nI v) (-1) μ = _
      unfold zD119_18 zD119_40
      rw [zx_nI hv (by decide)]
      rfl
    · rw [hr0 G, zx_nI hv (by decide)]
      simp only [zq_m]
      rw [zx_nI hv (by decide), xu_I, if_neg (show ¬ (0 : Int32) ≤ zoi none by decide)]
      unfold zD187_149
      rw [nI_1]
      rfl
    · exact zRx_k (X := fun a j => a = 202 ∧ j = j) (Y := fun a j => a = 258 ∧ j = j) (hr t h1 h2) (by omega) hP (zfG_I ⟨rfl, rfl⟩) (zfG_I ⟨rfl, rfl⟩) (fun a j w4 w5 w6 w7 => by omega) (fun a j w4 w5 => by omega)
  | some t =>
    rw [hzz] at hc0 hr0
    obtain ⟨h1, h2, h3⟩ := zpk_in n t hzz
    have hpos : 0 < L t := by
      rw [Bool.and_eq_true] at h3
      exact of_decide_eq_true h3.2
    have ht24 : t < 24 := by omega
    obtain ⟨w1, w2, w3, w4⟩ := hq t h1 h2
    obtain ⟨-, ⟨u0, -⟩, -⟩ := htt t h1 h2
    generalize L t = l at hpos w1 w2 w3
    have hs1 : (nI l - 1 : Int32) = nI (l - 1) := by rw [show (1 : Int32) = nI 1 from rfl, zn_sub (by omega)]
    refine ⟨zcnd μ v t l, zrnd ν v t l, ?_, fun G => ?_, zRg_n hG b4 ht24 hv, fun t' g1 g2 => ?_, ?_, ?_⟩
    · rw [hc0]
      show (zq_o (61 + 5 * t) 8 <| zD119_18 (some (61 + 5 * t)) (nI v) (xe_I μ (61 + 5 * t) 0) μ) = _
      rw [zo_in (zS_task t ht24) (by omega), u0]
      unfold zD119_18 zD119_38 zD119_40
      rw [zx_nI hv (by decide)]
      show (zq_o (61 + 5 * t) 8 <| zq_s (xe_R μ (61 + 5 * t) 14) fun b19 => zq_o b19 6 <| zq_m (xe_setI (xe_setI μ 202 v (nI t)) b19 0 ((xe_I (xe_setI μ 202 v (nI t)) b19 0) - 1)) fun m21 => zq_s (xe_R m21 (61 + 5 * t) 14) fun b23 => zq_o b23 6 <| if (xe_I m21 b23 0) = 0 then _ else _) = _
      rw [zo_in (zS_task t ht24) (by omega), hR _ _ _ (zR_62 t ht24).2, zs_some, zo_in (zS_62 t ht24).2 (by omega), xu_In (by omega), w1, hs1]
      simp only [zq_m]
      rw [show xe_R (xe_setI (xe_setI μ 202 v (nI t)) (63 + 5 * t) 0 (nI (l - 1))) (61 + 5 * t) 14 = some (63 + 5 * t) from hR _ _ _ (zR_62 t ht24).2, zs_some, zo_in (zS_62 t ht24).2 (by omega), xu_I, xu_In (b := 194) (by omega), xu_In (b := 194) (by omega)]
      unfold zcnd
      by_cases w : l = 1
      · rw [if_pos (show nI (l - 1) = 0 by rw [w]; rfl), if_pos w]
      · rw [if_neg (nI_ne0 (by omega) (by omega)), if_neg w]
    · rw [hr0 G, zx_nI hv (by decide)]
      simp only [zq_m]
      rw [zx_nI hv (by decide), xu_I, show zoi (some t) = nI t from rfl, if_pos (nI_pos' (by omega)), zx_nI hv (by decide), xu_I, zx_nI ht24 (by decide), zx_nI ht24 (by decide), xu_In (b := 259) (by omega), w2, hs1, zx_nI hv (by decide), xu_In (b := 258) (by omega), xu_I, zx_nI ht24 (by decide), xu_I, xu_In (b := 203) (by omega), xu_In (b := 203) (by omega)]
      unfold zD187_149 zrnd
      rw [nI_1]
      by_cases w : l = 1
      · rw [if_pos (show nI (l - 1) = 0 by rw [w]; rfl), if_pos w]
      · rw [if_neg (nI_ne0 (by omega) (by omega)), if_neg w]
    · by_cases et : t' = t
      · subst et
        obtain ⟨l', sb, ⟨q1, q2, q3, q4⟩, ⟨q5, q6⟩, q7⟩ := hr t' g1 g2
        have kc : ∀ a j, ¬ (a = 63 + 5 * t' ∧ j = 0) → a ≠ 194 → a ≠ 202 → xe_I (zcnd μ v t' l) a j = xe_I μ a j := fun a j w1 w2 w3 => by
          unfold zcnd
          rw [xu_In (by omega), xu_In w1, xu_In (by omega)]
        have kr : ∀ a j, a ≠ 259 → a ≠ 203 → a ≠ 258 → xe_I (zrnd ν v t' l) a j = xe_I ν a j := fun a j w1 w2 w3 => by
          unfold zrnd
          split
          · rw [xu_In (by omega), xu_In (by omega), xu_In (by omega)]
          · rw [xu_In (by omega), xu_In (by omega)]
        refine ⟨l - 1, sb, ⟨?_, ?_, by omega, ?_⟩, ⟨?_, q6⟩, fun p hp => ?_⟩
        · unfold zcnd
          rw [xu_In (by omega), xu_I]
        · unfold zrnd
          split
          · rw [xu_In (by omega), xu_I]
          · rw [xu_I]
        · rw [kc _ 1 (by omega) (by omega) (by omega)]; exact q4
        · rw [kc _ 4 (by omega) (by omega) (by omega)]; exact q5
        · rw [kr 263 _ (by omega) (by omega) (by omega), kr 261 _ (by omega) (by omega) (by omega), kr 262 _ (by omega) (by omega) (by omega), kc (65 + 5 * t') p (by omega) (by omega) (by omega), kc (64 + 5 * t') p (by omega) (by omega) (by omega)]
          exact q7 p hp
      · refine zRx_k (X := fun a j => a = 202 ∨ (a = 63 + 5 * t ∧ j = 0) ∨ a = 194) (Y := fun a j => a = 258 ∨ (a = 259 ∧ j = t) ∨ a = 203) (hr t' g1 g2) (by omega) hP ?_ ?_ (fun a j w4 w5 w6 w7 => by omega) (fun a j w4 w5 => by omega)
        · unfold zcnd
          exact zfG_t (zfG_t (zfG_I (Or.inl rfl)) (zfG_I (Or.inr (Or.inl ⟨rfl, rfl⟩)))) (zfG_I (Or.inr (Or.inr rfl)))
        · unfold zrnd
          split
          · exact zfG_t (zfG_t (zfG_I (Or.inl rfl)) (zfG_I (Or.inr (Or.inl ⟨rfl, rfl⟩)))) (zfG_I (Or.inr (Or.inr rfl)))
          · exact zfG_t (zfG_I (Or.inl rfl)) (zfG_I (Or.inr (Or.inl ⟨rfl, rfl⟩)))
    · unfold zcnd
      exact zfG_t (zfG_t (zfG_I (by unfold zXst; omega)) (zfG_I (by unfold zXst; omega))) (zfG_I (by unfold zXst; omega))
    · unfold zrnd
      split
      · exact zfG_t (zfG_t (zfG_I (by unfold zYst; omega)) (zfG_I (by unfold zYst; omega))) (zfG_I (by unfold zYst; omega))
      · exact zfG_t (zfG_I (by unfold zYst; omega)) (zfG_I (by unfold zYst; omega))
theorem z_turns (hk : k < per) : ∀ (r v g G : Nat) (μ ν : xe_Mem), v + r = 4 → r < g → r < G → zVw P S M T Sw Sl m f n per k0 nk s s' d ns fm μ ν → zRg P T m k μ ν → (∀ t, f ≤ t → t < f + n → zRx P (zEn d k t) t μ ν) → ∃ μ' ν', zD105_37 g (nI v) μ = some (.inl none, μ') ∧ zD187_104 G (nI v) ν = some (.inl none, ν') ∧ zRg P T m (k + 1) μ' ν' ∧ (∀ t, f ≤ t → t < f + n → zRx P (zEn d k t) t μ' ν') ∧ zfG zXst zZu zZu μ μ' ∧ zfG zYst zZu zZu ν ν' := by
  intro r
  induction r with
  | zero =>
    intro v g G μ ν hv hg hG' hV hG hr
    obtain ⟨g, rfl⟩ : ∃ k, g = k + 1 := ⟨g - 1, by omega⟩
    obtain ⟨G, rfl⟩ : ∃ k, G = k + 1 := ⟨G - 1, by omega⟩
    have : v = 4 := by omega
    subst this
    have hP : P ≤ 12 := hV.2.2.2.2.1
    have hb := hV.1.2.1
    refine ⟨_, _, ?_, ?_, zRg_t hG, fun t h1 h2 => ?_, zfG_I (by unfold zXst; omega), zfG_I (by unfold zYst; omega)⟩
    · show zD105_37_b (zD105_37 g) (nI 4) μ = _
      unfold zD105_37_b
      rw [if_pos (by decide)]
      rfl
    · show zD187_104_b (zD187_104 G) (nI 4) ν = _
      unfold zD187_104_b
      rw [if_pos (by decide)]
      rfl
    · exact zRx_k (X := fun a j => a = 194 ∧ j = j) (Y := fun a j => a = 203 ∧ j = j) (hr t h1 h2) (by omega) hP (zfG_I ⟨rfl, rfl⟩) (zfG_I ⟨rfl, rfl⟩) (fun a j w4 w5 w6 w7 => by omega) (fun a j w4 w5 => by omega)
  | succ r ih =>
    intro v g G μ ν hv hg hG' hV hG hr
    obtain ⟨g, rfl⟩ : ∃ k, g = k + 1 := ⟨g - 1, by omega⟩
    obtain ⟨G, rfl⟩ : ∃ k, G = k + 1 := ⟨G - 1, by omega⟩
    obtain ⟨μ1, ν1, a1, a2, a3, a4, a5, a6⟩ := z_turn1 (v := v) hV hG hk hr (by omega)
    obtain ⟨μ', ν', x1, x2, x3, x4, x5, x6⟩ := ih (v + 1) g G μ1 ν1 (by omega) (by omega) (by omega) (zVw_s hV a5 a6) a3 a4
    refine ⟨μ', ν', ?_, (a2 G).trans x2, x3, x4, zfG_t a5 x5, zfG_t a6 x6⟩
    show zD105_37_b (zD105_37 g) (nI v) μ = _
    unfold zD105_37_b
    rw [if_neg (show ¬ (4 : Int32) ≤ nI v from nI_ge (b := 4) (by omega) (by decide)), a1, zcV_ok, nI_1]
    exact x1
end
