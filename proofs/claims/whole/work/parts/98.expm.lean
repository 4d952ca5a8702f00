/-! an expression whole: readLevel(0, 0) and expression -/
/-- one expression's instructions, at most sixty -/
def zEy (P S : Nat) (r s : Nat → Int32) (k a b : Nat) : Prop := b ≤ a + 60 ∧ zEx P S r s k a b
theorem zEy_c {P S : Nat} {r s r' s' : Nat → Int32} (k a b : Nat) (h : zEy P S r s k a b) (hc : ∀ i, a ≤ i → i < b → r' i = r i ∧ s' i = s i) : zEy P S r' s' k a b := ⟨h.1, zEx_c k a b h.2 hc⟩
def zEq (P S : Nat) (μ : xe_Mem) (a b : Nat) : Prop := ∃ k, zEy P S (xe_I μ 9) (xe_I μ 10) k a b
theorem zEq_i {P S : Nat} {μ : xe_Mem} {a b : Nat} (h : zEp P S μ a b) (h6 : b ≤ a + 60) : zEq P S μ a b := by
  obtain ⟨k, hk⟩ := h
  exact ⟨k, h6, hk⟩
theorem zEq_f {P S L : Nat} {μ μ' : xe_Mem} {a b : Nat} (h : zEq P S μ a b) (hb : b ≤ L) (hf : zfI (zXc L) μ μ') : zEq P S μ' a b := by
  obtain ⟨k, h6, hk⟩ := h
  exact zEq_i (zEp_f ⟨k, hk⟩ hb hf) h6
/-- what both hold between expressions: p the token, L the class's instructions; the reference's are off ahead -/
def zQ (N P S Lc t : Nat) (tk : Bool) (off a0 : Nat) (ab : Nat → Bool) (μ ν : xe_Mem) (p L ub : Nat) : Prop := zCx μ ν N P S Lc tk ∧ xe_I μ 181 6 = nI p ∧ xe_I μ 8 2 = nI L ∧ xe_I μ 181 9 = nI ub ∧ xe_I ν 203 10 = nI p ∧ xe_I ν 203 47 = nI (L + off) ∧ zCd μ ν off a0 L ∧ zUb ν t tk ub ab ∧ p < N ∧ L ≤ p ∧ a0 ≤ L ∧ off ≤ 40 ∧ t < 24 ∧ ub < 4096
theorem z_E {N P S Lc t : Nat} {tk : Bool} {off a0 : Nat} {ab : Nat → Bool} {T : Int32} {μ ν : xe_Mem} {p L ub : Nat} (hT : zTT T tk t) (h : zQ N P S Lc t tk off a0 ab μ ν p L ub) (h8 : xe_I μ 181 8 = 0) :
    (∃ μ' ν' p' L' ub', zE56 0 0 μ = some (.inl none, μ') ∧ zD160 T ν = zint 1 ν' ∧ zQ N P S Lc t tk off a0 ab μ' ν' p' L' ub' ∧ p < p' ∧ L < L' ∧ L' + p ≤ L + p' ∧ p' ≤ p + 60 ∧ zEq P S μ' L L' ∧ zfI (zXc L) μ μ' ∧ zfI (zXr (L + off) t) ν ν' ∧ xe_sh μ' = xe_sh μ ∧ xe_sl μ' = xe_sl μ) ∨ zFl N L (L + off) t μ ν (zE56 0 0 μ) (zD160 T ν) := by
  obtain ⟨hx, e1, e2, e3, r1, r2, hcd, hub, b1, b2, b3, b4, b5, b6⟩ := h
  obtain ⟨zf, hzf⟩ : ∃ k, zfu = k + 1 := ⟨999999999, rfl⟩
  have hz2 : 1000 ≤ zf := by
    have : zfu = 1000000000 := rfl
    omega
  let ν1 : xe_Mem := xe_setI (xe_setI (xe_setI (xe_setI (xe_setI ν 203 59 0) 203 60 0) 203 61 0) 203 64 0) 249 0 0
  have k : ∀ a j, (a ≠ 203 ∨ (j ≠ 59 ∧ j ≠ 60 ∧ j ≠ 61 ∧ j ≠ 64)) → (a ≠ 249 ∨ j ≠ 0) → xe_I ν1 a j = xe_I ν a j := fun a j q1 q2 => by
    show xe_I (xe_setI (xe_setI (xe_setI (xe_setI (xe_setI ν 203 59 0) 203 60 0) 203 61 0) 203 64 0) 249 0 0) a j = _
    rw [xu_In (by omega), xu_In (by omega), xu_In (by omega), xu_In (by omega), xu_In (by omega)]
  have K : zfI (zXr (L + off) t) ν ν1 := zfI_t (zfI_t (zfI_t (zfI_t (zfI_s rfl) (zfI_s rfl)) (zfI_s rfl)) (zfI_s rfl)) (zfI_s rfl)
  have hD : zD160 T ν = zA T zf zfu ν1 := by
    unfold zD160
    simp only [zq_m]
    rw [hzf, ← hzf]
    show zD160_19 zfu T 1 ν1 = _
    rw [hzf, z160_19, ← hzf]
  have hEA : zEA N P S Lc t tk off a0 ab μ ν1 p 0 L ub 0 [] [] [false] := by
    refine ⟨zCx_f (L := L) hx zfI_rfl K rfl rfl, ⟨e1, h8, e2, e3⟩, ⟨?_, ?_, ?_, ?_, trivial, ?_, ⟨?_, trivial⟩, ?_⟩, ?_, trivial, ?_, ?_⟩
    · rw [k 203 10 (Or.inr (by decide)) (Or.inl (by decide))]; exact r1
    · show xe_I (xe_setI (xe_setI (xe_setI (xe_setI (xe_setI ν 203 59 0) 203 60 0) 203 61 0) 203 64 0) 249 0 0) 203 59 = _
      rw [xu_In (by omega), xu_In (by omega), xu_In (by omega), xu_In (by omega)]
      exact xu_I
    · show xe_I (xe_setI (xe_setI (xe_setI (xe_setI (xe_setI ν 203 59 0) 203 60 0) 203 61 0) 203 64 0) 249 0 0) 203 60 = _
      rw [xu_In (by omega), xu_In (by omega), xu_In (by omega)]
      exact xu_I
    · show xe_I (xe_setI (xe_setI (xe_setI (xe_setI (xe_setI ν 203 59 0) 203 60 0) 203 61 0) 203 64 0) 249 0 0) 203 61 = _
      rw [xu_In (by omega), xu_In (by omega)]
      exact xu_I
    · show xe_I (xe_setI (xe_setI (xe_setI (xe_setI (xe_setI ν 203 59 0) 203 60 0) 203 61 0) 203 64 0) 249 0 0) 203 64 = _
      rw [xu_In (by omega)]
      exact xu_I
    · exact xu_I
    · rw [k 203 47 (Or.inr (by decide)) (Or.inl (by decide))]; exact r2
    · exact zCd_f (L := L) (U := L + off) hcd (Nat.le_refl _) (Nat.le_refl _) zfI_rfl K
    · intro htk q hq
      rw [k 226 (12 * t + q) (Or.inl (by decide)) (Or.inl (by decide))]
      exact hub htk q hq
    · exact ⟨b1, b2, by omega, Nat.le_refl 0, Nat.le_refl 1, Nat.le_refl 1, by omega, b3, b4, b5, b6⟩
  have hz3 : zfu = 1000000000 := rfl
  rcases (z_exp (N := N) (P := P) (S := S) (Lc := Lc) (off := off) (a0 := a0) (ab := ab) hT 64).2 0 (by decide) μ ν1 p 0 L ub 0 [] [false] zf zfu (by decide) hEA (Or.inl rfl) (fun _ => ⟨[], rfl⟩) (by omega) (by omega) with ⟨μ', ν', p', c', L', ub', F', g', Pn, cs', o1, o2, o3, o4, o5, o6, o7, o8, o9, o10, o11, o11b, o12, o13, o14, o15, o16, o17, o18⟩ | hfl
  · obtain ⟨b, hb⟩ : ∃ b, cs' = [b] := by
      rcases o6 with e | ⟨-, ct, a1, a2⟩
      · exact ⟨false, e⟩
      · rw [List.cons.injEq] at a1
        exact ⟨true, by rw [a2, ← a1.2]⟩
    subst hb
    obtain ⟨y1, ⟨w1, w2, w3, w4⟩, ⟨x1, x2, x3, x4, x5, x6, x7, x8⟩, y2, y3, y4, y5⟩ := id o3
    obtain ⟨q', pl', t1, t2, t3⟩ := y1.1.2.2 p' y5.1
    have hN2 := y1.1.2.1
    have hp3 : p' < 3001 := by
      have := y5.1
      omega
    have hL3 : L' + Pn.length ≤ p' := y5.2.1
    have hc6 : c' ≤ 60 := y5.2.2.1
    have hPl : Pn.length + 0 ≤ c' := y5.2.2.2.1
    obtain ⟨g', rfl⟩ : ∃ g, g' = g + 1 := ⟨g' - 1, by omega⟩
    have hlen : (Pn.map zsc ++ []).length = Pn.length + ([] : List Nat).length := by rw [List.length_append, List.length_map]
    rw [hlen] at x4
    obtain ⟨ν2, s1, s2, s3, s4, s5⟩ := z_settle (least := 1) (by decide) (by decide) (W := []) (Or.inl rfl) Pn ν' (L' + off) zfu (fun q hq => ⟨(o4 q hq).1, (o4 q hq).2.1, by omega⟩) (by show Pn.length + 0 ≤ 69; omega) x4 x5 x8 (by omega) (zfu_lt (by omega))
    have S5 : zfI (zXr (L' + off) t) ν' ν2 := zfI_w s5 zXs_r
    have kk : ∀ a j, zXs (L' + off) a j = false → a < 265 → xe_I ν2 a j = xe_I ν' a j := fun a j q ha => (s5 a ha).1 j q
    have hst : zD160_19 F' T 0 ν' = zint 1 ν2 := by
      obtain ⟨F2, rfl⟩ : ∃ g, F' = g + 1 := ⟨F' - 1, by omega⟩
      show zD160_19_b (zD160_19 F2) T 0 ν' = _
      unfold zD160_19_b
      rw [if_pos rfl, x6, if_pos (show nI ([b].length - 1) ≤ (0 : Int32) by show nI 0 ≤ 0; decide), show zD164 1 ν' = _ from s1, zcV_ok]
    have hcd2 : zCd μ' ν2 off a0 (L' + Pn.length) := by
      refine zCd_p Pn L' (fun q hq => ⟨(o4 q hq).1, (o4 q hq).2.1⟩) (fun i q1 q2 => ?_) y3 s4
      have e := y2 i q1 q2
      have z0 : zXs (L' + off) 239 (i + off) = false ∧ zXs (L' + off) 240 (i + off) = false := by
        unfold zXs
        rw [zbleF (show i + off < L' + off by omega)]
        exact ⟨rfl, rfl⟩
      rw [kk 239 (i + off) z0.1 (by decide), kk 240 (i + off) z0.2 (by decide)]
      exact e
    refine Or.inl ⟨μ', ν2, p', L' + Pn.length, ub', o1, ?_, ⟨zCx_f (L := L' + Pn.length) y1 zfI_rfl S5 rfl rfl, w1, w3, w4, ?_, ?_, hcd2, fun htk q hq => ?_, y5.1, hL3, ?_, b4, b5, y5.2.2.2.2.2.2.2.2.2.2⟩, by omega, by omega, by omega, by omega, zEq_i o12 (by omega), o13, zfI_t K (zfI_t o14 (zfI_w S5 (zXr_w (by omega)))), o15, o16⟩
    · rw [hD, o2, z_cstop x1 hp3 t3 x6 x7 (by show 1 ≤ 10; decide) (Or.inl rfl) (fun z1 z2 => by
        rcases o5 q' t1 t3.1 z1 z2 with z | ⟨-, z3, z4⟩
        · omega
        · exact ⟨z3, z4⟩)]
      exact hst
    · rw [kk 203 10 rfl (by decide)]; exact x1
    · rw [s3]
      congr 1
      omega
    · rw [kk 226 (12 * t + q) rfl (by decide)]
      exact y4 htk q hq
    · omega
  · refine Or.inr ?_
    have hfl2 := zFl_f hfl (Nat.le_refl L) (Nat.le_refl _) zfI_rfl K rfl rfl
    rw [hD]
    exact hfl2
