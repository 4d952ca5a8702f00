/-! an expression: a sign between operands -/
/-- the reference's memory behind a sign: ν2 is what settle leaves -/
def zsgn (ν2 : xe_Mem) (W k x : Nat) (b : Bool) : xe_Mem := xe_setI (xe_setI (if b = true then xe_setI ν2 249 k 1 else ν2) 248 W (nI x)) 203 61 (nI (W + 1))
section
variable {N P S Lc t : Nat} {tk : Bool} {off a0 : Nat} {ab : Nat → Bool} {T : Int32} {μ ν : xe_Mem} {p c L ub dep : Nat} {W : List Nat} {cs : List Bool} {F f n g : Nat}
theorem zsgn_f {U w k x : Nat} {b : Bool} : zfI (zXr U t) ν (zsgn ν w k x b) := by
  unfold zsgn
  refine zfI_t (zfI_t ?_ (zfI_s rfl)) (zfI_s rfl)
  split
  · exact zfI_s rfl
  · exact zfI_rfl
theorem zsgn_o {w k x a j : Nat} {b : Bool} (h : a ≠ 248) (h1 : a ≠ 249 ∨ b = false) (h2 : a ≠ 203 ∨ j ≠ 61) : xe_I (zsgn ν w k x b) a j = xe_I ν a j := by
  unfold zsgn
  rw [xu_In (by omega), xu_In (by omega)]
  split
  · rename_i hb
    rw [hb] at h1
    exact xu_In (fun q => h1.elim (fun h => h q.1) (fun h => by cases h))
  · rfl
theorem z_cop {Pn : List Nat} {q l pl : Nat} (h : zEA N P S Lc t tk off a0 ab μ ν p c L ub dep Pn W cs) (hP : ∀ q ∈ Pn, 18 ≤ q ∧ q ≤ 24 ∧ l ≤ zlv q) (hW : zWo W l) (hk : zTk μ ν p q pl) (h18 : 18 ≤ q) (h24 : q ≤ 24) (hl : zlv q = l) (hN : p + 1 < N) (h0 : l = 0 → ∃ ct, cs = false :: ct) : ∃ ν3, zfI (zXr (L + off) t) ν ν3 ∧ xe_I ν3 203 10 = nI p ∧ (c < 60 → zC T (F + 1) (g + 1) ν = zA T F zfu (zrtk ν3 p c) ∧ zEA N P S Lc t tk off a0 ab (ztk μ p c) (zrtk ν3 p c) (p + 1) (c + 1) (L + Pn.length) ub dep [] (zsc q :: W) (if l = 0 then true :: cs.tail else cs) ∧ zfI (zXr (L + off) t) ν (zrtk ν3 p c)) ∧ (c = 60 → zC T (F + 1) (g + 1) ν = zint 0 (xe_setI ν3 203 11 1)) := by
  obtain ⟨hx, ⟨e1, e2, e3, e4⟩, ⟨r1, r2, r3, r4, r5, r6, r7, r8⟩, hcd, hpd, hub, b1, b2, b3, b4, b5, b6, b7, b8, b9, b10, b11⟩ := h
  have hN2 := hx.1.2.1
  have hlv := zlv_lt q
  have hlen : (Pn.map zsc ++ W).length = Pn.length + W.length := by rw [List.length_append, List.length_map]
  rw [hlen] at r4
  have hWs : W = [] ∨ ∃ x W', W = x :: W' ∧ x < 256 ∧ ztg x < l + 1 := by
    rcases hW with e | ⟨x, W', a1, a2, a3, a4⟩
    · exact Or.inl e
    · exact Or.inr ⟨x, W', a1, a2, by omega⟩
  obtain ⟨ν2, s1, s2, s3, s4, s5⟩ := z_settle (least := l + 1) (by omega) (by omega) hWs Pn ν (L + off) zfu (fun q hq => ⟨(hP q hq).1, (hP q hq).2.1, by have := (hP q hq).2.2; omega⟩) (by omega) r4 r5 r8 (by omega) (zfu_lt (by omega))
  have S5 : zfI (zXr (L + off) t) ν ν2 := zfI_w s5 zXs_r
  have k : ∀ a j, zXs (L + off) a j = false → a < 265 → xe_I ν2 a j = xe_I ν a j := fun a j q ha => (s5 a ha).1 j q
  have hsx : zsx q = zsc q := by unfold zsx; rw [if_pos ⟨by omega, h24⟩]
  have hz := zsc_lt q
  have htg : ztg (zsc q) = l + 1 := by rw [ztg_s q (by omega) h18, hl]
  have F3 : zfI (zXr (L + off) t) ν (zsgn ν2 W.length (cs.length - 1) (zsc q) (decide (l = 0))) := zfI_t S5 zsgn_f
  have k3 : ∀ a j, a ≠ 248 → a ≠ 249 → (a ≠ 203 ∨ j ≠ 61) → xe_I (zsgn ν2 W.length (cs.length - 1) (zsc q) (decide (l = 0))) a j = xe_I ν2 a j := fun a j q1 q2 q3 => zsgn_o q1 (Or.inl q2) q3
  have g1 : xe_I (zsgn ν2 W.length (cs.length - 1) (zsc q) (decide (l = 0))) 203 10 = nI p := by rw [k3 203 10 (by decide) (by decide) (Or.inr (by decide)), k 203 10 rfl (by decide)]; exact r1
  have g2 : xe_I (zsgn ν2 W.length (cs.length - 1) (zsc q) (decide (l = 0))) 203 59 = nI c := by rw [k3 203 59 (by decide) (by decide) (Or.inr (by decide)), k 203 59 rfl (by decide)]; exact r2
  have h116 : ∀ ν5 : xe_Mem, xe_I ν5 203 61 = nI W.length → zD160_116 (zD160_19 (F + 1)) T 1 (nI (zsc q)) ν5 = zq_cI (zD162 (xe_setI (xe_setI ν5 248 W.length (nI (zsc q))) 203 61 (nI (W.length + 1)))) fun x56 m54 => if x56 = 0 then some (.inl (some (.int 0)), m54) else zD160_19 (F + 1) T 1 m54 := by
    intro ν5 e5
    unfold zD160_116
    simp only [zq_m]
    rw [e5, zx_nI (show W.length < 70 by omega) (by decide), show xe_I (xe_setI ν5 248 W.length (nI (zsc q))) 203 61 = nI W.length from (xu_In (by omega)).trans e5, nI_1]
  have hC : zC T (F + 1) (g + 1) ν = zq_cI (zD162 (zsgn ν2 W.length (cs.length - 1) (zsc q) (decide (l = 0)))) fun x56 m54 => if x56 = 0 then some (.inl (some (.int 0)), m54) else zD160_19 (F + 1) T 1 m54 := by
    rw [z_cgo r1 (by omega) hk r6 (by omega) (Or.inr (by omega)), hsx]
    have h95 : zD160_95 (zD160_19 (F + 1)) T (nI (zsc q)) ν = zq_cI (zD162 (zsgn ν2 W.length (cs.length - 1) (zsc q) (decide (l = 0)))) fun x56 m54 => if x56 = 0 then some (.inl (some (.int 0)), m54) else zD160_19 (F + 1) T 1 m54 := by
      unfold zD160_95 zD160_98
      rw [if_neg (by decide), z165 hz, zcI_ok, htg, show zD164 (nI (l + 1)) ν = _ from s1, zcV_ok, z165 hz, zcI_ok, htg]
      by_cases hl0 : l = 0
      · rw [hl0, if_pos (by decide), k 203 64 rfl (by decide), r6, zx_nI (show cs.length - 1 < 12 by omega) (by decide)]
        simp only [zq_m]
        rw [h116 _ ((xu_In (by omega)).trans s2)]
        rfl
      · rw [if_neg (fun e => hl0 (by
          rw [show (1 : Int32) = nI 1 from rfl, zi_eq (by omega) (by decide)] at e
          omega)), h116 _ s2, decide_eq_false hl0]
        rfl
    unfold zD160_80
    rw [z165 hz, zcI_ok, z165 hz, zcI_ok, htg]
    by_cases hl0 : l = 0
    · obtain ⟨ct, hct⟩ := h0 hl0
      rw [hl0] at h95 ⊢
      rw [if_neg (by decide), if_pos (by decide), r6, zx_nI (show cs.length - 1 < 12 by omega) (by decide)]
      have e7 : xe_I ν 249 (cs.length - 1) = 0 := by
        rw [hct] at r7 ⊢
        rw [List.length_cons, show ct.length + 1 - 1 = ct.length by omega]
        exact r7.1
      rw [e7, if_pos rfl]
      exact h95
    · rw [if_pos (show (1 : Int32) < nI (l + 1) from nI_lt (a := 1) (by omega) (by omega))]
      exact h95
  refine ⟨zsgn ν2 W.length (cs.length - 1) (zsc q) (decide (l = 0)), F3, g1, fun hc => ?_, fun hc => ?_⟩
  · have F1 : zfI (zXc (L + Pn.length)) μ (ztk μ p c) := ztk_f
    have F2 : zfI (zXr (L + off) t) ν (zrtk (zsgn ν2 W.length (cs.length - 1) (zsc q) (decide (l = 0))) p c) := zfI_t F3 zrtk_f
    have t2 : ∀ a j, (a ≠ 203 ∨ (j ≠ 59 ∧ j ≠ 10)) → xe_I (zrtk (zsgn ν2 W.length (cs.length - 1) (zsc q) (decide (l = 0))) p c) a j = xe_I (zsgn ν2 W.length (cs.length - 1) (zsc q) (decide (l = 0))) a j := fun a j q => by
      unfold zrtk
      rw [xu_In (by omega), xu_In (by omega)]
    have hcd2 : zCd μ ν2 off a0 (L + Pn.length) := by
      refine zCd_p Pn L (fun q hq => ⟨(hP q hq).1, (hP q hq).2.1⟩) (fun i q1 q2 => ?_) hpd s4
      have e := hcd i q1 q2
      have z0 : zXs (L + off) 239 (i + off) = false ∧ zXs (L + off) 240 (i + off) = false := by
        unfold zXs
        rw [zbleF (show i + off < L + off by omega)]
        exact ⟨rfl, rfl⟩
      rw [k 239 (i + off) z0.1 (by decide), k 240 (i + off) z0.2 (by decide)]
      exact e
    refine ⟨?_, ⟨zCx_f hx F1 F2 rfl rfl, ⟨xu_I, ?_, ?_, ?_⟩, ⟨xu_I, ?_, ?_, ?_, ?_, ?_, ?_, ?_⟩, ?_, trivial, fun htk q hq => ?_, ?_⟩, F2⟩
    · rw [hC, z162 g1 g2 hc, zcI_ok, if_neg (by decide), z160_19]
    · unfold ztk
      rw [xu_In (by omega)]
      exact xu_I
    · unfold ztk
      rw [xu_In (by omega), xu_In (by omega)]
      exact e3
    · unfold ztk
      rw [xu_In (by omega), xu_In (by omega)]
      exact e4
    · unfold zrtk
      rw [xu_In (by omega)]
      exact xu_I
    · rw [t2 203 60 (Or.inr (by decide)), k3 203 60 (by decide) (by decide) (Or.inr (by decide)), k 203 60 rfl (by decide)]; exact r3
    · rw [t2 203 61 (Or.inr (by decide))]; exact xu_I
    · have : xe_I (zrtk (zsgn ν2 W.length (cs.length - 1) (zsc q) (decide (l = 0))) p c) 248 = va_up (xe_I ν 248) W.length (nI (zsc q)) := by
        refine funext fun j => ?_
        rw [t2 248 j (Or.inl (by decide))]
        unfold zsgn
        rw [xu_In (by omega), zr_II, if_pos rfl]
        have : xe_I (if decide (l = 0) = true then xe_setI ν2 249 (cs.length - 1) 1 else ν2) 248 = xe_I ν 248 := by
          refine funext fun i => ?_
          split
          · rw [xu_In (by omega), k 248 i rfl (by decide)]
          · rw [k 248 i rfl (by decide)]
        rw [this]
      rw [this]
      have : ∀ Q : List Nat, zWt (xe_I ν 248) (Q ++ W) → zWt (xe_I ν 248) W := by
        intro Q
        induction Q with
        | nil => intro q; exact q
        | cons x Q ih => intro q; exact ih q.2
      exact ⟨va_up_self _ _ _, zWt_up W (this _ r5) (Nat.le_refl _)⟩
    · rw [t2 203 64 (Or.inr (by decide)), k3 203 64 (by decide) (by decide) (Or.inr (by decide)), k 203 64 rfl (by decide), r6]
      split
      · rename_i hl0
        obtain ⟨ct, hct⟩ := h0 hl0
        rw [hct]
        rfl
      · rfl
    · by_cases hl0 : l = 0
      · obtain ⟨ct, hct⟩ := h0 hl0
        rw [if_pos hl0]
        have : xe_I (zrtk (zsgn ν2 W.length (cs.length - 1) (zsc q) (decide (l = 0))) p c) 249 = va_up (xe_I ν 249) ct.length 1 := by
          refine funext fun j => ?_
          rw [t2 249 j (Or.inl (by decide))]
          unfold zsgn
          rw [xu_In (by omega), xu_In (by omega), if_pos (decide_eq_true hl0), zr_II, if_pos rfl, hct, List.length_cons, show ct.length + 1 - 1 = ct.length by omega]
          have : xe_I ν2 249 = xe_I ν 249 := funext fun i => k 249 i rfl (by decide)
          rw [this]
        rw [this, hct]
        rw [hct] at r7
        exact ⟨va_up_self _ _ _, zCs_up ct r7.2 (Nat.le_refl _)⟩
      · rw [if_neg hl0]
        have : xe_I (zrtk (zsgn ν2 W.length (cs.length - 1) (zsc q) (decide (l = 0))) p c) 249 = xe_I ν 249 := funext fun j => by rw [t2 249 j (Or.inl (by decide)), zsgn_o (by decide) (Or.inr (decide_eq_false hl0)) (Or.inl (by decide)), k 249 j rfl (by decide)]
        rw [this]; exact r7
    · rw [t2 203 47 (Or.inr (by decide)), k3 203 47 (by decide) (by decide) (Or.inr (by decide)), s3]
      congr 1
      omega
    · intro i q1 q2
      have e := hcd2 i q1 q2
      have u1 : xe_I (ztk μ p c) 9 i = xe_I μ 9 i := by unfold ztk; rw [xu_In (by omega), xu_In (by omega)]
      have u2 : xe_I (ztk μ p c) 10 i = xe_I μ 10 i := by unfold ztk; rw [xu_In (by omega), xu_In (by omega)]
      rw [u1, u2, t2 239 (i + off) (Or.inl (by decide)), k3 239 (i + off) (by decide) (by decide) (Or.inl (by decide)), t2 240 (i + off) (Or.inl (by decide)), k3 240 (i + off) (by decide) (by decide) (Or.inl (by decide))]
      exact e
    · rw [t2 226 (12 * t + q) (Or.inl (by decide)), k3 226 (12 * t + q) (by decide) (by decide) (Or.inl (by decide)), k 226 (12 * t + q) rfl (by decide)]
      exact hub htk q hq
    · have hcl : (if l = 0 then true :: cs.tail else cs).length = cs.length := by
        split
        · rename_i hl0
          obtain ⟨ct, hct⟩ := h0 hl0
          rw [hct]
          rfl
        · rfl
      show zBd N (p + 1) (c + 1) (L + Pn.length) dep off a0 t ub (0 + (zsc q :: W).length) (if l = 0 then true :: cs.tail else cs).length
      rw [List.length_cons, hcl]
      exact ⟨hN, by omega, by omega, by omega, b5, b6, b7, b8, b9, b10, b11⟩
  · rw [hC, z162n (by rw [g2, hc]), zcI_ok, if_pos rfl]
end
