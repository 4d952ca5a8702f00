/-! an expression: brackets -/
/-- the reference's memory behind an opening bracket -/
def zopn (ν : xe_Mem) (W dep k : Nat) : xe_Mem := xe_setI (xe_setI (zpsh ν W dep 40) 203 64 (nI k)) 249 k 0
section
variable {N P S Lc t : Nat} {tk : Bool} {off a0 : Nat} {ab : Nat → Bool} {T : Int32} {μ ν : xe_Mem} {p c L ub dep : Nat} {W : List Nat} {cs : List Bool} {F f n : Nat}
theorem zopn_f {U w k : Nat} : zfI (zXr U t) ν (zopn ν w dep k) := zfI_t (zfI_t zpsh_f (zfI_s rfl)) (zfI_s rfl)
theorem zopn_o {w k a j : Nat} (h : a ≠ 248) (h1 : a ≠ 249) (h2 : a ≠ 203 ∨ (j ≠ 60 ∧ j ≠ 61 ∧ j ≠ 64)) : xe_I (zopn ν w dep k) a j = xe_I ν a j := by
  unfold zopn
  rw [xu_In (by omega), xu_In (by omega), zpsh_o h (by omega)]
theorem z_par1 (h : zEA N P S Lc t tk off a0 ab μ ν p c L ub dep [] W cs) (hN : p + 1 < N) (hc : c < 60) (hd : dep < 8) : zEA N P S Lc t tk off a0 ab (ztk μ p c) (zrtk (zopn ν W.length dep cs.length) p c) (p + 1) (c + 1) L ub (dep + 1) [] (40 :: W) (false :: cs) ∧ zfI (zXc L) μ (ztk μ p c) ∧ zfI (zXr (L + off) t) ν (zrtk (zopn ν W.length dep cs.length) p c) := by
  obtain ⟨hx, ⟨e1, e2, e3, e4⟩, ⟨r1, r2, r3, r4, r5, r6, r7, r8⟩, hcd, -, hub, b1, b2, b3, b4, b5, b6, b7, b8, b9, b10, b11⟩ := h
  have F1 : zfI (zXc L) μ (ztk μ p c) := ztk_f
  have F2 : zfI (zXr (L + off) t) ν (zrtk (zopn ν W.length dep cs.length) p c) := zfI_t zopn_f zrtk_f
  simp only [List.length_nil, Nat.zero_add, Nat.add_zero] at b2 b4 b8 e3
  have t2 : ∀ a j, (a ≠ 203 ∨ (j ≠ 59 ∧ j ≠ 10)) → xe_I (zrtk (zopn ν W.length dep cs.length) p c) a j = xe_I (zopn ν W.length dep cs.length) a j := fun a j q => by
    unfold zrtk
    rw [xu_In (by omega), xu_In (by omega)]
  refine ⟨⟨zCx_f hx F1 F2 rfl rfl, ⟨xu_I, ?_, ?_, ?_⟩, ⟨xu_I, ?_, ?_, ?_, ?_, ?_, ?_, ?_⟩, zCd_f hcd (Nat.le_refl L) (Nat.le_refl _) F1 F2, trivial, fun htk q hq => ?_, ?_⟩, F1, F2⟩
  · unfold ztk
    rw [xu_In (by omega)]
    exact xu_I
  · unfold ztk
    rw [xu_In (by omega), xu_In (by omega)]
    exact e3
  · unfold ztk
    rw [xu_In (by omega), xu_In (by omega)]
    exact e4
  · unfold zrtk
    rw [xu_In (by omega)]
    exact xu_I
  · rw [t2 203 60 (Or.inr (by decide))]
    unfold zopn
    rw [xu_In (by omega), xu_In (by omega)]
    exact zpsh_60
  · rw [t2 203 61 (Or.inr (by decide))]
    unfold zopn
    rw [xu_In (by omega), xu_In (by omega)]
    exact zpsh_61
  · have : xe_I (zrtk (zopn ν W.length dep cs.length) p c) 248 = va_up (xe_I ν 248) W.length (nI 40) := by
      rw [← zpsh_r (ν := ν) (dep := dep)]
      refine funext fun j => ?_
      rw [t2 248 j (Or.inl (by decide))]
      unfold zopn
      rw [xu_In (by omega), xu_In (by omega)]
    rw [this]
    exact ⟨va_up_self _ _ _, zWt_up W r5 (Nat.le_refl _)⟩
  · rw [t2 203 64 (Or.inr (by decide))]
    unfold zopn
    rw [xu_In (by omega)]
    exact xu_I
  · have : xe_I (zrtk (zopn ν W.length dep cs.length) p c) 249 = va_up (xe_I ν 249) cs.length 0 := by
      refine funext fun j => ?_
      rw [t2 249 j (Or.inl (by decide))]
      unfold zopn
      rw [zr_II, if_pos rfl]
      have : xe_I (xe_setI (zpsh ν W.length dep 40) 203 64 (nI cs.length)) 249 = xe_I ν 249 := funext fun i => by rw [xu_In (by omega), zpsh_o (by decide) (Or.inl (by decide))]
      rw [this]
    rw [this]
    exact ⟨va_up_self _ _ _, zCs_up cs r7 (Nat.le_refl _)⟩
  · rw [t2 203 47 (Or.inr (by decide)), zopn_o (by decide) (by decide) (Or.inr (by decide))]; exact r8
  · rw [t2 226 (12 * t + q) (Or.inl (by decide)), zopn_o (by decide) (by decide) (Or.inl (by decide))]
    exact hub htk q hq
  · show zBd N (p + 1) (c + 1) L (dep + 1) off a0 t ub (0 + (40 :: W).length) (false :: cs).length
    rw [List.length_cons, List.length_cons]
    exact ⟨hN, by omega, by omega, by omega, by omega, by omega, by omega, b8, b9, b10, b11⟩
/-- the reference's memory behind a closing bracket: ν2 is what settle leaves -/
def zcls (ν2 : xe_Mem) (W dep k : Nat) : xe_Mem := xe_setI (xe_setI (xe_setI ν2 203 61 (nI W)) 203 64 (nI k)) 203 60 (nI dep)
theorem z_par2 {Pn : List Nat} {b : Bool} (h : zEA N P S Lc t tk off a0 ab μ ν p c L ub (dep + 1) Pn (40 :: W) (b :: cs)) (hP : ∀ q ∈ Pn, 18 ≤ q ∧ q ≤ 24) (hcs : 1 ≤ cs.length) (hcs2 : cs.length ≤ dep + 1) (hN : p + 1 < N) {pl : Nat} (hk : zTk μ ν p 17 pl) {g : Nat} : ∃ ν2, zfI (zXr (L + off) t) ν ν2 ∧ xe_I ν2 203 10 = nI p ∧ xe_I ν2 203 59 = nI c ∧ (c < 60 → zC T F (g + 1) ν = zB T F g zfu (zrtk ν2 p c) ∧ zEA N P S Lc t tk off a0 ab (ztk μ p c) (zrtk ν2 p c) (p + 1) (c + 1) (L + Pn.length) ub dep [] W cs ∧ zfI (zXr (L + off) t) ν (zrtk ν2 p c)) ∧ (c = 60 → zC T F (g + 1) ν = zint 0 (xe_setI ν2 203 11 1)) := by
  obtain ⟨hx, ⟨e1, e2, e3, e4⟩, ⟨r1, r2, r3, r4, r5, r6, r7, r8⟩, hcd, hpd, hub, b1, b2, b3, b4, b5, b6, b7, b8, b9, b10, b11⟩ := h
  have hN2 := hx.1.2.1
  rw [List.length_cons] at b4 b5 b6
  have hl : (Pn.map zsc ++ 40 :: W).length = Pn.length + (W.length + 1) := by rw [List.length_append, List.length_map, List.length_cons]
  rw [hl] at r4
  obtain ⟨ν2, s1, s2, s3, s4, s5⟩ := z_settle (least := 1) (by decide) (by decide) (W := 40 :: W) (Or.inr ⟨40, W, rfl, by decide, by decide⟩) Pn ν (L + off) zfu (fun q hq => ⟨(hP q hq).1, (hP q hq).2, by omega⟩) (by rw [List.length_cons]; omega) (by rw [List.length_cons]; exact r4) r5 r8 (by omega) (zfu_lt (by omega))
  have S5 : zfI (zXr (L + off) t) ν ν2 := zfI_w s5 zXs_r
  have F3 : zfI (zXr (L + off) t) ν (zcls ν2 W.length dep (cs.length - 1)) := zfI_t S5 (zfI_t (zfI_t (zfI_s rfl) (zfI_s rfl)) (zfI_s rfl))
  have k : ∀ a j, zXs (L + off) a j = false → a < 265 → xe_I ν2 a j = xe_I ν a j := fun a j q ha => (s5 a ha).1 j q
  have k3 : ∀ a j, (a ≠ 203 ∨ (j ≠ 60 ∧ j ≠ 61 ∧ j ≠ 64)) → xe_I (zcls ν2 W.length dep (cs.length - 1)) a j = xe_I ν2 a j := fun a j q => by
    unfold zcls
    rw [xu_In (by omega), xu_In (by omega), xu_In (by omega)]
  have g1 : xe_I (zcls ν2 W.length dep (cs.length - 1)) 203 10 = nI p := by rw [k3 203 10 (Or.inr (by decide)), k 203 10 rfl (by decide)]; exact r1
  have g2 : xe_I (zcls ν2 W.length dep (cs.length - 1)) 203 59 = nI c := by rw [k3 203 59 (Or.inr (by decide)), k 203 59 rfl (by decide)]; exact r2
  have hC : zC T F (g + 1) ν = zq_cI (zD162 (zcls ν2 W.length dep (cs.length - 1))) fun x77 m75 => if x77 = 0 then some (.inl (some (.int 0)), m75) else zq_cV (zD163 m75) fun m78 => zD160_29 (zD160_19 F) g T 1 m78 := by
    show zD160_29_b (zD160_19 F) (zD160_29 (zD160_19 F) g) T 1 ν = _
    unfold zD160_29_b
    have r6' : xe_I ν 203 64 = nI cs.length := r6
    rw [r6', if_neg (show ¬ nI cs.length ≤ (0 : Int32) from nI_ge (a := 0) hcs (by omega)), show zD147 41 ν = _ from z147 r1 (by omega) hk (K := 17) (by decide) (by decide), zcI_ok, if_neg (by decide), show zD164 1 ν = _ from s1, zcV_ok]
    simp only [zq_m]
    rw [s2, List.length_cons, show (nI (W.length + 1) - 1 : Int32) = nI W.length from by rw [show (1 : Int32) = nI 1 from rfl, zn_sub (by omega)]; rfl]
    have q1 : xe_I (xe_setI ν2 203 61 (nI W.length)) 203 64 = nI cs.length := by rw [xu_In (by omega), k 203 64 rfl (by decide)]; exact r6'
    have q2 : xe_I (xe_setI (xe_setI ν2 203 61 (nI W.length)) 203 64 (nI (cs.length - 1))) 203 60 = nI (dep + 1) := by rw [xu_In (by omega), xu_In (by omega), k 203 60 rfl (by decide)]; exact r3
    rw [q1, show (nI cs.length - 1 : Int32) = nI (cs.length - 1) from by rw [show (1 : Int32) = nI 1 from rfl, zn_sub (by omega)], q2, show (nI (dep + 1) - 1 : Int32) = nI dep from by rw [show (1 : Int32) = nI 1 from rfl, zn_sub (by omega)]; rfl]
    rfl
  refine ⟨zcls ν2 W.length dep (cs.length - 1), F3, g1, g2, fun hc => ?_, fun hc => ?_⟩
  · have F1 : zfI (zXc (L + Pn.length)) μ (ztk μ p c) := ztk_f
    have F2 : zfI (zXr (L + off) t) ν (zrtk (zcls ν2 W.length dep (cs.length - 1)) p c) := zfI_t F3 zrtk_f
    have t2 : ∀ a j, (a ≠ 203 ∨ (j ≠ 59 ∧ j ≠ 10)) → xe_I (zrtk (zcls ν2 W.length dep (cs.length - 1)) p c) a j = xe_I (zcls ν2 W.length dep (cs.length - 1)) a j := fun a j q => by
      unfold zrtk
      rw [xu_In (by omega), xu_In (by omega)]
    have hcd2 : zCd μ ν2 off a0 (L + Pn.length) := by
      refine zCd_p Pn L hP (fun i q1 q2 => ?_) hpd s4
      have e := hcd i q1 q2
      have z0 : zXs (L + off) 239 (i + off) = false ∧ zXs (L + off) 240 (i + off) = false := by
        unfold zXs
        rw [zbleF (show i + off < L + off by omega)]
        exact ⟨rfl, rfl⟩
      rw [k 239 (i + off) z0.1 (by decide), k 240 (i + off) z0.2 (by decide)]
      exact e
    refine ⟨?_, ⟨zCx_f hx F1 F2 rfl rfl, ⟨xu_I, ?_, ?_, ?_⟩, ⟨xu_I, ?_, ?_, ?_, ?_, ?_, ?_, ?_⟩, ?_, trivial, fun htk q hq => ?_, ?_⟩, F2⟩
    · rw [hC, z162 g1 g2 hc, zcI_ok, if_neg (by decide)]
      rfl
    · unfold ztk
      rw [xu_In (by omega)]
      exact xu_I
    · unfold ztk
      rw [xu_In (by omega), xu_In (by omega)]
      exact e3
    · unfold ztk
      rw [xu_In (by omega), xu_In (by omega)]
      exact e4
    · unfold zrtk
      rw [xu_In (by omega)]
      exact xu_I
    · rw [t2 203 60 (Or.inr (by decide))]; exact xu_I
    · rw [t2 203 61 (Or.inr (by decide))]
      unfold zcls
      rw [xu_In (by omega), xu_In (by omega)]
      exact xu_I
    · have : xe_I (zrtk (zcls ν2 W.length dep (cs.length - 1)) p c) 248 = xe_I ν 248 := funext fun j => by rw [t2 248 j (Or.inl (by decide)), k3 248 j (Or.inl (by decide)), k 248 j rfl (by decide)]
      rw [this]
      have : ∀ Q : List Nat, zWt (xe_I ν 248) (Q ++ 40 :: W) → zWt (xe_I ν 248) W := by
        intro Q
        induction Q with
        | nil => intro q; exact q.2
        | cons x Q ih => intro q; exact ih q.2
      exact this _ r5
    · rw [t2 203 64 (Or.inr (by decide))]
      unfold zcls
      rw [xu_In (by omega)]
      exact xu_I
    · have : xe_I (zrtk (zcls ν2 W.length dep (cs.length - 1)) p c) 249 = xe_I ν 249 := funext fun j => by rw [t2 249 j (Or.inl (by decide)), k3 249 j (Or.inl (by decide)), k 249 j rfl (by decide)]
      rw [this]; exact r7.2
    · rw [t2 203 47 (Or.inr (by decide)), k3 203 47 (Or.inr (by decide)), s3]
      congr 1
      omega
    · intro i q1 q2
      have e := hcd2 i q1 q2
      have u1 : xe_I (ztk μ p c) 9 i = xe_I μ 9 i := by unfold ztk; rw [xu_In (by omega), xu_In (by omega)]
      have u2 : xe_I (ztk μ p c) 10 i = xe_I μ 10 i := by unfold ztk; rw [xu_In (by omega), xu_In (by omega)]
      rw [u1, u2, t2 239 (i + off) (Or.inl (by decide)), k3 239 (i + off) (Or.inl (by decide)), t2 240 (i + off) (Or.inl (by decide)), k3 240 (i + off) (Or.inl (by decide))]
      exact e
    · rw [t2 226 (12 * t + q) (Or.inl (by decide)), k3 226 (12 * t + q) (Or.inl (by decide)), k 226 (12 * t + q) rfl (by decide)]
      exact hub htk q hq
    · show zBd N (p + 1) (c + 1) (L + Pn.length) dep off a0 t ub (0 + W.length) cs.length
      exact ⟨hN, by omega, by omega, by omega, hcs2, hcs, by omega, b8, b9, b10, b11⟩
  · rw [hC, z162n (by rw [g2, hc]), zcI_ok, if_pos rfl]
end
