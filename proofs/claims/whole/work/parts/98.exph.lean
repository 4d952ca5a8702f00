/-! an expression: a minus, a bracket -/
section
variable {N P S Lc t : Nat} {tk : Bool} {off a0 : Nat} {ab : Nat → Bool} {T : Int32} {μ ν : xe_Mem} {p c L ub dep : Nat} {W : List Nat} {cs : List Bool} {F f n : Nat}
theorem z_minus (ih : zSo N P S Lc t tk off a0 ab T n) (h : zEA N P S Lc t tk off a0 ab μ ν p c L ub dep [] W cs) (hN : p + 1 < N) {pl : Nat} (hk : zTk μ ν p 21 pl) (hn : 5 * (8 - dep) + 1 ≤ n + 1) (hF : 200 ≤ F + c) (hf : 200 ≤ f + c) : zOo N P S Lc t tk off a0 ab T μ ν p c L dep W cs (zD57 (zKE n).1 (zKE n).2 (nI dep) μ) (zA T F f ν) := by
  obtain ⟨hx, ⟨e1, e2, e3, e4⟩, ⟨r1, r2, r3, r4, r5, r6, r7, r8⟩, hcd, -, hub, b1, b2, b3, b4, b5, b6, b7, b8, b9, b10, b11⟩ := id h
  have hN2 := hx.1.2.1
  simp only [List.length_nil, Nat.zero_add, Nat.add_zero] at b2 b4 b8 e3
  obtain ⟨f, rfl⟩ : ∃ g, f = g + 1 := ⟨f - 1, by omega⟩
  have hC : zD57 (zKE n).1 (zKE n).2 (nI dep) μ = if nI dep = 8 then zD57_89 (zKE n).1 (zKE n).2 (nI dep) 1 μ else zD57_89 (zKE n).1 (zKE n).2 (nI dep) 0 μ := by
    rw [z57 e1 (by omega) hk.1 (by decide), if_neg (by decide), if_neg (by decide), if_pos rfl]
  have hR : zD161_0 (f + 1) T ν = zD161_8 (zD161_0 f) T ν := by
    rw [z161 r1 (by omega) hk (by decide), if_pos rfl]
  by_cases hd : dep = 8
  · subst hd
    refine Or.inr (z_here h ?_ (zA_no (by rw [hR]; exact z161_8n r3)) ((xu_In (by omega)).trans r1) (zfI_s rfl))
    rw [hC, if_pos (show nI 8 = (8 : Int32) from rfl)]
    unfold zD57_89 zD37
    rw [if_neg (by decide), zthr hx.2.2.2.2.1 hx.2.2.2.2.2]
    rfl
  · have hC2 : zD57 (zKE n).1 (zKE n).2 (nI dep) μ = zq_cV (zD59 μ) fun m28 => zq_cV ((zKE n).2 (nI (dep + 1)) m28) fun m30 => zq_cI (zD58 5 0 m30) fun _ m32 => some (.inl none, m32) := by
      rw [hC, if_neg (fun e => hd (by
        rw [show (8 : Int32) = nI 8 from rfl, zi_eq (by omega) (by decide)] at e
        exact e))]
      unfold zD57_89 zD37
      rw [if_pos rfl, zcV_ok, nI_1]
    have hR2 : zD161_0 (f + 1) T ν = zD161_55 (zD161_0 f) T (zpsh ν W.length dep 95) := by
      rw [hR, z161_8 (Or.inl rfl) hk r1 (by omega) r3 (by omega) (W := W) r4 (by omega), if_pos rfl]
    have k1 : xe_I (zpsh ν W.length dep 95) 203 10 = nI p := (zpsh_o (by decide) (Or.inr (by decide))).trans r1
    have k2 : xe_I (zpsh ν W.length dep 95) 203 59 = nI c := (zpsh_o (by decide) (Or.inr (by decide))).trans r2
    by_cases hc : c < 60
    · obtain ⟨q1, q2, q3⟩ := z_min1 h hN hc (by omega)
      have hA : zA T F (f + 1) ν = zA T F f (zrtk (zpsh ν W.length dep 95) p c) := by
        refine zA_go ?_
        rw [hR2]
        unfold zD161_55
        rw [z162 k1 k2 hc, zcI_ok, if_neg (by decide)]
      rw [hC2, hA, z59 e1 e2 hc, zcV_ok]
      rcases ih (ztk μ p c) (zrtk (zpsh ν W.length dep 95) p c) (p + 1) (c + 1) L ub (dep + 1) (95 :: W) cs F f (by omega) q1 (by omega) (by omega) with ⟨μ', ν', p', c', L', ub', F', g', h', o1, o2, o3, o4, o5, o6, o7, o8, o9, o10, o11, o12, o13, o14, o15, o16⟩ | hfl
      · obtain ⟨m1, m2, m3, m4, m5⟩ := z_min2 (T := T) (F := F') (g := g') (h' := h') o3 (by omega) o3.2.2.2.2.2.2.2.2.1 b5 (by omega)
        rw [o1, zcV_ok, m5, zcI_ok, o2, m1]
        refine Or.inl ⟨zadd μ' L' 5 0, _, p', c', L' + 1, ub', F', g', h' - 1, rfl, rfl, m2, by omega, by omega, by omega, by omega, by omega, ?_, zfI_t (zfI_t q2 o10) (zfI_w m3 (zXc_w (by omega))), zfI_t (zfI_t q3 o11) (zfI_w m4 (zXr_w (by omega))), o12, o13, o14, by omega, by omega⟩
        exact zEp_neg (zEp_f o9 (Nat.le_refl _) m3) zadd_e.1 o7
      · refine Or.inr ?_
        have hfl2 := zFl_f hfl (Nat.le_refl L) (Nat.le_refl _) q2 q3 rfl rfl
        obtain ⟨μ2, ν2, p2, w1, w2⟩ := hfl2
        refine ⟨μ2, ν2, p2, ?_, w2⟩
        rw [w1, zcV_no]
    · have hc' : c = 60 := by omega
      subst hc'
      refine Or.inr (z_here h ?_ (zA_no (ν1 := xe_setI (zpsh ν W.length dep 95) 203 11 1) ?_) ((xu_In (by omega)).trans k1) (zfI_t (zXf_of zpsh_f) (zfI_s rfl)))
      · rw [hC2, z59n e2, zthr hx.2.2.2.2.1 hx.2.2.2.2.2]
        rfl
      · rw [hR2]
        unfold zD161_55
        rw [z162n k2, zcI_ok, if_pos rfl]
end
