/-! statements: all of them -/
section
variable {N P S Lc t m mb off a0 : Nat} {μ ν : xe_Mem} {p L ub abn st d w pl q F : Nat} {f53 : Int32 → xe_Mem → zO}
theorem z_sno (h : zBb N P S t m mb off a0 μ ν p L ub Lc abn st d w) (hq29 : q < 29) (hk : zTk μ ν p q pl) (h5 : ¬ q = 5) (h7 : ¬ q = 7) (h12 : ¬ q = 12) (h25 : ¬ q = 25) : zSO N P S t m mb off a0 μ ν p L st d w (zD54 f53 (nI d) μ) (zRf m t (F + 1) ν) := by
  obtain ⟨hq, hR, ha, s1, s2, s3, s4, s5, s6⟩ := id h
  obtain ⟨hx, e1, e2, e3, r1, r2, hcd, hub, b1, b2, b3, b4, b5, b6⟩ := id hq
  have hN2 := hx.1.2.1
  rw [z54 s1 s3.1 e1 (by omega) hk.1 hq29 hx.2.2.2.2.1 hx.2.2.2.2.2, z196 s4 (by omega) r1 (by omega) hk h12, z159 s2 s3.1 r1 (by omega) hk]
  by_cases h150 : st = 150
  · rw [if_pos h150, if_pos h150, zcI_ok, if_pos rfl]
    exact Or.inr (zFx_l (zQ_no hq rfl rfl))
  · rw [if_neg h150, if_neg h150, if_neg h5, if_neg h5, if_neg h7, if_neg h7, if_neg h25, zcI_ok, if_pos rfl, z62x (μ := zst1 μ st) ((zst1_o (by omega)).trans e1) (by omega) hk.1 hq29 h25 hx.2.2.2.2.1 hx.2.2.2.2.2]
    refine Or.inr (zFx_cV ⟨zst1 μ st, xe_setI ν 203 11 1, p, zthr hx.2.2.2.2.1 hx.2.2.2.2.2, rfl, ⟨b1, ub, b6, (zst1_o (by omega)).trans e3⟩, (zst1_o (by omega)).trans e1, (xu_In (by omega)).trans r1, zG_b (t := t) (L := L) zst_f, ⟨fun a h1 h2 => ⟨funext fun j => xu_In (by omega), rfl⟩, fun j hj => xu_In (by omega)⟩, rfl, rfl⟩)
theorem z_hs : ∀ n d, 6 ≤ n + d → zHS N P S t m mb off a0 d (zKB n) := by
  intro n
  induction n with
  | zero =>
    intro d hd μ ν p L ub Lc abn st w F q pl h
    have := h.2.2.2.2.2.2.2.1
    omega
  | succ n ih =>
    intro d hd μ ν p L ub Lc abn st w F q pl h h1 h2 h3 h4 h5
    have hS := ih (d + 1) (by omega)
    by_cases q5 : q = 5
    · subst q5
      exact z_sif (g53 := zKB n) rfl hS h h3 (h2.mp (by omega)) h5
    · by_cases q7 : q = 7
      · subst q7
        exact z_srep (g53 := zKB n) rfl hS h h3 (h2.mp (by omega)) h5
      · by_cases q25 : q = 25
        · subst q25
          exact z_sasg h h3 (h2.mp (by omega)) h5
        · exact z_sno h h1 h3 q5 q7 h4 q25
end
