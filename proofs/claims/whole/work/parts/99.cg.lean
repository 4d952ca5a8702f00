/-! running: a span ends -/
theorem zR_196 : ∀ n, n < 4 → (xv_rt.getD 196 []).lookup n = some (197 + n) := by decide +kernel
theorem zR_63 : ∀ t, t < 24 → (xv_rt.getD (63 + 5 * t) []).lookup 5 = some (64 + 5 * t) ∧ (xv_rt.getD (63 + 5 * t) []).lookup 6 = some (65 + 5 * t) := by decide +kernel
theorem zS_64 : ∀ t, t < 24 → xv_S[64 + 5 * t]? = some (.inr (0, 12)) ∧ xv_S[65 + 5 * t]? = some (.inr (0, 12)) := by decide +kernel
theorem zS_197 : ∀ n, n < 4 → xv_S[197 + n]? = some (.inr (0, 12)) := by decide +kernel
theorem zVv_195 : zVv 195 := ⟨by decide, by decide, rfl⟩
theorem zVv_197 {n : Nat} (h : n < 4) : zVv (197 + n) := ⟨by omega, by omega, zS_197 n h⟩
theorem zVv_64 {t : Nat} (h : t < 24) : zVv (64 + 5 * t) ∧ zVv (65 + 5 * t) := ⟨⟨by omega, by omega, (zS_64 t h).1⟩, ⟨by omega, by omega, (zS_64 t h).2⟩⟩
/-- a task's run in both -/
def zRq (P en l sb t : Nat) (μ ν : xe_Mem) : Prop := (xe_I μ (63 + 5 * t) 0 = nI l ∧ xe_I ν 259 t = nI l ∧ l ≤ 200 ∧ xe_I μ (63 + 5 * t) 1 = nI en) ∧ (xe_I μ (63 + 5 * t) 4 = nI sb ∧ sb < 4096) ∧ ∀ p, p < P → xe_I ν 263 (12 * t + p) = zb01 (Nat.testBit sb p) ∧ xe_I ν 261 (12 * t + p) = xe_I μ (65 + 5 * t) p ∧ xe_I ν 262 (12 * t + p) = xe_I μ (64 + 5 * t) p
/-- what is meant, and what the nodes see -/
def zSd (P : Nat) (μ ν : xe_Mem) : Prop := (∀ p, p < P → xe_I μ 195 p = xe_I ν 255 p) ∧ ∀ n, n < 4 → ∀ p, p < P → xe_I μ (197 + n) p = xe_I ν 256 (12 * n + p)
def zXsh (a j : Nat) : Prop := (197 ≤ a ∧ a ≤ 200) ∧ j = j
def zYsh (a j : Nat) : Prop := a = 256 ∧ j = j
section
variable {P t p nd : Nat} {s : Bool} {c2 : Int32 → Int32 → xe_Mem → zO}
/-- what a port's coming to the nodes hangs on -/
def zHs (P t p nd : Nat) (s : Bool) (μ ν : xe_Mem) : Prop := (xe_I μ (61 + 5 * t) 2 = nI nd ∧ xe_I ν 219 t = nI nd ∧ xe_I ν 259 t = nI 0) ∧ (xe_I ν 263 (12 * t + p) = zb01 s ∧ xe_I ν 261 (12 * t + p) = xe_I μ (65 + 5 * t) p) ∧ zRt μ ∧ zSd P μ ν
theorem zHs_w {n : Nat} {μ ν : xe_Mem} (hP : P ≤ 12) (h : zHs P t p nd s μ ν) (ht : t < 24) (hp : p < 12) (hn : n < 4) : zHs P t p nd s (xe_setI μ (197 + n) p (xe_I μ (65 + 5 * t) p)) (xe_setI ν 256 (12 * n + p) (xe_I ν 261 (12 * t + p))) := by
  obtain ⟨⟨h1, h2, h3⟩, ⟨h4, h5⟩, h6, h7, h8⟩ := h
  refine ⟨⟨?_, ?_, ?_⟩, ⟨?_, ?_⟩, h6, fun q hq => ?_, fun n' hn' q hq => ?_⟩
  · rw [xu_In (by omega)]; exact h1
  · rw [xu_In (by omega)]; exact h2
  · rw [xu_In (by omega)]; exact h3
  · rw [xu_In (by omega)]; exact h4
  · rw [xu_In (by omega), xu_In (by omega)]; exact h5
  · rw [xu_In (by omega), xu_In (by omega)]; exact h7 q hq
  · by_cases e : n' = n ∧ q = p
    · obtain ⟨rfl, rfl⟩ := e
      rw [xu_I, xu_I]; exact h5.symm
    · rw [xu_In (by omega), xu_In (by omega)]; exact h8 n' hn' q hq
theorem zHs_s {n : Nat} {μ ν : xe_Mem} (h : zHs P t p nd s μ ν) (ht : t < 24) (hp : p < 12) (hn : n < 4) : zHs P t p nd s μ (xe_setI ν 256 (12 * n + p) (xe_I ν 256 (12 * n + p))) := by
  obtain ⟨⟨h1, h2, h3⟩, ⟨h4, h5⟩, h6, h7, h8⟩ := h
  refine ⟨⟨h1, ?_, ?_⟩, ⟨?_, ?_⟩, h6, fun q hq => ?_, fun n' hn' q hq => ?_⟩
  · rw [xu_In (by omega)]; exact h2
  · rw [xu_In (by omega)]; exact h3
  · rw [xu_In (by omega)]; exact h4
  · rw [xu_In (by omega)]; exact h5
  · rw [xu_In (by omega)]; exact h7 q hq
  · by_cases e : 12 * n' + q = 12 * n + p
    · rw [e, xu_I, ← e]; exact h8 n' hn' q hq
    · rw [xu_In (by omega)]; exact h8 n' hn' q hq
theorem z_show (hP : P ≤ 12) (ht : t < 24) (hp : p < 12) (hnd : nd < 4) : ∀ (r g G n : Nat) (μ ν : xe_Mem), n + r = 4 → r < g → r < G → zHs P t p nd s μ ν → ∃ μ' ν', zD108_14 g (61 + 5 * t) (nI p) (zb01 s) (nI n) μ = some (.inl none, μ') ∧ zD188_30 c2 G (nI t) (nI p) (nI n) ν = c2 (nI t) (nI (p + 1)) ν' ∧ zHs P t p nd s μ' ν' ∧ zfG zXsh zZu zZu μ μ' ∧ zfG zYsh zZu zZu ν ν' ∧ xe_sh μ' = xe_sh μ := by
  intro r
  induction r with
  | zero =>
    intro g G n μ ν hn hg hG h
    obtain ⟨g, rfl⟩ : ∃ k, g = k + 1 := ⟨g - 1, by omega⟩
    obtain ⟨G, rfl⟩ : ∃ k, G = k + 1 := ⟨G - 1, by omega⟩
    have : n = 4 := by omega
    subst this
    refine ⟨μ, ν, ?_, ?_, h, zfG_r, zfG_r, rfl⟩
    · show zD108_14_b (zD108_14 g) _ _ _ (nI 4) μ = _
      unfold zD108_14_b
      rw [if_pos (by decide)]
    · show zD188_30_b c2 (zD188_30 c2 G) _ _ (nI 4) ν = _
      unfold zD188_30_b zD188_86
      rw [if_pos (by decide), nI_1]
  | succ r ih =>
    intro g G n μ ν hn hg hG h
    obtain ⟨g, rfl⟩ : ∃ k, g = k + 1 := ⟨g - 1, by omega⟩
    obtain ⟨G, rfl⟩ : ∃ k, G = k + 1 := ⟨G - 1, by omega⟩
    have hn4 : n < 4 := by omega
    obtain ⟨⟨h1, h2, h3⟩, ⟨h4, h5⟩, h6, h7, h8⟩ := id h
    have hc : zD108_14 (g + 1) (61 + 5 * t) (nI p) (zb01 s) (nI n) μ = if s = true ∨ n = nd then zD108_14 g (61 + 5 * t) (nI p) (zb01 s) (nI (n + 1)) (xe_setI μ (197 + n) p (xe_I μ (65 + 5 * t) p)) else zD108_14 g (61 + 5 * t) (nI p) (zb01 s) (nI (n + 1)) μ := by
      show zD108_14_b (zD108_14 g) _ _ _ (nI n) μ = _
      unfold zD108_14_b
      have hw : zD108_23 (zD108_14 g) (61 + 5 * t) (nI p) (zb01 s) (nI n) μ = zD108_14 g (61 + 5 * t) (nI p) (zb01 s) (nI (n + 1)) (xe_setI μ (197 + n) p (xe_I μ (65 + 5 * t) p)) := by
        unfold zD108_23 zD108_34
        rw [zx_nI hn4 (by decide), h6 _ _ _ (zR_196 n hn4), zs_some, zo_in (zS_task t ht) (by omega), h6 _ _ _ (zR_62 t ht).2, zs_some, zo_in (zS_62 t ht).2 (by omega), h6 _ _ _ (zR_63 t ht).2, zs_some, za_in (zS_64 t ht).2 (by omega), zx_nI hp (by decide), za_in (zS_197 n hn4) (by omega), zx_nI hp (by decide)]
        simp only [zq_m, nI_1]
      rw [if_neg (show ¬ (4 : Int32) ≤ nI n from nI_ge (b := 4) hn4 (by decide))]
      cases s with
      | true => rw [if_neg (show ¬ zb01 true = 0 by decide), if_pos (Or.inl rfl)]; exact hw
      | false =>
        rw [if_pos (show zb01 false = 0 by decide), zo_in (zS_task t ht) (by omega), h1]
        by_cases e : n = nd
        · rw [if_pos (by rw [e]), if_pos (Or.inr e)]; exact hw
        · rw [if_neg (fun w => e (by rw [zi_eq (by omega) (by omega)] at w; exact w)), if_neg (fun w => by rcases w with w | w; cases w; exact e w)]
          unfold zD108_34
          rw [nI_1]
    have hr : zD188_30 c2 (G + 1) (nI t) (nI p) (nI n) ν = if s = true ∨ n = nd then zD188_30 c2 G (nI t) (nI p) (nI (n + 1)) (xe_setI ν 256 (12 * n + p) (xe_I ν 261 (12 * t + p))) else zD188_30 c2 G (nI t) (nI p) (nI (n + 1)) (xe_setI ν 256 (12 * n + p) (xe_I ν 256 (12 * n + p))) := by
      show zD188_30_b c2 (zD188_30 c2 G) _ _ (nI n) ν = _
      unfold zD188_30_b
      have hy : zD188_53 (zD188_30 c2 G) (nI t) (nI p) (nI n) ν = zD188_30 c2 G (nI t) (nI p) (nI (n + 1)) (xe_setI ν 256 (12 * n + p) (xe_I ν 261 (12 * t + p))) := by
        unfold zD188_53 zD188_56 zD188_83
        rw [if_neg (show ¬ (1 : Int32) = 0 by decide), z12, zx_nI (show 12 * t + p < 288 by omega) (by decide), z12, zx_nI (show 12 * n + p < 48 by omega) (by decide)]
        simp only [zq_m, nI_1]
      have hno : zD188_55 (zD188_30 c2 G) (nI t) (nI p) (nI n) ν = zD188_30 c2 G (nI t) (nI p) (nI (n + 1)) (xe_setI ν 256 (12 * n + p) (xe_I ν 256 (12 * n + p))) := by
        unfold zD188_55 zD188_56 zD188_83
        rw [if_pos rfl, z12, zx_nI (show 12 * n + p < 48 by omega) (by decide), zx_nI (show 12 * n + p < 48 by omega) (by decide)]
        simp only [zq_m, nI_1]
      rw [if_neg (show ¬ (4 : Int32) ≤ nI n from nI_ge (b := 4) hn4 (by decide)), zx_nI ht (by decide), h3, if_pos (by decide), zx_nI ht (by decide), h2]
      by_cases e : n = nd
      · rw [if_pos (by rw [e]), if_pos (Or.inr e)]; exact hy
      · rw [if_neg (fun w => e (by rw [zi_eq (by omega) (by omega)] at w; exact w)), z12, zx_nI (show 12 * t + p < 288 by omega) (by decide), h4]
        cases s with
        | true => rw [if_neg (show ¬ zb01 true = 0 by decide), if_pos (Or.inl rfl)]; exact hy
        | false => rw [if_pos (show zb01 false = 0 by decide), if_neg (fun w => by rcases w with w | w; cases w; exact e w)]; exact hno
    by_cases e : s = true ∨ n = nd
    · rw [if_pos e] at hc hr
      obtain ⟨μ', ν', a1, a2, a3, a4, a5, a6⟩ := ih g G (n + 1) _ _ (by omega) (by omega) (by omega) (zHs_w hP h ht hp hn4)
      exact ⟨μ', ν', hc.trans a1, hr.trans a2, a3, zfG_t (zfG_I (by unfold zXsh; omega)) a4, zfG_t (zfG_I (by unfold zYsh; omega)) a5, a6⟩
    · rw [if_neg e] at hc hr
      obtain ⟨μ', ν', a1, a2, a3, a4, a5, a6⟩ := ih g G (n + 1) _ _ (by omega) (by omega) (by omega) (zHs_s (n := n) h ht hp hn4)
      exact ⟨μ', ν', hc.trans a1, hr.trans a2, a3, a4, zfG_t (zfG_I (by unfold zYsh; omega)) a5, a6⟩
/-- a run that isn't done comes to no node -/
theorem z_hide (ht : t < 24) (hp : p < 12) {l : Nat} (hl : 0 < l) (hl2 : l ≤ 200) : ∀ (r G n : Nat) (ν : xe_Mem), n + r = 4 → r < G → xe_I ν 259 t = nI l → ∃ ν', zD188_30 c2 G (nI t) (nI p) (nI n) ν = c2 (nI t) (nI (p + 1)) ν' ∧ (∀ a j, xe_I ν' a j = xe_I ν a j) ∧ zfG zYsh zZu zZu ν ν' := by
  intro r
  induction r with
  | zero =>
    intro G n ν hn hG h
    obtain ⟨G, rfl⟩ : ∃ k, G = k + 1 := ⟨G - 1, by omega⟩
    have : n = 4 := by omega
    subst this
    refine ⟨ν, ?_, fun _ _ => rfl, zfG_r⟩
    show zD188_30_b c2 (zD188_30 c2 G) _ _ (nI 4) ν = _
    unfold zD188_30_b zD188_86
    rw [if_pos (by decide), nI_1]
  | succ r ih =>
    intro G n ν hn hG h
    obtain ⟨G, rfl⟩ : ∃ k, G = k + 1 := ⟨G - 1, by omega⟩
    have hn4 : n < 4 := by omega
    obtain ⟨ν', a1, a2, a3⟩ := ih G (n + 1) (xe_setI ν 256 (12 * n + p) (xe_I ν 256 (12 * n + p))) (by omega) (by omega) (by rw [xu_In (by omega)]; exact h)
    refine ⟨ν', ?_, fun a j => ?_, zfG_t (zfG_I (by unfold zYsh; omega)) a3⟩
    · show zD188_30_b c2 (zD188_30 c2 G) _ _ (nI n) ν = _
      unfold zD188_30_b
      rw [if_neg (show ¬ (4 : Int32) ≤ nI n from nI_ge (b := 4) hn4 (by decide)), zx_nI ht (by decide), h, if_neg (nI_ne0 hl (by omega))]
      unfold zD188_55 zD188_56 zD188_83
      rw [if_pos rfl, z12, zx_nI (show 12 * n + p < 48 by omega) (by decide), zx_nI (show 12 * n + p < 48 by omega) (by decide)]
      simp only [zq_m, nI_1]
      exact a1
    · rw [a2 a j]
      by_cases e : a = 256 ∧ j = 12 * n + p
      · rw [e.1, e.2, xu_I]
      · rw [xu_In (by omega)]
end
