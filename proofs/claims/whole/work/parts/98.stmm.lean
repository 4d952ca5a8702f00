/-! statements: what both hold at the begin of one; an assignment as a statement -/
def zXcb (t L a j : Nat) : Bool := zXct t L a j || (a == 181 && j == 7)
def zXrb (t U d a j : Nat) : Bool := zXr U t a j || ((a == 223 && j == t) || ((a == 227 && (Nat.ble (12 * t) j && Nat.ble (j + 1) (12 * t + 12))) || (a == 242 || ((a == 203 && (j == 52 || j == 53)) || ((a == 245 && Nat.ble d j) || ((a == 243 || (a == 244 || (a == 246 || a == 247))) && Nat.ble (d + 1) j))))))
theorem zXcb_c {t L : Nat} : ∀ a j, zXcb t L a j = false → zXct t L a j = false := fun a j q => by
  unfold zXcb at q
  rw [Bool.or_eq_false_iff] at q
  exact q.1
theorem zXrb_a {t U d : Nat} : ∀ a j, zXrb t U d a j = false → zXra t U d a j = false := fun a j q => by
  unfold zXrb at q
  unfold zXra
  simp only [Bool.or_eq_false_iff, Bool.and_eq_false_iff] at q ⊢
  obtain ⟨q1, q2, q3, q4, q5, q6, q7⟩ := q
  refine ⟨q1, q2, q3, q4, q6.imp id (fun h => ?_)⟩
  rw [beq_eq_false_iff_ne]
  intro e
  rw [e, Nat.ble_eq_true_of_le (Nat.le_refl d)] at h
  cases h
theorem zRt_J {X : Nat → Nat → Bool} {y : Nat} {μ μ' : xe_Mem} (h : zRt μ) (hf : zfJ X y μ μ') : zRt μ' := fun a j b hb => by
  have ha : a < 265 := by
    refine Nat.lt_of_not_le (fun h265 => ?_)
    rw [xv_zn _ (by rw [xv_rl]; omega)] at hb
    cases hb
  rw [(hf a ha).2.2]
  exact h a j b hb
/-- both at the begin of a statement, in the block d of the task t; st statements are behind, the block has cost w so far -/
def zBb (N P S t m mb off a0 : Nat) (μ ν : xe_Mem) (p L ub Lc abn st d w : Nat) : Prop := zQ N P S Lc t true off a0 (Nat.testBit abn) μ ν p L ub ∧ zRt μ ∧ zTa μ ν t m Lc abn mb ∧ xe_I μ 181 7 = nI st ∧ xe_I ν 203 52 = nI st ∧ (st ≤ 150 ∧ zDj P mb abn) ∧ xe_I ν 203 53 = nI (d + 1) ∧ d < 6 ∧ xe_I ν 245 d = nI w
/-- a statement is read by both, or refused by both -/
def zSO (N P S t m mb off a0 : Nat) (μ ν : xe_Mem) (p L st d w : Nat) (A B : zO) : Prop := (∃ μ' ν' p' L' ub' Lc' abn' st' dw F', A = zint (nI dw) μ' ∧ B = zRf m t F' ν' ∧ zBb N P S t m mb off a0 μ' ν' p' L' ub' Lc' abn' st' d (w + dw) ∧ p < p' ∧ L < L' ∧ L' + p ≤ L + p' ∧ st < st' ∧ dw ≤ (st' - st) * 10 ^ (6 - d) ∧ zSm P S d μ' L L' dw ∧ zfJ (zXcb t L) 183 μ μ' ∧ zfJ (zXrb t (L + off) d) 241 ν ν' ∧ xe_sh μ' = xe_sh μ ∧ xe_sl μ' = xe_sl μ ∧ 4000 ≤ F' + p') ∨ zFx N μ ν A B
section
variable {N P S Lc t m mb off a0 : Nat} {μ ν : xe_Mem} {p L ub abn st d w pl F : Nat} {f53 : Int32 → xe_Mem → zO}
theorem zrst_o {a j : Nat} (h : a ≠ 203 ∨ j ≠ 52) : xe_I (zrst ν st) a j = xe_I ν a j := xu_In (by omega)
theorem zQ_st {tk : Bool} {ab : Nat → Bool} (h : zQ N P S Lc t tk off a0 ab μ ν p L ub) : zQ N P S Lc t tk off a0 ab (zst1 μ st) (zrst ν st) p L ub := by
  obtain ⟨hx, e1, e2, e3, r1, r2, hcd, hub, b1, b2, b3, b4, b5, b6⟩ := h
  refine ⟨⟨zTE_k hx.1 (fun a ha => ⟨funext fun j => zst1_o (by omega), rfl, rfl⟩) (fun a ha => ⟨funext fun j => zrst_o (by omega), rfl⟩), zNm_k hx.2.1 (fun a ha => ⟨funext fun j => zst1_o (by omega), rfl⟩) (zst1_o (by omega)) (fun a ha => ⟨funext fun j => zrst_o (by omega), rfl⟩) (fun j hj => zrst_o (by omega)), hx.2.2.1, ⟨hx.2.2.2.1.1, (zrst_o (by omega)).trans hx.2.2.2.1.2⟩, hx.2.2.2.2.1, hx.2.2.2.2.2⟩, (zst1_o (by omega)).trans e1, (zst1_o (by omega)).trans e2, (zst1_o (by omega)).trans e3, (zrst_o (by omega)).trans r1, (zrst_o (by omega)).trans r2, fun i q1 q2 => ?_, fun htk q hq => ?_, b1, b2, b3, b4, b5, b6⟩
  · rw [zst1_o (by omega), zst1_o (by omega), zrst_o (by omega), zrst_o (by omega)]
    exact hcd i q1 q2
  · rw [zrst_o (by omega)]
    exact hub htk q hq
theorem zTa_st (h : zTa μ ν t m Lc abn mb) : zTa (zst1 μ st) (zrst ν st) t m Lc abn mb := by
  obtain ⟨h1, h2, h3, h4, h5, h6, h7, h8, h9, h10, h11, h12, h13⟩ := h
  have a1 : xe_I (zrst ν st) 227 = xe_I ν 227 := funext fun j => zrst_o (by omega)
  have a2 : xe_I (zrst ν st) 218 = xe_I ν 218 := funext fun j => zrst_o (by omega)
  exact ⟨h1, h2, h3, h4, (zst1_o (by omega)).trans h5, (zrst_o (by omega)).trans h6, (zst1_o (by omega)).trans h7, h8, by rw [a1]; exact h9, (zst1_o (by omega)).trans h10, h11, (zrst_o (by omega)).trans h12, by rw [a1, a2]; exact h13⟩
theorem zst_f : zfJ (zXcb t L) 183 μ (zst1 μ st) := by
  refine zfJ_I (zfI_t (zfI_s ?_) (zfI_s ?_))
  · unfold zXcb; simp
  · unfold zXcb zXct zXc; simp
theorem zrst_f {U : Nat} : zfJ (zXrb t U d) 241 ν (zrst ν st) := by
  refine zfJ_I (zfI_s ?_)
  unfold zXrb
  simp
theorem zG_b {μ1 : xe_Mem} (h : zfJ (zXcb t L) 183 μ μ1) : zG μ μ1 := by
  have k : ∀ a j, a < 265 → zXcb t L a j = false → xe_I μ1 a j = xe_I μ a j := fun a j ha hj => (h a ha).1 j hj
  refine ⟨fun a ha => ?_, fun t' ht => k _ _ (by omega) ?_, fun m hm => k _ _ (by omega) ?_, fun j => k _ _ (by omega) ?_⟩
  · obtain ⟨h1, h2, h3⟩ := h a (by omega)
    refine ⟨funext fun j => h1 j ?_, h2 (by omega), h3⟩
    unfold zXcb zXct zXc
    simp only [Bool.or_eq_false_iff, Bool.and_eq_false_iff, beq_eq_false_iff_ne, ne_eq]
    omega
  · unfold zXcb zXct zXc
    simp only [Bool.or_eq_false_iff, Bool.and_eq_false_iff, beq_eq_false_iff_ne, ne_eq]
    omega
  · unfold zXcb zXct zXc
    simp only [Bool.or_eq_false_iff, Bool.and_eq_false_iff, beq_eq_false_iff_ne, ne_eq]
    omega
  · unfold zXcb zXct zXc
    simp only [Bool.or_eq_false_iff, Bool.and_eq_false_iff, beq_eq_false_iff_ne, ne_eq]
    omega
theorem zGr_b {U : Nat} {ν1 : xe_Mem} (h : zfJ (zXrb t U d) 241 ν ν1) : zGr ν ν1 := ⟨fun a h3 h4 => by
  obtain ⟨h1, h2, -⟩ := h a (by omega)
  refine ⟨funext fun j => h1 j ?_, h2 (by omega)⟩
  unfold zXrb zXr
  simp only [Bool.or_eq_false_iff, Bool.and_eq_false_iff, beq_eq_false_iff_ne, ne_eq]
  omega, fun j hj => (h 203 (by decide)).1 j (by
  unfold zXrb zXr
  simp only [Bool.or_eq_false_iff, Bool.and_eq_false_iff, beq_eq_false_iff_ne, ne_eq]
  omega)⟩
/-- an assignment, as a statement -/
theorem z_sasg (h : zBb N P S t m mb off a0 μ ν p L ub Lc abn st d w) (hk : zTk μ ν p 25 pl) (hN : p + 1 < N) (hF : 4000 ≤ F + 1 + p) : zSO N P S t m mb off a0 μ ν p L st d w (zD54 f53 (nI d) μ) (zRf m t (F + 1) ν) := by
  obtain ⟨hq, hR, ha, s1, s2, s3, s4, s5, s6⟩ := h
  obtain ⟨hx, e1, e2, e3, r1, r2, hcd, hub, b1, b2, b3, b4, b5, b6⟩ := id hq
  have hN2 := hx.1.2.1
  rw [z54 s1 s3.1 e1 (by omega) hk.1 (by decide) hx.2.2.2.2.1 hx.2.2.2.2.2, z196 s4 (by omega) r1 (by omega) hk (by decide), z159 s2 s3.1 r1 (by omega) hk]
  by_cases h150 : st = 150
  · rw [if_pos h150, if_pos h150, zcI_ok, if_pos rfl]
    exact Or.inr (zFx_l (zQ_no hq rfl rfl))
  · rw [if_neg h150, if_neg h150, if_neg (show ¬ (25 : Nat) = 5 by decide), if_neg (show ¬ (25 : Nat) = 7 by decide), if_neg (show ¬ (25 : Nat) = 5 by decide), if_neg (show ¬ (25 : Nat) = 7 by decide), if_pos (show (25 : Nat) = 25 from rfl)]
    have k1 : xe_I (zst1 μ st) 181 8 = 0 := xu_I
    rcases z_asg (o := d) (w := w) (zQ_st (st := st) hq) hR (zTa_st (st := st) ha) k1 (zTk_r (μ := zst1 μ st) (ν := ν) ⟨hk.1, (zst1_o (by omega)).trans hk.2.1, hk.2.2.1, hk.2.2.2.1, hk.2.2.2.2⟩ (zrst_o (by omega)) (zrst_o (by omega)) rfl) hN ((zrst_o (by omega)).trans s4) (by omega) ((zrst_o (by omega)).trans s6) with ⟨μ', ν', y1, y2, p', L', ub', Lc', abn', a1, a2, a3, a4, a5, a6, a7, a8, a9, a10, a11, a12, a13⟩ | hfx
    · rw [y1, zcV_ok, y2, zcI_ok, zz_1, zcI_ok, if_neg (show ¬ (1 : Int32) = 0 by decide)]
      have F1 : zfJ (zXcb t L) 183 μ μ' := zfJ_t zst_f (zfJ_w a8 zXcb_c)
      have F2 : zfJ (zXrb t (L + off) d) 241 ν ν' := zfJ_t zrst_f (zfJ_w a9 zXrb_a)
      refine Or.inl ⟨μ', ν', p', L', ub', Lc', abn', st + 1, 1, F, rfl, rfl, ⟨a1, zRt_J hR F1, a2, ?_, ?_, ⟨by omega, a13 s3.2⟩, ?_, s5, a10⟩, a3, by omega, a5, by omega, ?_, ?_, F1, F2, a11, a12, by omega⟩
      · rw [(a8 181 (by decide)).1 7 (by
          unfold zXct zXc
          simp only [Bool.or_eq_false_iff, Bool.and_eq_false_iff, beq_eq_false_iff_ne, ne_eq]
          omega)]
        show xe_I (xe_setI (xe_setI μ 181 7 (nI (st + 1))) 181 8 0) 181 7 = _
        rw [xu_In (by omega)]
        exact xu_I
      · rw [(a9 203 (by decide)).1 52 (by
          unfold zXra zXr
          simp only [Bool.or_eq_false_iff, Bool.and_eq_false_iff, beq_eq_false_iff_ne, ne_eq]
          omega)]
        exact xu_I
      · rw [(a9 203 (by decide)).1 53 (by
          unfold zXra zXr
          simp only [Bool.or_eq_false_iff, Bool.and_eq_false_iff, beq_eq_false_iff_ne, ne_eq]
          omega)]
        exact (zrst_o (by omega)).trans s4
      · have : 0 < 10 ^ (6 - d) := Nat.pow_pos (show 0 < 10 by decide)
        rw [show st + 1 - st = 1 by omega, Nat.one_mul]
        exact this
      · have e : L' = (L' - 1) + 1 := by omega
        rw [e]
        exact zSm_set a6 (by omega) a7
    · refine Or.inr (zFx_f (μ1 := zst1 μ st) (ν1 := zrst ν st) ?_ (zG_b (t := t) (L := L) zst_f) (zGr_b (t := t) (d := d) (U := L + off) zrst_f) rfl rfl)
      refine zFx_r (zFx_cV hfx) (fun ν' e => ?_)
      rw [e, zcI_ok, zz_0, zcI_ok, if_pos rfl]
end
