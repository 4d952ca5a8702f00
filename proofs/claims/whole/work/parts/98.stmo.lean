/-! statements: steps of both between statements -/
def zYr (a j : Nat) : Bool := (a == 203 && (j == 52 || j == 53)) || (a == 243 || (a == 244 || (a == 245 || (a == 246 || a == 247))))
section
variable {N P S Lc t m mb off a0 : Nat} {tk : Bool} {ab : Nat → Bool} {μ ν μ' ν' : xe_Mem} {p L ub abn st d w : Nat}
theorem zYr_o (h : zfI zYr ν ν') {a j : Nat} (ha : a < 243) (h1 : a ≠ 203 ∨ (j ≠ 52 ∧ j ≠ 53)) : xe_I ν' a j = xe_I ν a j := (h a (by omega)).1 j (by
  unfold zYr
  simp only [Bool.or_eq_false_iff, Bool.and_eq_false_iff, beq_eq_false_iff_ne, ne_eq]
  omega)
theorem zQ_y (h : zQ N P S Lc t tk off a0 ab μ ν p L ub) (hf : zfI zYr ν ν') : zQ N P S Lc t tk off a0 ab μ ν' p L ub := by
  obtain ⟨hx, e1, e2, e3, r1, r2, hcd, hub, b1, b2, b3, b4, b5, b6⟩ := h
  have k : ∀ a j, a < 243 → (a ≠ 203 ∨ (j ≠ 52 ∧ j ≠ 53)) → xe_I ν' a j = xe_I ν a j := fun a j q1 q2 => zYr_o hf q1 q2
  refine ⟨⟨zTE_k hx.1 (fun a _ => ⟨rfl, rfl, rfl⟩) (fun a ha => ⟨funext fun j => k a j (by omega) (by omega), (hf a (by omega)).2.1⟩), zNm_k hx.2.1 (fun a _ => ⟨rfl, rfl⟩) rfl (fun a ha => ⟨funext fun j => k a j (by omega) (by omega), (hf a (by omega)).2.1⟩) (fun j hj => k 203 j (by omega) (by omega)), hx.2.2.1, ⟨hx.2.2.2.1.1, (k 203 11 (by omega) (by omega)).trans hx.2.2.2.1.2⟩, hx.2.2.2.2⟩, e1, e2, e3, (k 203 10 (by omega) (by omega)).trans r1, (k 203 47 (by omega) (by omega)).trans r2, fun i q1 q2 => ?_, fun htk q hq => ?_, b1, b2, b3, b4, b5, b6⟩
  · rw [k 239 _ (by omega) (by omega), k 240 _ (by omega) (by omega)]
    exact hcd i q1 q2
  · rw [k 226 _ (by omega) (by omega)]
    exact hub htk q hq
theorem zTa_y (h : zTa μ ν t m Lc abn mb) (hf : zfI zYr ν ν') : zTa μ ν' t m Lc abn mb := by
  obtain ⟨h1, h2, h3, h4, h5, h6, h7, h8, h9, h10, h11, h12, h13⟩ := h
  have k : ∀ a j, a < 243 → (a ≠ 203 ∨ (j ≠ 52 ∧ j ≠ 53)) → xe_I ν' a j = xe_I ν a j := fun a j q1 q2 => zYr_o hf q1 q2
  have a1 : xe_I ν' 227 = xe_I ν 227 := funext fun j => k 227 j (by omega) (by omega)
  have a2 : xe_I ν' 218 = xe_I ν 218 := funext fun j => k 218 j (by omega) (by omega)
  exact ⟨h1, h2, h3, h4, h5, (k 223 t (by omega) (by omega)).trans h6, h7, h8, by rw [a1]; exact h9, h10, h11, (k 203 22 (by omega) (by omega)).trans h12, by rw [a1, a2]; exact h13⟩
theorem zBb_y {d' w' st' : Nat} (h : zBb N P S t m mb off a0 μ ν p L ub Lc abn st d w) (hf : zfI zYr ν ν') (h1 : xe_I ν' 203 52 = nI st) (h2 : xe_I ν' 203 53 = nI (d' + 1)) (h3 : d' < 6) (h4 : xe_I ν' 245 d' = nI w') : zBb N P S t m mb off a0 μ ν' p L ub Lc abn st d' w' := by
  obtain ⟨hq, hR, ha, s1, s2, s3, s4, s5, s6⟩ := h
  exact ⟨zQ_y hq hf, hR, zTa_y ha hf, s1, h1, s3, h2, h3, h4⟩
theorem zBb_mv (h : zBb N P S t m mb off a0 μ ν p L ub Lc abn st d w) (hN : p + 1 < N) : zBb N P S t m mb off a0 (zmv μ p) (zrmv ν p) (p + 1) L ub Lc abn st d w := by
  obtain ⟨hq, hR, ha, s1, s2, s3, s4, s5, s6⟩ := h
  exact ⟨zQ_mv hq hN, hR, zTa_f ha (zmv_f (L := L)) (zrmv_f (U := L + off)), (xu_In (by omega)).trans s1, (xu_In (by omega)).trans s2, s3, (xu_In (by omega)).trans s4, s5, (xu_In (by omega)).trans s6⟩
theorem zBb_op {x y u v : Int32} (h : zBb N P S t m mb off a0 μ ν p L ub Lc abn st d w) (ho : zOp off x y u v) (hL : L + 1 ≤ p) : zBb N P S t m mb off a0 (zadd μ L x y) (zrad ν (L + off) u v) p (L + 1) ub Lc abn st d w := by
  obtain ⟨hq, hR, ha, s1, s2, s3, s4, s5, s6⟩ := h
  exact ⟨zQ_op hq ho hL, hR, zTa_f ha (zadd_f (L := L)) (zfI_w zrad_f zXs_r), (zadd_o (by omega) (by omega) (by omega)).trans s1, (zrad_o (by omega) (by omega) (by omega)).trans s2, s3, (zrad_o (by omega) (by omega) (by omega)).trans s4, s5, (zrad_o (by omega) (by omega) (by omega)).trans s6⟩
theorem zBb_st (h : zBb N P S t m mb off a0 μ ν p L ub Lc abn st d w) (h150 : ¬ st = 150) : zBb N P S t m mb off a0 (zst1 μ st) (zrst ν st) p L ub Lc abn (st + 1) d w := by
  obtain ⟨hq, hR, ha, s1, s2, s3, s4, s5, s6⟩ := h
  refine ⟨zQ_st hq, hR, zTa_st ha, ?_, xu_I, ⟨by omega, s3.2⟩, (zrst_o (by omega)).trans s4, s5, (zrst_o (by omega)).trans s6⟩
  show xe_I (xe_setI (xe_setI μ 181 7 (nI (st + 1))) 181 8 0) 181 7 = _
  rw [xu_In (by omega)]
  exact xu_I
/-- a jump's aim is set by both -/
theorem zBb_pat {e y : Nat} (h : zBb N P S t m mb off a0 μ ν p L ub Lc abn st d w) (hy : y ≤ 3000) (hop : (xe_I μ 9 e = 15 ∧ xe_I ν 239 (e + off) = 9) ∨ (xe_I μ 9 e = 16 ∧ xe_I ν 239 (e + off) = 10)) : zBb N P S t m mb off a0 (xe_setI μ 10 e (nI y)) (xe_setI ν 240 (e + off) (nI (y + off))) p L ub Lc abn st d w := by
  obtain ⟨⟨hx, e1, e2, e3, r1, r2, hcd, hub, b1, b2, b3, b4, b5, b6⟩, hR, ⟨h1, h2, h3, h4, h5, h6, h7, h8, h9, h10, h11, h12, h13⟩, s1, s2, s3, s4, s5, s6⟩ := h
  have k : ∀ a j, a ≠ 10 → xe_I (xe_setI μ 10 e (nI y)) a j = xe_I μ a j := fun a j q => xu_In (by omega)
  have g : ∀ a j, a ≠ 240 → xe_I (xe_setI ν 240 (e + off) (nI (y + off))) a j = xe_I ν a j := fun a j q => xu_In (by omega)
  have a1 : xe_I (xe_setI ν 240 (e + off) (nI (y + off))) 227 = xe_I ν 227 := funext fun j => g 227 j (by omega)
  have a2 : xe_I (xe_setI ν 240 (e + off) (nI (y + off))) 218 = xe_I ν 218 := funext fun j => g 218 j (by omega)
  refine ⟨⟨⟨zTE_k hx.1 (fun a ha => ⟨funext fun j => k a j (by omega), rfl, rfl⟩) (fun a ha => ⟨funext fun j => g a j (by omega), rfl⟩), zNm_k hx.2.1 (fun a ha => ⟨funext fun j => k a j (by omega), rfl⟩) (k 182 3 (by omega)) (fun a ha => ⟨funext fun j => g a j (by omega), rfl⟩) (fun j hj => g 203 j (by omega)), hx.2.2.1, ⟨hx.2.2.2.1.1, (g 203 11 (by omega)).trans hx.2.2.2.1.2⟩, hx.2.2.2.2⟩, (k _ _ (by omega)).trans e1, (k _ _ (by omega)).trans e2, (k _ _ (by omega)).trans e3, (g _ _ (by omega)).trans r1, (g _ _ (by omega)).trans r2, fun i q1 q2 => ?_, fun htk q hq => ?_, b1, b2, b3, b4, b5, b6⟩, hR, ⟨h1, h2, h3, h4, (k _ _ (by omega)).trans h5, (g _ _ (by omega)).trans h6, (k _ _ (by omega)).trans h7, h8, by rw [a1]; exact h9, (k _ _ (by omega)).trans h10, h11, (g _ _ (by omega)).trans h12, by rw [a1, a2]; exact h13⟩, (k _ _ (by omega)).trans s1, (g _ _ (by omega)).trans s2, s3, (g _ _ (by omega)).trans s4, s5, (g _ _ (by omega)).trans s6⟩
  · rw [k 9 i (by omega), g 239 _ (by omega)]
    by_cases hi : i = e
    · subst hi
      rw [xu_I, xu_I]
      have hj : zJ off (nI y) (nI (y + off)) := Or.inr ⟨y, hy, rfl, rfl⟩
      rcases hop with ⟨o1, o2⟩ | ⟨o1, o2⟩
      · exact Or.inr (Or.inr (Or.inr (Or.inr (Or.inr (Or.inl ⟨o1, o2, hj⟩)))))
      · exact Or.inr (Or.inr (Or.inr (Or.inr (Or.inr (Or.inr (Or.inl ⟨o1, o2, hj⟩))))))
    · rw [xu_In (by omega), xu_In (by omega)]
      exact hcd i q1 q2
  · rw [g 226 _ (by omega)]
    exact hub htk q hq
/-- the frames of these steps -/
theorem zmv_b : zfJ (zXcb t L) 183 μ (zmv μ p) := zfJ_w (zfJ_w (zfJ_I zmv_f) zXct_c) zXcb_c
theorem zadd_b {x y : Int32} : zfJ (zXcb t L) 183 μ (zadd μ L x y) := zfJ_w (zfJ_w (zfJ_I zadd_f) zXct_c) zXcb_c
theorem zpat_b {e : Nat} {y : Int32} (h : L ≤ e) : zfJ (zXcb t L) 183 μ (xe_setI μ 10 e y) := by
  refine zfJ_I (zfI_s ?_)
  unfold zXcb zXct zXc
  rw [Nat.ble_eq_true_of_le h]
  simp
theorem zXrb_r {U : Nat} : ∀ a j, zXrb t U d a j = false → zXr U t a j = false := fun a j q => by
  unfold zXrb at q
  rw [Bool.or_eq_false_iff] at q
  exact q.1
theorem zrmv_b {U : Nat} : zfJ (zXrb t U d) 241 ν (zrmv ν p) := zfJ_w (zfJ_I zrmv_f) zXrb_r
theorem zrad_b {U : Nat} {x y : Int32} : zfJ (zXrb t U d) 241 ν (zrad ν U x y) := zfJ_w (zfJ_I (zfI_w zrad_f zXs_r)) zXrb_r
theorem zpat_rb {U e : Nat} {y : Int32} (h : U ≤ e) : zfJ (zXrb t U d) 241 ν (xe_setI ν 240 e y) := by
  refine zfJ_I (zfI_s ?_)
  unfold zXrb zXr
  rw [Nat.ble_eq_true_of_le h]
  simp
theorem z53_b {U : Nat} {y : Int32} : zfJ (zXrb t U d) 241 ν (xe_setI ν 203 53 y) := by
  refine zfJ_I (zfI_s ?_)
  unfold zXrb
  simp
theorem z245_b {U e : Nat} {y : Int32} (h : d ≤ e) : zfJ (zXrb t U d) 241 ν (xe_setI ν 245 e y) := by
  refine zfJ_I (zfI_s ?_)
  unfold zXrb
  rw [Nat.ble_eq_true_of_le h]
  simp
theorem z24_b {U e b : Nat} {y : Int32} (h : d + 1 ≤ e) (hb : b = 243 ∨ b = 244 ∨ b = 246 ∨ b = 247) : zfJ (zXrb t U d) 241 ν (xe_setI ν b e y) := by
  refine zfJ_I (zfI_s ?_)
  unfold zXrb
  rw [Nat.ble_eq_true_of_le h]
  rcases hb with e | e | e | e <;> subst e <;> simp
theorem zXrb_d {U : Nat} : ∀ a j, zXrb t U d a j = false → zXrb t U (d + 1) a j = false := by
  intro a j q
  unfold zXrb at q ⊢
  simp only [Bool.or_eq_false_iff, Bool.and_eq_false_iff] at q ⊢
  obtain ⟨q1, q2, q3, q4, q5, q6, q7⟩ := q
  exact ⟨q1, q2, q3, q4, q5, q6.imp id (zble_w (by omega)), q7.imp id (zble_w (by omega))⟩
end
