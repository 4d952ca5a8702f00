/-! preparing a mode: how many messages there are -/
theorem zsm_add {a b : Nat → Nat} : ∀ n, zsm (fun i => a i + b i) n = zsm a n + zsm b n := by
  intro n
  induction n with
  | zero => rfl
  | succ n ih =>
    show zsm (fun i => a i + b i) n + (a n + b n) = (zsm a n + a n) + (zsm b n + b n)
    rw [ih]
    omega
theorem zsm_le {a b : Nat → Nat} : ∀ n, (∀ i, i < n → a i ≤ b i) → zsm a n ≤ zsm b n := by
  intro n
  induction n with
  | zero => intro _; exact Nat.le_refl _
  | succ n ih =>
    intro h
    show zsm a n + a n ≤ zsm b n + b n
    have h1 := ih (fun i hi => h i (by omega))
    have h2 := h n (by omega)
    omega
theorem zsm_mul {a : Nat → Nat} {c : Nat} : ∀ n, zsm (fun i => c * a i) n = c * zsm a n := by
  intro n
  induction n with
  | zero => rfl
  | succ n ih =>
    show zsm (fun i => c * a i) n + c * a n = c * (zsm a n + a n)
    rw [ih, Nat.mul_add]
theorem zsm_0 {a : Nat → Nat} : ∀ n, (∀ i, i < n → a i = 0) → zsm a n = 0 := by
  intro n
  induction n with
  | zero => intro _; rfl
  | succ n ih =>
    intro h
    show zsm a n + a n = 0
    rw [ih (fun i hi => h i (by omega)), h n (by omega)]
theorem zsm_1 {c : Nat → Bool} : ∀ n, (∀ i i', i < i' → i' < n → c i = true → c i' = true → False) → zsm (fun i => if c i = true then 1 else 0) n ≤ 1 := by
  intro n
  induction n with
  | zero => intro _; exact Nat.zero_le _
  | succ n ih =>
    intro h
    show zsm (fun i => if c i = true then 1 else 0) n + (if c n = true then 1 else 0) ≤ 1
    by_cases e : c n = true
    · rw [if_pos e, zsm_0 n (fun i hi => if_neg (fun w => h i n hi (by omega) w e))]
      omega
    · rw [if_neg e]
      have := ih (fun i i' h1 h2 h3 h4 => h i i' h1 (by omega) h3 h4)
      omega
theorem zsm_a {a : Nat → Nat} {f : Nat} (h : ∀ i, i < f → a i = 0) : ∀ n, zsm a (f + n) = zsm (fun i => a (f + i)) n := by
  intro n
  induction n with
  | zero => exact zsm_0 f h
  | succ n ih =>
    show zsm a (f + n) + a (f + n) = zsm (fun i => a (f + i)) n + a (f + n)
    rw [ih]
theorem zsm_e {a : Nat → Nat} {n : Nat} : ∀ r, (∀ i, n ≤ i → i < n + r → a i = 0) → zsm a (n + r) = zsm a n := by
  intro r
  induction r with
  | zero => intro _; rfl
  | succ r ih =>
    intro h
    show zsm a (n + r) + a (n + r) = zsm a n
    rw [ih (fun i h1 h2 => h i h1 (by omega)), h (n + r) (by omega) (by omega)]
    rfl
theorem zsm_m {a : Nat → Nat} {i : Nat} : ∀ k, i < k → zsm a i + a i ≤ zsm a k := by
  intro k
  induction k with
  | zero => intro h; omega
  | succ k ih =>
    intro h
    show _ ≤ zsm a k + a k
    by_cases e : i = k
    · rw [e]
      exact Nat.le_refl _
    · have := ih (by omega)
      omega
theorem zct_sum {g : Nat → Nat → Bool} {n : Nat} : ∀ P, (∀ p, p < P → ∀ i i', i < i' → i' < n → g i p = true → g i' p = true → False) → zsm (fun i => zct (g i) P) n ≤ P := by
  intro P
  induction P with
  | zero =>
    intro _
    rw [zsm_0 (a := fun i => zct (g i) 0) n (fun i _ => rfl)]
    exact Nat.le_refl _
  | succ P ih =>
    intro h
    have e : zsm (fun i => zct (g i) (P + 1)) n = zsm (fun i => zct (g i) P) n + zsm (fun i => if g i P = true then 1 else 0) n := zsm_add (a := fun i => zct (g i) P) (b := fun i => if g i P = true then 1 else 0) n
    have h1 := ih (fun p hp => h p (by omega))
    have h2 := zsm_1 (c := fun i => g i P) n (fun i i' w1 w2 w3 w4 => h P (by omega) i i' w1 w2 w3 w4)
    omega
section
variable {μ ν ν' : xe_Mem} {P S N T L U m f n per k k' s s' Sl : Nat}
theorem zNs_k (h1 : ∀ k, xe_I ν' 219 k = xe_I ν 219 k) (h2 : ∀ k, xe_I ν' 226 k = xe_I ν 226 k) (h3 : ∀ k, xe_I ν' 227 k = xe_I ν 227 k) : zSn ν' T = zSn ν T ∧ zNs ν' T P = zNs ν T P := by
  have e : zSn ν' T = zSn ν T := funext fun t => funext fun p => zSn_k h1 h2 h3
  refine ⟨e, funext fun t => ?_⟩
  unfold zNs
  rw [e]
/-- the numbers of a mode's messages fit -/
theorem z_fit (hP : P ≤ 12) (hper : 1 ≤ per) (h120 : per ≤ 120) (hT : f + n ≤ T) (htm : ∀ t, f ≤ t → t < f + n → xe_I ν 218 t = nI m ∧ ∃ tm sp, tm * sp = per ∧ 1 ≤ sp ∧ 1 ≤ tm ∧ xe_I ν 220 t = nI tm ∧ xe_I ν 221 t = nI sp) (hlow : ∀ t, t < T → ¬ (f ≤ t ∧ t < f + n) → ¬ xe_I ν 218 t = nI m) (hdj : ∀ t, t < T → zDij ν t) :
    zsm (zHm ν T P m) (f + n) = zsm (zHm ν T P m) T ∧ zsm (zHm ν T P m) T ≤ 1440 ∧ zFi (fun i t => zn (xe_I ν (if i = 0 then 221 else if i = 1 then 222 else 219) t)) f n per (zNs ν T P) (zFm ν T P) ∧ ∀ t, f ≤ t → t < f + n → zFm ν T P t + per / zn (xe_I ν 221 t) * zNs ν T P t ≤ zsm (zHm ν T P m) T := by
  have hz : ∀ i, i < f → zHm ν T P m i = 0 := fun i hi => if_neg (hlow i (by omega) (by omega))
  have hz2 : ∀ i, f + n ≤ i → i < f + n + (T - (f + n)) → zHm ν T P m i = 0 := fun i h1 h2 => if_neg (hlow i (by omega) (by omega))
  have e1 : zsm (zHm ν T P m) (f + n) = zsm (zHm ν T P m) T := by
    have e0 := zsm_e (T - (f + n)) hz2
    rw [show f + n + (T - (f + n)) = T by omega] at e0
    exact e0.symm
  have hval : ∀ t, f ≤ t → t < f + n → zHm ν T P m t = per / zn (xe_I ν 221 t) * zNs ν T P t ∧ per / zn (xe_I ν 221 t) ≤ 120 ∧ 1 ≤ zn (xe_I ν 221 t) ∧ zn (xe_I ν 221 t) ≤ per ∧ per % zn (xe_I ν 221 t) = 0 := fun t h1 h2 => by
    obtain ⟨q1, tm, sp, q2, q3, q4, q5, q6⟩ := htm t h1 h2
    have hsp : sp ≤ per := by
      have : 1 * sp ≤ tm * sp := Nat.mul_le_mul_right sp q4
      omega
    have htm' : tm ≤ per := by
      have : tm * 1 ≤ tm * sp := Nat.mul_le_mul_left tm q3
      omega
    have e2 : zn (xe_I ν 221 t) = sp := by rw [q6, zn_n (by omega)]
    have e3 : per / sp = tm := by rw [← q2]; exact Nat.mul_div_cancel _ q3
    rw [e2, e3]
    refine ⟨?_, by omega, q3, hsp, by rw [← q2]; exact Nat.mul_mod_left _ _⟩
    unfold zHm
    rw [if_pos q1, q5, zn_n (by omega)]
  have hsum : zsm (fun i => zNs ν T P (f + i)) n ≤ 12 := by
    have := zct_sum (g := fun i => zSn ν T (f + i)) (n := n) P (fun p hp i i' h1 h2 h3 h4 => by
      have hd := hdj (f + i') (by omega) (f + i) (by omega) (by rw [(htm (f + i) (by omega) (by omega)).1, (htm (f + i') (by omega) (by omega)).1]) p (by omega)
      unfold zSn at h3 h4
      rw [Bool.and_eq_true] at h3 h4
      rcases hd with w | w
      · exact (of_decide_eq_true h3.2) w
      · exact (of_decide_eq_true h4.2) w)
    exact Nat.le_trans this hP
  have htot : zsm (zHm ν T P m) T ≤ 1440 := by
    rw [← e1, zsm_a hz n]
    refine Nat.le_trans (zsm_le (b := fun i => 120 * zNs ν T P (f + i)) n (fun i hi => ?_)) ?_
    · obtain ⟨v1, v2, -⟩ := hval (f + i) (by omega) (by omega)
      rw [v1]
      exact Nat.mul_le_mul_right _ v2
    · rw [zsm_mul]
      omega
  have hfm : ∀ t, f ≤ t → t < f + n → zFm ν T P t = zsm (zHm ν T P m) t := fun t h1 h2 => by
    unfold zFm
    refine zsm_c t (fun k hk => ?_)
    unfold zHm
    rw [(htm t h1 h2).1]
  have hle : ∀ t, f ≤ t → t < f + n → ∀ t', t < t' → zFm ν T P t + per / zn (xe_I ν 221 t) * zNs ν T P t ≤ zsm (zHm ν T P m) t' := fun t h1 h2 t' h3 => by
    rw [hfm t h1 h2, ← (hval t h1 h2).1]
    exact zsm_m t' h3
  refine ⟨e1, htot, ⟨fun t t' h1 h2 h3 => ?_, fun t h1 h2 => ?_⟩, fun t h1 h2 => ?_⟩
  · rw [hfm t' (by omega) h3]
    exact hle t h1 (by omega) t' h2
  · obtain ⟨v1, v2, v3, v4, v5⟩ := hval t h1 h2
    exact ⟨Nat.le_trans (hle t h1 h2 T (by omega)) htot, Nat.le_trans (zct_le P) hP, v3, v4, v5⟩
  · exact hle t h1 h2 T (by omega)
/-- slots of a mode, as zSr says them -/
theorem zTq_s (h : zSr μ ν m per s s') (h1 : s ≤ s') (h2 : s' ≤ Sl) (h3 : Sl ≤ 480) (h120 : per ≤ 120) (h43 : xe_I ν 203 43 = nI Sl) (hC : ∀ i, i < Sl → ¬ (s ≤ i ∧ i < s') → ¬ xe_I ν 236 i = nI m) : zTq ν m s s' Sl (fun k => decide (¬ xe_I μ (20 + 11 * m) k = 0)) per (fun i => zn (xe_I ν 237 i)) := by
  have hq : ∀ i, s ≤ i → i < s' → zn (xe_I ν 237 i) < per ∧ xe_I ν 237 i = nI (zn (xe_I ν 237 i)) := fun i w1 w2 => by
    obtain ⟨-, -, k, k1, k2⟩ := h.1 i w1 w2
    rw [k2, zn_n (by omega)]
    exact ⟨k1, rfl⟩
  refine ⟨⟨h1, h2, h3⟩, h43, fun i w1 w2 => ⟨(h.1 i w1 w2).1, hq i w1 w2⟩, fun i i' w1 w2 w3 => ?_, hC, fun k hk => ?_⟩
  · obtain ⟨a1, a2⟩ := hq i w1 (by omega)
    obtain ⟨c1, c2⟩ := hq i' (by omega) w3
    exact h.2.1 i i' (zn (xe_I ν 237 i)) (zn (xe_I ν 237 i')) w1 w2 w3 (by omega) (by omega) a2 c2
  · constructor
    · intro w
      obtain ⟨i, w1, w2, w3⟩ := (h.2.2 k (by omega)).mp (of_decide_eq_true w)
      exact ⟨i, w1, w2, by show zn (xe_I ν 237 i) = k; rw [w3, zn_n (by omega)]⟩
    · rintro ⟨i, w1, w2, w3⟩
      refine decide_eq_true ((h.2.2 k (by omega)).mpr ⟨i, w1, w2, ?_⟩)
      rw [(hq i w1 w2).2]
      exact congrArg nI w3
end
