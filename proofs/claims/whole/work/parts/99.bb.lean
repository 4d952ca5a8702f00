/-! messages: the numbers of both -/
def zXm1 (t a j : Nat) : Prop := (a = 228 ∨ a = 229) ∧ j = t
def zXm (T a j : Nat) : Prop := (a = 228 ∨ a = 229) ∧ j < T
def zHm (ν : xe_Mem) (T P m k : Nat) : Nat := if xe_I ν 218 k = nI m then zn (xe_I ν 220 k) * zNs ν T P k else 0
section
variable {ν ν1 : xe_Mem} {T P t : Nat} {c2 : Int32 → xe_Mem → zO}
theorem z169p (h22 : xe_I ν 203 22 = nI T) (h12 : xe_I ν 203 12 = nI P) (hT : T ≤ 24) (hP : P ≤ 12) (ht : t < T) : ∀ (r f p : Nat) (ν1 : xe_Mem), p + r = P → r < f → zfG (zXm1 t) zZu zZu ν ν1 → xe_I ν1 228 t = nI (zct (zSn ν T t) p) → ∃ ν2, zD169_13 c2 f (nI t) (nI p) ν1 = zD169_41 c2 zfu (nI t) (nI 0) ν2 ∧ zfG (zXm1 t) zZu zZu ν ν2 ∧ xe_I ν2 228 t = nI (zNs ν T P t) ∧ xe_I ν2 229 t = nI 0 := by
  intro r
  induction r with
  | zero =>
    intro f p ν1 hr hf G h0
    obtain ⟨f, rfl⟩ : ∃ g, f = g + 1 := ⟨f - 1, by omega⟩
    have hpP : p = P := by omega
    refine ⟨xe_setI ν1 229 t 0, ?_, zfG_t G (zfG_I ⟨Or.inr rfl, rfl⟩), ?_, xu_I⟩
    · show zD169_13_b c2 (zD169_13 c2 f) (nI t) (nI p) ν1 = _
      unfold zD169_13_b
      rw [(G 203 (by decide) 12).1 (fun w => by unfold zXm1 at w; omega), h12, if_pos (nI_le (by omega) (by omega)), zx_nI (show t < 24 by omega) (by decide)]
      rfl
    · rw [xu_In (by omega), h0, hpP]
      rfl
  | succ r ih =>
    intro f p ν1 hr hf G h0
    obtain ⟨f, rfl⟩ : ∃ g, f = g + 1 := ⟨f - 1, by omega⟩
    have g : ∀ a j, a < 265 → a ≠ 228 → a ≠ 229 → xe_I ν1 a j = xe_I ν a j := fun a j q1 q2 q3 => (G a q1 j).1 (fun w => by unfold zXm1 at w; omega)
    have hs : zD170 (nI t) (nI p) ν1 = zint (zb01 (zSn ν T t p)) ν1 := by
      rw [z170 (T := T) ((g 203 22 (by decide) (by decide) (by decide)).trans h22) hT (by omega) (by omega), zSn_k (ν := ν) (fun k => g 219 k (by decide) (by decide) (by decide)) (fun k => g 226 k (by decide) (by decide) (by decide)) (fun k => g 227 k (by decide) (by decide) (by decide))]
    have hstep : zD169_13 c2 (f + 1) (nI t) (nI p) ν1 = zD169_13 c2 f (nI t) (nI (p + 1)) (xe_setI ν1 228 t (nI (zct (zSn ν T t) (p + 1)))) := by
      show zD169_13_b c2 (zD169_13 c2 f) (nI t) (nI p) ν1 = _
      unfold zD169_13_b zD169_30
      rw [g 203 12 (by decide) (by decide) (by decide), h12, if_neg (nI_ge (by omega) (by omega)), zx_nI (show t < 24 by omega) (by decide), hs, zcI_ok, h0, zx_nI (show t < 24 by omega) (by decide), nI_1]
      simp only [zq_m]
      cases hg : zSn ν T t p with
      | true =>
        rw [if_neg (show ¬ zb01 true = 0 by decide), zx_nI (show t < 24 by omega) (by decide), nI_1, zct_s.2.1 hg]
      | false =>
        rw [if_pos (show zb01 false = 0 by decide), show (nI (zct (zSn ν T t) p) + 0 : Int32) = nI (zct (zSn ν T t) p) from nI_add _ 0, zct_s.2.2 hg]
    rw [hstep]
    exact ih f (p + 1) _ (by omega) (by omega) (zfG_t G (zfG_I ⟨Or.inl rfl, rfl⟩)) xu_I
theorem z169k {n : Nat → Nat} (hT : T ≤ 24) (ht : t < T) (h220 : ∀ k, k < T → xe_I ν 220 k = nI (zn (xe_I ν 220 k))) (hn : ∀ k, k < t → xe_I ν 228 k = nI (n k)) : ∀ (r f k : Nat) (ν1 : xe_Mem), k + r = t → r < f → zfG (zXm1 t) zZu zZu ν ν1 → xe_I ν1 229 t = nI (zsm (fun k => if xe_I ν 218 k = xe_I ν 218 t then zn (xe_I ν 220 k) * n k else 0) k) → ∃ ν2, zD169_41 c2 f (nI t) (nI k) ν1 = c2 (nI (t + 1)) ν2 ∧ zfG (zXm1 t) zZu zZu ν ν2 ∧ xe_I ν2 228 t = xe_I ν1 228 t ∧ xe_I ν2 229 t = nI (zsm (fun k => if xe_I ν 218 k = xe_I ν 218 t then zn (xe_I ν 220 k) * n k else 0) t) := by
  intro r
  induction r with
  | zero =>
    intro f k ν1 hr hf G h0
    obtain ⟨f, rfl⟩ : ∃ g, f = g + 1 := ⟨f - 1, by omega⟩
    have hk : k = t := by omega
    refine ⟨ν1, ?_, G, rfl, by rw [h0, hk]⟩
    show zD169_41_b c2 (zD169_41 c2 f) (nI t) (nI k) ν1 = _
    unfold zD169_41_b
    rw [if_pos (nI_le (by omega) (by omega)), nI_1]
  | succ r ih =>
    intro f k ν1 hr hf G h0
    obtain ⟨f, rfl⟩ : ∃ g, f = g + 1 := ⟨f - 1, by omega⟩
    have g : ∀ a j, a < 265 → a ≠ 228 → a ≠ 229 → xe_I ν1 a j = xe_I ν a j := fun a j q1 q2 q3 => (G a q1 j).1 (fun w => by unfold zXm1 at w; omega)
    have hstep : zD169_41 c2 (f + 1) (nI t) (nI k) ν1 = zD169_41 c2 f (nI t) (nI (k + 1)) (xe_setI ν1 229 t (nI (zsm (fun k => if xe_I ν 218 k = xe_I ν 218 t then zn (xe_I ν 220 k) * n k else 0) (k + 1)))) := by
      show zD169_41_b c2 (zD169_41 c2 f) (nI t) (nI k) ν1 = _
      unfold zD169_41_b zD169_69
      rw [if_neg (nI_ge (by omega) (by omega)), zx_nI (show t < 24 by omega) (by decide), zx_nI (show k < 24 by omega) (by decide), zx_nI (show t < 24 by omega) (by decide), g 218 k (by decide) (by decide) (by decide), g 218 t (by decide) (by decide) (by decide), h0, zx_nI (show t < 24 by omega) (by decide), nI_1]
      simp only [zq_m]
      show _ = zD169_41 c2 f (nI t) (nI (k + 1)) (xe_setI ν1 229 t (nI (zsm _ k + if xe_I ν 218 k = xe_I ν 218 t then zn (xe_I ν 220 k) * n k else 0)))
      by_cases h : xe_I ν 218 k = xe_I ν 218 t
      · rw [if_pos h, if_pos h, zx_nI (show k < 24 by omega) (by decide), zx_nI (show k < 24 by omega) (by decide), zx_nI (show t < 24 by omega) (by decide), g 220 k (by decide) (by decide) (by decide), (G 228 (by decide) k).1 (fun w => by unfold zXm1 at w; omega), hn k (by omega)]
        conv => lhs; rw [h220 k (by omega)]
        rw [zn_mul, nI_add]
      · rw [if_neg h, if_neg h]
        congr 2
        exact nI_add _ 0
    rw [hstep]
    obtain ⟨ν2, w1, w2, w3, w4⟩ := ih f (k + 1) _ (by omega) (by omega) (zfG_t G (zfG_I ⟨Or.inr rfl, rfl⟩)) xu_I
    exact ⟨ν2, w1, w2, w3.trans (xu_In (by omega)), w4⟩
theorem z169 (h22 : xe_I ν 203 22 = nI T) (h12 : xe_I ν 203 12 = nI P) (hT : T ≤ 24) (hP : P ≤ 12) (h220 : ∀ k, k < T → xe_I ν 220 k = nI (zn (xe_I ν 220 k))) : ∃ ν', zD169 ν = some (.inl none, ν') ∧ zfG (zXm T) zZu zZu ν ν' ∧ ∀ t, t < T → xe_I ν' 228 t = nI (zNs ν T P t) ∧ xe_I ν' 229 t = nI (zFm ν T P t) := by
  have hl : ∀ (r f t : Nat) (ν1 : xe_Mem), t + r = T → r < f → zfG (zXm T) zZu zZu ν ν1 → (∀ k, k < t → xe_I ν1 228 k = nI (zNs ν T P k) ∧ xe_I ν1 229 k = nI (zFm ν T P k)) → ∃ ν', zD169_2 f (nI t) ν1 = some (.inl none, ν') ∧ zfG (zXm T) zZu zZu ν ν' ∧ ∀ t, t < T → xe_I ν' 228 t = nI (zNs ν T P t) ∧ xe_I ν' 229 t = nI (zFm ν T P t) := by
    intro r
    induction r with
    | zero =>
      intro f t ν1 hr hf G h0
      obtain ⟨f, rfl⟩ : ∃ g, f = g + 1 := ⟨f - 1, by omega⟩
      refine ⟨ν1, ?_, G, fun k hk => h0 k (by omega)⟩
      show zD169_2_b (zD169_2 f) (nI t) ν1 = _
      unfold zD169_2_b
      rw [(G 203 (by decide) 22).1 (fun w => by unfold zXm at w; omega), h22, if_pos (nI_le (by omega) (by omega))]
    | succ r ih =>
      intro f t ν1 hr hf G h0
      obtain ⟨f, rfl⟩ : ∃ g, f = g + 1 := ⟨f - 1, by omega⟩
      have g : ∀ a j, a < 265 → a ≠ 228 → a ≠ 229 → xe_I ν1 a j = xe_I ν a j := fun a j q1 q2 q3 => (G a q1 j).1 (fun w => by unfold zXm at w; omega)
      have eSn : ∀ k p, zSn ν1 T k p = zSn ν T k p := fun k p => zSn_k (fun k => g 219 k (by decide) (by decide) (by decide)) (fun k => g 226 k (by decide) (by decide) (by decide)) (fun k => g 227 k (by decide) (by decide) (by decide))
      have eNs : ∀ k, zNs ν1 T P k = zNs ν T P k := fun k => by
        unfold zNs
        rw [show zSn ν1 T k = zSn ν T k from funext fun p => eSn k p]
      have hstep : zD169_2 (f + 1) (nI t) ν1 = zD169_13 (zD169_2 f) zfu (nI t) (nI 0) (xe_setI ν1 228 t 0) := by
        show zD169_2_b (zD169_2 f) (nI t) ν1 = _
        unfold zD169_2_b
        rw [g 203 22 (by decide) (by decide) (by decide), h22, if_neg (nI_ge (by omega) (by omega)), zx_nI (show t < 24 by omega) (by decide)]
        rfl
      obtain ⟨ν2, a1, a2, a3, a4⟩ := z169p (c2 := zD169_2 f) (ν := ν1) (T := T) (P := P) (t := t) ((g 203 22 (by decide) (by decide) (by decide)).trans h22) ((g 203 12 (by decide) (by decide) (by decide)).trans h12) hT hP (by omega) P zfu 0 (xe_setI ν1 228 t 0) (by omega) (zfu_lt (by omega)) (zfG_I ⟨Or.inl rfl, rfl⟩) xu_I
      obtain ⟨ν3, b1, b2, b3, b4⟩ := z169k (c2 := zD169_2 f) (ν := ν1) (T := T) (t := t) (n := zNs ν T P) hT (by omega) (fun k hk => by rw [g 220 k (by decide) (by decide) (by decide)]; exact h220 k hk) (fun k hk => (h0 k hk).1) t zfu 0 ν2 (by omega) (zfu_lt (by omega)) a2 a4
      rw [hstep, a1, b1]
      refine ih f (t + 1) ν3 (by omega) (by omega) (zfG_t G (zfG_w b2 (fun a j q => ⟨q.1, by have := q.2; omega⟩) (fun a j q => q) (fun a j q => q))) (fun k hk => ?_)
      by_cases e : k = t
      · subst e
        refine ⟨?_, ?_⟩
        · rw [b3, a3, eNs]
        · rw [b4]
          unfold zFm
          congr 1
          refine zsm_c k (fun i hi => ?_)
          rw [g 218 i (by decide) (by decide) (by decide), g 218 k (by decide) (by decide) (by decide), g 220 i (by decide) (by decide) (by decide)]
      · rw [(b2 228 (by decide) k).1 (fun w => by unfold zXm1 at w; omega), (b2 229 (by decide) k).1 (fun w => by unfold zXm1 at w; omega)]
        exact h0 k (by omega)
  exact hl T zfu 0 ν (by omega) (zfu_lt (by omega)) zfG_r (fun k hk => absurd hk (by omega))
end
