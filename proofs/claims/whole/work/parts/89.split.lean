/-! the tokens: one after the other, by both -/
/-- a token of the kind q: the reference's kind and worth, the class's value -/
def zRk (q : Nat) (k : Int32) (w v : Int64) : Prop := if q ≤ 10 then k = 4 ∧ w = nL q else if q ≤ 24 then k = 3 ∧ w = nL (zsc q) else if q = 25 then k = 1 ∧ w = v else if q = 26 then k = 2 ∧ w = v ∧ ∃ x, x ≤ 999999 ∧ v = nL x else if q = 27 then k = 0 else q = 28 ∧ k = 5
def zTk (μ ν : xe_Mem) (i q pl : Nat) : Prop := xe_R μ 4 i = some (1000001 + q) ∧ xe_I μ 5 i = nI pl ∧ xe_I ν 208 i = nI pl ∧ pl ≤ 3000 ∧ zRk q (xe_I ν 207 i) (xe_L ν 209 i) (xe_L μ 6 i)
def zput (μ : xe_Mem) (s q pl : Nat) (v : Int64) : xe_Mem := xe_setI (xe_setL (xe_setI (xe_setR μ 4 s (some (1000001 + q))) 5 s (nI pl)) 6 s v) 3 3 (nI (s + 1))
def zrpt (ν : xe_Mem) (s : Nat) (k : Int32) (pl : Nat) (w : Int64) : xe_Mem := xe_setI (xe_setL (xe_setI (xe_setI ν 207 s k) 208 s (nI pl)) 209 s w) 203 6 (nI (s + 1))
section
variable {μ ν : xe_Mem} {s q pl : Nat} {v w : Int64} {k : Int32}
theorem z19 (hs : xe_I μ 3 3 = nI s) (h : s < 3001) (hq : q < 29) : zD19 (1000001 + q) (nI pl) v μ = some (.inl none, zput μ s q pl v) := by
  unfold zD19
  simp only [zq_m]
  rw [hs, zx_nI h (by decide), zk_ok (by omega)]
  rw [show xe_I (xe_setR μ 4 s (some (1000001 + q))) 3 3 = nI s from hs, zx_nI h (by decide)]
  have e : xe_I (xe_setI (xe_setR μ 4 s (some (1000001 + q))) 5 s (nI pl)) 3 3 = nI s := by
    rw [xu_In (by omega)]
    exact hs
  rw [e, zx_nI h (by decide)]
  rw [show xe_I (xe_setL (xe_setI (xe_setR μ 4 s (some (1000001 + q))) 5 s (nI pl)) 6 s v) 3 3 = nI s from e, nI_1]
  rfl
theorem z135 (hs : xe_I ν 203 6 = nI s) (h : s < 3002) : zD135 k (nI pl) w ν = some (.inl none, zrpt ν s k pl w) := by
  unfold zD135
  simp only [zq_m]
  rw [hs, zx_nI h (by decide)]
  have e1 : xe_I (xe_setI ν 207 s k) 203 6 = nI s := by rw [xu_In (by omega)]; exact hs
  rw [e1, zx_nI h (by decide)]
  have e2 : xe_I (xe_setI (xe_setI ν 207 s k) 208 s (nI pl)) 203 6 = nI s := by rw [xu_In (by omega)]; exact e1
  rw [e2, zx_nI h (by decide)]
  rw [show xe_I (xe_setL (xe_setI (xe_setI ν 207 s k) 208 s (nI pl)) 209 s w) 203 6 = nI s from e2, nI_1]
  rfl
/-- what a token leaves as it was -/
def zfc (μ μ' : xe_Mem) : Prop := ∀ a, a ≠ 3 → a ≠ 4 → a ≠ 5 → a ≠ 6 → xe_I μ' a = xe_I μ a ∧ xe_L μ' a = xe_L μ a ∧ xe_R μ' a = xe_R μ a
def zfr (ν ν' : xe_Mem) : Prop := (∀ a, a ≠ 203 → a ≠ 207 → a ≠ 208 → a ≠ 209 → xe_I ν' a = xe_I ν a ∧ xe_L ν' a = xe_L ν a ∧ xe_R ν' a = xe_R ν a) ∧ (∀ j, j ≠ 6 → xe_I ν' 203 j = xe_I ν 203 j) ∧ xe_L ν' 203 = xe_L ν 203 ∧ xe_R ν' 203 = xe_R ν 203
theorem zfc_t {μ1 : xe_Mem} {μ2 : xe_Mem} (h1 : zfc μ μ1) (h2 : zfc μ1 μ2) : zfc μ μ2 := fun a a3 a4 a5 a6 => by
  obtain ⟨p1, p2, p3⟩ := h1 a a3 a4 a5 a6
  obtain ⟨q1, q2, q3⟩ := h2 a a3 a4 a5 a6
  exact ⟨q1.trans p1, q2.trans p2, q3.trans p3⟩
theorem zfr_t {ν1 ν2 : xe_Mem} (h1 : zfr ν ν1) (h2 : zfr ν1 ν2) : zfr ν ν2 := by
  refine ⟨fun a a3 a4 a5 a6 => ?_, fun j hj => (h2.2.1 j hj).trans (h1.2.1 j hj), h2.2.2.1.trans h1.2.2.1, h2.2.2.2.trans h1.2.2.2⟩
  obtain ⟨p1, p2, p3⟩ := h1.1 a a3 a4 a5 a6
  obtain ⟨q1, q2, q3⟩ := h2.1 a a3 a4 a5 a6
  exact ⟨q1.trans p1, q2.trans p2, q3.trans p3⟩
theorem zput_f : zfc μ (zput μ s q pl v) := by
  intro a a3 a4 a5 a6
  refine ⟨?_, ?_, ?_⟩
  · unfold zput
    rw [zr_II, if_neg a3, zr_IL, zr_II, if_neg a5, zr_IR]
  · unfold zput
    rw [zr_LI, zr_LL, if_neg a6, zr_LI, zr_LR]
  · unfold zput
    rw [zr_RI, zr_RL, zr_RI, zr_RR, if_neg a4]
theorem zputE_f {e : Int32} : zfc μ (xe_setI (zput μ s q pl v) 3 4 e) := by
  refine zfc_t zput_f (fun a a3 a4 a5 a6 => ⟨?_, rfl, rfl⟩)
  rw [zr_II, if_neg a3]
theorem zrpt_f : zfr ν (zrpt ν s k pl w) := by
  refine ⟨fun a a3 a4 a5 a6 => ⟨?_, ?_, ?_⟩, fun j hj => ?_, ?_, ?_⟩
  · unfold zrpt
    rw [zr_II, if_neg a3, zr_IL, zr_II, if_neg a5, zr_II, if_neg a4]
  · unfold zrpt
    rw [zr_LI, zr_LL, if_neg a6, zr_LI, zr_LI]
  · unfold zrpt
    rw [zr_RI, zr_RL, zr_RI, zr_RI]
  · unfold zrpt
    rw [xu_In (by omega)]
    show xe_I (xe_setI (xe_setI ν 207 s k) 208 s (nI pl)) 203 j = _
    rw [xu_In (by omega), xu_In (by omega)]
  · unfold zrpt
    rw [zr_LI, zr_LL, if_neg (by decide), zr_LI, zr_LI]
  · unfold zrpt
    rw [zr_RI, zr_RL, zr_RI, zr_RI]
theorem zput_s : xe_I (zput μ s q pl v) 3 3 = nI (s + 1) := xu_I
theorem zrpt_s : xe_I (zrpt ν s k pl w) 203 6 = nI (s + 1) := xu_I
/-- the new token -/
theorem zput_tk (hk : zRk q k w v) (hp : pl ≤ 3000) : zTk (zput μ s q pl v) (zrpt ν s k pl w) s q pl := by
  refine ⟨?_, ?_, ?_, hp, ?_⟩
  · unfold zput
    rw [zr_RI, zr_RL, zr_RI, zr_RR, if_pos rfl, va_up_self]
  · unfold zput
    rw [zr_II, if_neg (by decide), zr_IL, zr_II, if_pos rfl, va_up_self]
  · unfold zrpt
    rw [zr_II, if_neg (by decide), zr_IL, zr_II, if_pos rfl, va_up_self]
  · have e1 : xe_I (zrpt ν s k pl w) 207 s = k := by
      unfold zrpt
      rw [zr_II, if_neg (by decide), zr_IL, zr_II, if_neg (by decide), zr_II, if_pos rfl, va_up_self]
    have e2 : xe_L (zrpt ν s k pl w) 209 s = w := by
      unfold zrpt
      rw [zr_LI, zr_LL, if_pos rfl, va_up_self]
    have e3 : xe_L (zput μ s q pl v) 6 s = v := by
      unfold zput
      rw [zr_LI, zr_LL, if_pos rfl, va_up_self]
    rw [e1, e2, e3]
    exact hk
/-- the tokens ahead -/
theorem zput_tn {i q' pl' : Nat} (hi : i < s) (h : zTk μ ν i q' pl') : zTk (zput μ s q pl v) (zrpt ν s k pl w) i q' pl' := by
  obtain ⟨h1, h2, h3, h4, h5⟩ := h
  have e1 : xe_I (zrpt ν s k pl w) 207 i = xe_I ν 207 i := by
    unfold zrpt
    rw [zr_II, if_neg (by decide), zr_IL, zr_II, if_neg (by decide), zr_II, if_pos rfl, va_up_ne _ _ (by omega)]
  have e2 : xe_L (zrpt ν s k pl w) 209 i = xe_L ν 209 i := by
    unfold zrpt
    rw [zr_LI, zr_LL, if_pos rfl, va_up_ne _ _ (by omega), zr_LI, zr_LI]
  have e3 : xe_L (zput μ s q pl v) 6 i = xe_L μ 6 i := by
    unfold zput
    rw [zr_LI, zr_LL, if_pos rfl, va_up_ne _ _ (by omega), zr_LI, zr_LR]
  refine ⟨?_, ?_, ?_, h4, by rw [e1, e2, e3]; exact h5⟩
  · unfold zput
    rw [zr_RI, zr_RL, zr_RI, zr_RR, if_pos rfl, va_up_ne _ _ (by omega)]
    exact h1
  · unfold zput
    rw [zr_II, if_neg (by decide), zr_IL, zr_II, if_pos rfl, va_up_ne _ _ (by omega), zr_IR]
    exact h2
  · unfold zrpt
    rw [zr_II, if_neg (by decide), zr_IL, zr_II, if_pos rfl, va_up_ne _ _ (by omega), zr_II, if_neg (by decide)]
    exact h3
theorem zTk_E {i q' pl' : Nat} {e : Int32} (h : zTk μ ν i q' pl') : zTk (xe_setI μ 3 4 e) ν i q' pl' := by
  obtain ⟨h1, h2, h3, h4, h5⟩ := h
  refine ⟨h1, ?_, h3, h4, h5⟩
  rw [zr_II, if_neg (by decide)]
  exact h2
end
