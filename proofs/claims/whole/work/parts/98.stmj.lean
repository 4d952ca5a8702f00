/-! statements: closeBlock -/
def zcl (ν : xe_Mem) (p d : Nat) : xe_Mem := xe_setI (xe_setI ν 203 10 (nI (p + 1))) 203 53 (nI d)
section
variable {ν : xe_Mem} {p t d w U w0 jp rd : Nat}
theorem zsub1 {d : Nat} (h : d < 100) : (nI (d + 1) - 1 : Int32) = nI d := by
  rw [show (1 : Int32) = nI 1 from rfl, zn_sub (by omega)]
  rfl
theorem zcl_o {a j : Nat} (h : a ≠ 203 ∨ (j ≠ 10 ∧ j ≠ 53)) : xe_I (zcl ν p d) a j = xe_I ν a j := by
  unfold zcl
  rw [xu_In (by omega), xu_In (by omega)]
/-- the task's own block -/
theorem z156a (hp : xe_I ν 203 10 = nI p) (ho : xe_I ν 203 53 = nI (d + 1)) (hd : d < 8) (ht : t < 24) (hw : xe_I ν 245 d = nI w) (hw2 : w < 2147483648) (hk : xe_I ν 243 d = 0) : zD156 (nI t) ν = if w ≤ 200 then zint 1 (zcl (xe_setI ν 222 t (nI w)) p d) else zint 0 (xe_setI ν 203 11 1) := by
  unfold zD156
  simp only [zq_vI, zq_m]
  rw [ho, zsub1 (by omega), zx_nI hd (by decide), zx_nI hd (by decide), hw, hk, if_pos rfl]
  by_cases h : w ≤ 200
  · rw [if_pos (show nI w ≤ (200 : Int32) from nI_le (b := 200) h (by decide)), if_pos h, zx_nI ht (by decide), show xe_I (xe_setI ν 222 t (nI w)) 203 10 = nI p from (xu_In (by omega)).trans hp, nI_1, show xe_I (xe_setI (xe_setI ν 222 t (nI w)) 203 10 (nI (p + 1))) 203 53 = nI (d + 1) from (xu_In (by omega)).trans ((xu_In (by omega)).trans ho), zsub1 (by omega)]
    rfl
  · rw [if_neg (show ¬ nI w ≤ (200 : Int32) from nI_ge (a := 200) (by omega) hw2), if_neg h, z150, zcI_ok]
    exact zz_0
/-- a repeat's block -/
theorem z156r (hp : xe_I ν 203 10 = nI p) (ho : xe_I ν 203 53 = nI (d + 2)) (hd : d + 1 < 8) (hw : xe_I ν 245 (d + 1) = nI w) (hk : xe_I ν 243 (d + 1) = 3) (hj : xe_I ν 244 (d + 1) = nI jp) (hr : xe_I ν 247 (d + 1) = nI rd) (h0 : xe_I ν 245 d = nI w0) (hU : xe_I ν 203 47 = nI U) (hU2 : U < 6000) : zD156 (nI t) ν = zint 1 (xe_setI (zrad (zcl ν p (d + 1)) U 12 (nI jp)) 245 d (nI (w0 + rd * (1 + w)))) := by
  have k1 : ∀ a j, (a ≠ 203 ∨ (j ≠ 10 ∧ j ≠ 53)) → xe_I (zcl ν p (d + 1)) a j = xe_I ν a j := fun a j h => zcl_o h
  have k2 : ∀ a j, a ≠ 203 → a ≠ 239 → a ≠ 240 → xe_I (zrad (zcl ν p (d + 1)) U 12 (nI jp)) a j = xe_I ν a j := fun a j h1 h2 h3 => by rw [zrad_o (Or.inl h1) h2 h3, k1 a j (Or.inl h1)]
  unfold zD156
  simp only [zq_vI, zq_m]
  rw [ho, show (nI (d + 2) - 1 : Int32) = nI (d + 1) from zsub1 (d := d + 1) (by omega), zx_nI hd (by decide), zx_nI hd (by decide), hw, hk, if_neg (by decide), hp, nI_1, show xe_I (xe_setI ν 203 10 (nI (p + 1))) 203 53 = nI (d + 2) from (xu_In (by omega)).trans ho, show (nI (d + 2) - 1 : Int32) = nI (d + 1) from zsub1 (d := d + 1) (by omega)]
  show (zq_x (nI (d + 1)) 8 fun j28 => if (xe_I (zcl ν p (d + 1)) 243 j28) = 3 then zq_x (nI (d + 1)) 8 fun j32 => zq_cV (zD157 12 (xe_I (zcl ν p (d + 1)) 244 j32) (zcl ν p (d + 1))) fun m36 => zq_x (nI (d + 1) - 1) 8 fun j38 => zq_x (nI (d + 1)) 8 fun j42 => zq_x (nI (d + 1) - 1) 8 fun j46 => some (.inl (some (.int 1)), xe_setI m36 245 j46 ((xe_I m36 245 j38) + ((xe_I m36 247 j42) * (1 + nI w)))) else _) = _
  rw [zx_nI hd (by decide), k1 243 (d + 1) (Or.inl (by decide)), hk, if_pos rfl, zx_nI hd (by decide), k1 244 (d + 1) (Or.inl (by decide)), hj, z157 ((k1 203 47 (Or.inr (by decide))).trans hU) hU2, zcV_ok, zsub1 (by omega), zx_nI (show d < 8 by omega) (by decide), zx_nI hd (by decide), zx_nI (show d < 8 by omega) (by decide), k2 245 d (by decide) (by decide) (by decide), h0, k2 247 (d + 1) (by decide) (by decide) (by decide), hr, show (1 + nI w : Int32) = nI (1 + w) from nI_add 1 w, zn_mul, nI_add]
/-- an if's block with no else behind it, or an else's -/
theorem z156_130 {ν1 : xe_Mem} (hd : d + 1 < 8) (hj : xe_I ν1 244 (d + 1) = nI jp) (hjp : jp < 6000) (hU : xe_I ν1 203 47 = nI U) (h0 : xe_I ν1 245 d = nI w0) (hw : w < 2147483648) {ot : Nat} (hot : ot < 2147483648) (hk : (xe_I ν1 243 (d + 1) = 2 ∧ xe_I ν1 246 (d + 1) = nI ot) ∨ (xe_I ν1 243 (d + 1) = 1 ∧ ot = 0)) : zD156_130 (nI (d + 1)) (nI w) ν1 = zint 1 (xe_setI (xe_setI ν1 240 jp (nI U)) 245 d (nI (w0 + (1 + max w ot)))) := by
  have e1 : zD156_151 (nI (d + 1)) (nI w) (nI ot) (xe_setI ν1 240 jp (nI U)) = zint 1 (xe_setI (xe_setI ν1 240 jp (nI U)) 245 d (nI (w0 + (1 + max w ot)))) := by
    unfold zD156_151 zD156_166
    simp only [zq_m]
    rw [zsub1 (by omega), zx_nI (show d < 8 by omega) (by decide), zx_nI (show d < 8 by omega) (by decide), zx_nI (show d < 8 by omega) (by decide), show xe_I (xe_setI ν1 240 jp (nI U)) 245 d = nI w0 from (xu_In (by omega)).trans h0]
    by_cases h : w ≤ ot
    · rw [if_pos (nI_le h hot), show (1 + nI ot : Int32) = nI (1 + ot) from nI_add 1 ot, nI_add, Nat.max_eq_right h]
    · rw [if_neg (nI_ge (by omega) hw), show (1 + nI w : Int32) = nI (1 + w) from nI_add 1 w, nI_add, Nat.max_eq_left (by omega)]
  unfold zD156_130
  simp only [zq_m]
  rw [zx_nI hd (by decide), hj, zx_nI hjp (by decide), hU, zx_nI hd (by decide), show xe_I (xe_setI ν1 240 jp (nI U)) 243 (d + 1) = xe_I ν1 243 (d + 1) from xu_In (by omega)]
  rcases hk with ⟨k1, k2⟩ | ⟨k1, k2⟩
  · rw [k1, if_pos rfl, zx_nI hd (by decide), show xe_I (xe_setI ν1 240 jp (nI U)) 246 (d + 1) = nI ot from (xu_In (by omega)).trans k2]
    exact e1
  · rw [k1, if_neg (by decide)]
    subst k2
    exact e1
end
