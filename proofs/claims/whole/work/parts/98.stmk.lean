/-! statements: closeBlock of an if, of an else -/
/-- the reference's memory where an else is taken -/
def zels (ν : xe_Mem) (p d w jp U : Nat) : xe_Mem := xe_setI (xe_setI (xe_setI (zrad (xe_setI (zcl ν p (d + 1)) 203 10 (nI (p + 2))) U 10 0) 240 jp (nI (U + 1))) 244 (d + 1) (nI U)) 246 (d + 1) (nI w)
section
variable {μ ν : xe_Mem} {p t d w U jp q pl : Nat}
theorem z156i (hp : xe_I ν 203 10 = nI p) (h3 : p + 1 < 3001) (ho : xe_I ν 203 53 = nI (d + 2)) (hd : d + 1 < 8) (hw : xe_I ν 245 (d + 1) = nI w) (hk : xe_I ν 243 (d + 1) = 1) (hj : xe_I ν 244 (d + 1) = nI jp) (hjp : jp < 6000) (hU : xe_I ν 203 47 = nI U) (hU2 : U < 6000) (hq : zTk μ ν (p + 1) q pl) : zD156 (nI t) ν = if q = 6 then (zq_cI (zD158 2 (zels ν p d w jp U)) fun x115 m113 => zq_z x115 <| some (.inl (some (.int x115)), m113)) else zD156_130 (nI (d + 1)) (nI w) (zcl ν p (d + 1)) := by
  have k1 : ∀ a j, (a ≠ 203 ∨ (j ≠ 10 ∧ j ≠ 53)) → xe_I (zcl ν p (d + 1)) a j = xe_I ν a j := fun a j h => zcl_o h
  have c1 : xe_I (zcl ν p (d + 1)) 203 10 = nI (p + 1) := by
    unfold zcl
    rw [xu_In (by omega)]
    exact xu_I
  have hq1 : zTk μ (zcl ν p (d + 1)) (p + 1) q pl := zTk_r hq (k1 207 (p + 1) (Or.inl (by decide))) (k1 208 (p + 1) (Or.inl (by decide))) rfl
  have s1 : (nI (d + 2) - 1 : Int32) = nI (d + 1) := zsub1 (d := d + 1) (by omega)
  unfold zD156
  simp only [zq_vI, zq_m]
  rw [ho, s1, zx_nI hd (by decide), zx_nI hd (by decide), hw, hk, if_neg (show ¬ (1 : Int32) = 0 by decide), hp, nI_1, show xe_I (xe_setI ν 203 10 (nI (p + 1))) 203 53 = nI (d + 2) from (xu_In (by omega)).trans ho, s1]
  have e0 : xe_setI (xe_setI ν 203 10 (nI (p + 1))) 203 53 (nI (d + 1)) = zcl ν p (d + 1) := rfl
  rw [e0, zx_nI hd (by decide), k1 243 (d + 1) (Or.inl (by decide)), hk, if_neg (show ¬ (1 : Int32) = 3 by decide), zx_nI hd (by decide), k1 243 (d + 1) (Or.inl (by decide)), hk, if_pos (show (1 : Int32) = 1 from rfl), show zD141 6 (zcl ν p (d + 1)) = _ from z141 c1 h3 hq1 (K := 6) (by decide), zcI_ok]
  by_cases h6 : q = 6
  · rw [decide_eq_true h6, if_neg (show ¬ zb01 true = 0 by decide), if_pos h6, c1, show (nI (p + 1) + 1 : Int32) = nI (p + 2) from nI_1 (p + 1)]
    have d1 : xe_I (xe_setI (zcl ν p (d + 1)) 203 10 (nI (p + 2))) 203 47 = nI U := (xu_In (by omega)).trans ((k1 203 47 (Or.inr (by decide))).trans hU)
    have d2 : xe_I (zrad (xe_setI (zcl ν p (d + 1)) 203 10 (nI (p + 2))) U 10 0) 244 (d + 1) = nI jp := by
      rw [zrad_o (Or.inl (by decide)) (by decide) (by decide), xu_In (by omega), k1 244 (d + 1) (Or.inl (by decide))]
      exact hj
    have d3 : xe_I (zrad (xe_setI (zcl ν p (d + 1)) 203 10 (nI (p + 2))) U 10 0) 203 47 = nI (U + 1) := zrad_s
    rw [z157 d1 hU2, zcV_ok, zx_nI hd (by decide), d2, zx_nI hjp (by decide), d3, zx_nI hd (by decide), show xe_I (xe_setI (zrad (xe_setI (zcl ν p (d + 1)) 203 10 (nI (p + 2))) U 10 0) 240 jp (nI (U + 1))) 203 47 = nI (U + 1) from (xu_In (by omega)).trans d3, show (nI (U + 1) - 1 : Int32) = nI U from by rw [show (1 : Int32) = nI 1 from rfl, zn_sub (by omega)]; rfl, zx_nI hd (by decide)]
    rfl
  · rw [decide_eq_false h6, if_pos (show zb01 false = 0 by decide), if_neg h6]
theorem z156j (hp : xe_I ν 203 10 = nI p) (ho : xe_I ν 203 53 = nI (d + 2)) (hd : d + 1 < 8) (hw : xe_I ν 245 (d + 1) = nI w) (hk : xe_I ν 243 (d + 1) = 2) : zD156 (nI t) ν = zD156_130 (nI (d + 1)) (nI w) (zcl ν p (d + 1)) := by
  have k1 : ∀ a j, (a ≠ 203 ∨ (j ≠ 10 ∧ j ≠ 53)) → xe_I (zcl ν p (d + 1)) a j = xe_I ν a j := fun a j h => zcl_o h
  have s1 : (nI (d + 2) - 1 : Int32) = nI (d + 1) := zsub1 (d := d + 1) (by omega)
  unfold zD156
  simp only [zq_vI, zq_m]
  rw [ho, s1, zx_nI hd (by decide), zx_nI hd (by decide), hw, hk, if_neg (show ¬ (2 : Int32) = 0 by decide), hp, nI_1, show xe_I (xe_setI ν 203 10 (nI (p + 1))) 203 53 = nI (d + 2) from (xu_In (by omega)).trans ho, s1]
  have e0 : xe_setI (xe_setI ν 203 10 (nI (p + 1))) 203 53 (nI (d + 1)) = zcl ν p (d + 1) := rfl
  rw [e0, zx_nI hd (by decide), k1 243 (d + 1) (Or.inl (by decide)), hk, if_neg (show ¬ (2 : Int32) = 3 by decide), zx_nI hd (by decide), k1 243 (d + 1) (Or.inl (by decide)), hk, if_neg (show ¬ (2 : Int32) = 1 by decide)]
end
