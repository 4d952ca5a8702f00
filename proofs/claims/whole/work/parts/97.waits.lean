/-! the reference's waiting signs -/
def zlv (q : Nat) : Nat := if q ≤ 19 then 0 else if q ≤ 21 then 1 else 2
def ztg (x : Nat) : Nat := if x = 42 ∨ x = 47 ∨ x = 37 then 3 else if x = 43 ∨ x = 45 then 2 else if x = 60 ∨ x = 62 then 1 else 0
theorem ztg_s : ∀ q, q < 25 → 18 ≤ q → ztg (zsc q) = zlv q + 1 := by decide +kernel
theorem zkl_q : ∀ q, q < 29 → List.getD xg_kl (1000001 + q - 1000001) 0 = if 18 ≤ q ∧ q ≤ 24 then nI (zlv q) else -1 := by
  have h : ∀ q, q < 29 → List.getD xg_kl q 0 = if 18 ≤ q ∧ q ≤ 24 then nI (zlv q) else -1 := by decide +kernel
  intro q hq
  rw [show 1000001 + q - 1000001 = q by omega]
  exact h q hq
def ztg3 (x : Int32) : Int32 := if x = 42 then 3 else if x = 47 then 3 else if x = 37 then 3 else if x = 43 then 2 else if x = 45 then 2 else if x = 60 then 1 else if x = 62 then 1 else 0
theorem ztg3_r : ∀ x, x < 256 → ztg3 (nI x) = nI (ztg x) := by decide +kernel
theorem ztg_lt (x : Nat) : ztg x < 4 := by
  unfold ztg
  split
  · decide
  · split
    · decide
    · split <;> decide
theorem z165 {ν : xe_Mem} {x : Nat} (hx : x < 256) : zD165 (nI x) ν = zint (nI (ztg x)) ν := by
  rw [← ztg3_r x hx]
  unfold zD165 zD165_9 zD165_17 zD165_25 zD165_28 ztg3
  exact zif_s rfl (zif_s rfl (zif_s rfl (zif_s rfl (zif_s rfl (zif_s rfl (zif_s rfl rfl))))))
/-- a stack in a row, its top first -/
def zWt (r : Nat → Int32) : List Nat → Prop
  | [] => True
  | x :: W => r W.length = nI x ∧ zWt r W
def zTw (ν : xe_Mem) : Nat → List Nat → Prop
  | _, [] => True
  | U, q :: P => xe_I ν 239 U = 6 ∧ xe_I ν 240 U = nI (zsc q) ∧ zTw ν (U + 1) P
def zXs (U a j : Nat) : Bool := (a == 203 && (j == 61 || j == 47)) || ((a == 239 || a == 240) && Nat.ble U j)
theorem zXs_w {U V : Nat} (h : U ≤ V) : ∀ a j, zXs U a j = false → zXs V a j = false := by
  intro a j
  unfold zXs
  simp only [Bool.or_eq_false_iff, Bool.and_eq_false_iff, beq_eq_false_iff_ne, ne_eq]
  intro q
  refine ⟨q.1, ?_⟩
  rcases q.2 with q2 | q2
  · exact Or.inl q2
  · refine Or.inr ?_
    cases hb : Nat.ble V j with
    | false => rfl
    | true =>
      have := Nat.le_of_ble_eq_true hb
      rw [Nat.ble_eq_true_of_le (show U ≤ j by omega)] at q2
      cases q2
theorem zrad_s {ν : xe_Mem} {U : Nat} {x y : Int32} : xe_I (zrad ν U x y) 203 47 = nI (U + 1) := xu_I
theorem zrad_f {ν : xe_Mem} {U : Nat} {x y : Int32} : zfI (zXs U) ν (zrad ν U x y) := by
  have e : Nat.ble U U = true := Nat.ble_eq_true_of_le (Nat.le_refl U)
  refine zfI_t (zfI_t (zfI_s ?_) (zfI_s ?_)) (zfI_s rfl)
  · show ((239 == 203 && _) || ((239 == 239 || 239 == 240) && Nat.ble U U)) = true
    rw [e]; rfl
  · show ((240 == 203 && _) || ((240 == 239 || 240 == 240) && Nat.ble U U)) = true
    rw [e]; rfl
theorem zrad_e {ν : xe_Mem} {U : Nat} {x y : Int32} : xe_I (zrad ν U x y) 239 U = x ∧ xe_I (zrad ν U x y) 240 U = y := by
  unfold zrad
  constructor
  · rw [xu_In (by omega), xu_In (by omega)]
    exact xu_I
  · rw [xu_In (by omega)]
    exact xu_I
theorem zrad_o {ν : xe_Mem} {U a j : Nat} {x y : Int32} (h : a ≠ 203 ∨ j ≠ 47) (h1 : a ≠ 239) (h2 : a ≠ 240) : xe_I (zrad ν U x y) a j = xe_I ν a j := by
  unfold zrad
  rw [xu_In (by omega), xu_In (by omega), xu_In (by omega)]
theorem z_settle {least : Nat} (hl : 1 ≤ least) (hl3 : least ≤ 3) {W : List Nat} (hW : W = [] ∨ ∃ x W', W = x :: W' ∧ x < 256 ∧ ztg x < least) : ∀ (Pn : List Nat) (ν : xe_Mem) (U h : Nat), (∀ q ∈ Pn, 18 ≤ q ∧ q ≤ 24 ∧ least ≤ zlv q + 1) → Pn.length + W.length ≤ 69 → xe_I ν 203 61 = nI (Pn.length + W.length) → zWt (xe_I ν 248) (Pn.map zsc ++ W) → xe_I ν 203 47 = nI U → U + Pn.length ≤ 5999 → Pn.length < h → ∃ ν', zD164_0 h (nI least) ν = some (.inl none, ν') ∧ xe_I ν' 203 61 = nI W.length ∧ xe_I ν' 203 47 = nI (U + Pn.length) ∧ zTw ν' U Pn ∧ zfI (zXs U) ν ν' := by
  intro Pn
  induction Pn with
  | nil =>
    intro ν U h hP h69 hw hr hu hU hh
    obtain ⟨h, rfl⟩ : ∃ g, h = g + 1 := ⟨h - 1, by omega⟩
    rw [List.length_nil, Nat.zero_add] at hw h69
    refine ⟨ν, ?_, hw, hu, trivial, zfI_rfl⟩
    show zD164_0_b (zD164_0 h) (nI least) ν = _
    unfold zD164_0_b zD164_28
    rcases hW with rfl | ⟨x, W', rfl, hx, ht⟩
    · rw [hw, if_pos (by decide)]
    · rw [List.length_cons] at hw h69
      rw [hw, if_neg (show ¬ nI (W'.length + 1) ≤ (0 : Int32) from nI_ge (a := 0) (by omega) (by omega)), show (nI (W'.length + 1) - 1 : Int32) = nI W'.length from by rw [show (1 : Int32) = nI 1 from rfl, zn_sub (by omega)]; rfl, zx_nI (show W'.length < 70 by omega) (by decide), show xe_I ν 248 W'.length = nI x from hr.1, z165 hx, zcI_ok, if_pos (nI_lt ht (by omega))]
  | cons q P ih =>
    intro ν U h hP h69 hw hr hu hU hh
    obtain ⟨h, rfl⟩ : ∃ g, h = g + 1 := ⟨h - 1, by omega⟩
    rw [List.length_cons] at hw h69 hU hh
    obtain ⟨hq1, hq2, hq3⟩ := hP q List.mem_cons_self
    have hlen : (P.map zsc ++ W).length = P.length + W.length := by rw [List.length_append, List.length_map]
    have hr1 : xe_I ν 248 (P.length + W.length) = nI (zsc q) := by
      have this : xe_I ν 248 (P.map zsc ++ W).length = nI (zsc q) := hr.1
      rw [hlen] at this
      exact this
    have hr2 : zWt (xe_I ν 248) (P.map zsc ++ W) := hr.2
    have e1 : xe_I (xe_setI ν 203 61 (nI (P.length + W.length))) 203 47 = nI U := by rw [xu_In (by omega)]; exact hu
    obtain ⟨ν', g1, g2, g3, g4, g5⟩ := ih (zrad (xe_setI ν 203 61 (nI (P.length + W.length))) U 6 (nI (zsc q))) (U + 1) h (fun x hx => hP x (List.mem_cons_of_mem _ hx)) (by omega) (by
      rw [zrad_o (Or.inr (by decide)) (by decide) (by decide)]
      exact xu_I) (by
      have e2 : xe_I (zrad (xe_setI ν 203 61 (nI (P.length + W.length))) U 6 (nI (zsc q))) 248 = xe_I ν 248 := by
        funext j
        rw [zrad_o (Or.inl (by decide)) (by decide) (by decide), xu_In (by omega)]
      rw [e2]
      exact hr2) zrad_s (by omega) (by omega)
    have hz := zrad_e (ν := xe_setI ν 203 61 (nI (P.length + W.length))) (U := U) (x := 6) (y := nI (zsc q))
    have f1 : ∀ a, a < 265 → (a = 239 ∨ a = 240) → xe_I ν' a U = xe_I (zrad (xe_setI ν 203 61 (nI (P.length + W.length))) U 6 (nI (zsc q))) a U := by
      intro a ha h2
      refine (g5 a ha).1 U ?_
      unfold zXs
      have e3 : Nat.ble (U + 1) U = false := by
        cases hb : Nat.ble (U + 1) U with
        | false => rfl
        | true =>
          have := Nat.le_of_ble_eq_true hb
          omega
      rw [e3]
      rcases h2 with rfl | rfl <;> rfl
    refine ⟨ν', ?_, g2, by rw [g3, List.length_cons]; congr 1; omega, ⟨(f1 239 (by decide) (Or.inl rfl)).trans hz.1, (f1 240 (by decide) (Or.inr rfl)).trans hz.2, g4⟩, zfI_t (zfI_t (zfI_s rfl) zrad_f) (zfI_w g5 (zXs_w (by omega)))⟩
    show zD164_0_b (zD164_0 h) (nI least) ν = _
    unfold zD164_0_b
    simp only [zq_m]
    have hz2 := zsc_lt q
    rw [hw, if_neg (show ¬ nI (P.length + 1 + W.length) ≤ (0 : Int32) from nI_ge (a := 0) (by omega) (by omega)), show (nI (P.length + 1 + W.length) - 1 : Int32) = nI (P.length + W.length) from by rw [show (1 : Int32) = nI 1 from rfl, zn_sub (by omega)]; congr 1; omega, zx_nI (show P.length + W.length < 70 by omega) (by decide), hr1, z165 hz2, zcI_ok, ztg_s q (by omega) hq1, if_neg (nI_nlt hq3 (by unfold zlv; split <;> (try split) <;> omega)), show (xe_I ν 203 61 - 1 : Int32) = nI (P.length + W.length) from by rw [hw, show (1 : Int32) = nI 1 from rfl, zn_sub (by omega)]; congr 1; omega, xu_I, zx_nI (show P.length + W.length < 70 by omega) (by decide), show xe_I (xe_setI ν 203 61 (nI (P.length + W.length))) 248 (P.length + W.length) = nI (zsc q) from (xu_In (by omega)).trans hr1, z157 e1 (by omega), zcV_ok]
    exact g1
theorem z_turn_no {W : List Nat} {ν : xe_Mem} {h : Nat} (hW : W = [] ∨ ∃ x W', W = x :: W' ∧ x < 256 ∧ x ≠ 95) (h69 : W.length ≤ 69) (hw : xe_I ν 203 61 = nI W.length) (hr : zWt (xe_I ν 248) W) (hh : 0 < h) : zD163_0 h ν = some (.inl none, ν) := by
  obtain ⟨h, rfl⟩ : ∃ g, h = g + 1 := ⟨h - 1, by omega⟩
  show zD163_0_b (zD163_0 h) ν = _
  unfold zD163_0_b zD163_29
  rcases hW with rfl | ⟨x, W', rfl, hx, ht⟩
  · rw [hw, if_pos (by decide)]
  · rw [List.length_cons] at hw h69
    rw [hw, if_neg (show ¬ nI (W'.length + 1) ≤ (0 : Int32) from nI_ge (a := 0) (by omega) (by omega)), show (nI (W'.length + 1) - 1 : Int32) = nI W'.length from by rw [show (1 : Int32) = nI 1 from rfl, zn_sub (by omega)]; rfl, zx_nI (show W'.length < 70 by omega) (by decide), show xe_I ν 248 W'.length = nI x from hr.1, if_neg (fun q => by
      rw [show (95 : Int32) = nI 95 from rfl, zi_eq (by omega) (by decide)] at q
      exact ht q)]
theorem z_turn {W : List Nat} {ν : xe_Mem} {h U dep : Nat} (h69 : W.length < 69) (hw : xe_I ν 203 61 = nI (W.length + 1)) (hr : xe_I ν 248 W.length = nI 95) (hd : xe_I ν 203 60 = nI (dep + 1)) (hu : xe_I ν 203 47 = nI U) (hU : U < 6000) : zD163_0 (h + 1) ν = zD163_0 h (zrad (xe_setI (xe_setI ν 203 61 (nI W.length)) 203 60 (nI dep)) U 5 0) := by
  show zD163_0_b (zD163_0 h) ν = _
  unfold zD163_0_b
  simp only [zq_m]
  have e : (nI (W.length + 1) - 1 : Int32) = nI W.length := by rw [show (1 : Int32) = nI 1 from rfl, zn_sub (by omega)]; rfl
  have e2 : (nI (dep + 1) - 1 : Int32) = nI dep := by rw [show (1 : Int32) = nI 1 from rfl, zn_sub (by omega)]; rfl
  have e3 : xe_I (xe_setI ν 203 61 (nI W.length)) 203 60 = nI (dep + 1) := by rw [xu_In (by omega)]; exact hd
  have e4 : xe_I (xe_setI (xe_setI ν 203 61 (nI W.length)) 203 60 (nI dep)) 203 47 = nI U := by rw [xu_In (by omega), xu_In (by omega)]; exact hu
  rw [hw, if_neg (show ¬ nI (W.length + 1) ≤ (0 : Int32) from nI_ge (a := 0) (by omega) (by omega)), e, zx_nI (show W.length < 70 by omega) (by decide), hr, if_pos (show nI 95 = (95 : Int32) from rfl), e3, e2, z157 e4 hU, zcV_ok]
