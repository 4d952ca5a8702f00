/-! the reference's name; a token's turn in both -/
def zD138f (v1 v2 v3 : Int32) (v4 : Int64) (v6 : Int32) (μ : xe_Mem) : zO := if v3 = 0 then if (v2 - v1) ≤ 8 then if v6 < 0 then zD138_58 v1 v4 v6 1 μ else zD138_58 v1 v4 v6 4 μ else zD138_46 v1 μ else zD138_46 v1 μ
def zlast (E : Nat → Bool) : Nat → Nat → Int32 → Int32
  | 0, _, x => x
  | r + 1, w, x => zlast E r (w + 1) (if E w = true then nI w else x)
section
variable {ν : xe_Mem} {tb : Nat → Nat} {n : Nat} {v1 v2 v3 : Int32}
theorem z138_23 {v : Int64} : ∀ (r f w : Nat) (x : Int32), w + r = 11 → r < f → zD138_23 f v1 v2 v3 v x (nI w) ν = zD138f v1 v2 v3 v (zlast (fun w => decide (xe_L ν 206 w = v)) r w x) ν := by
  intro r
  induction r with
  | zero =>
    intro f w x hw hf
    obtain ⟨f, rfl⟩ : ∃ g, f = g + 1 := ⟨f - 1, by omega⟩
    show zD138_23_b (zD138_23 f) v1 v2 v3 v x (nI w) ν = _
    unfold zD138_23_b
    rw [if_pos (show (11 : Int32) ≤ nI w from nI_le (a := 11) (by omega) (by omega))]
    rfl
  | succ r ih =>
    intro f w x hw hf
    obtain ⟨f, rfl⟩ : ∃ g, f = g + 1 := ⟨f - 1, by omega⟩
    show zD138_23_b (zD138_23 f) v1 v2 v3 v x (nI w) ν = _
    unfold zD138_23_b
    rw [if_neg (show ¬ (11 : Int32) ≤ nI w from nI_ge (b := 11) (by omega) (by omega)), zx_nI (show w < 11 by omega) (by decide)]
    unfold zlast zD138_36
    by_cases h : xe_L ν 206 w = v
    · rw [if_pos ((lg_cmp_eq _ _).mpr h), nI_1, ih f (w + 1) _ (by omega) (by omega)]
      simp only [decide_eq_true h, if_true]
    · rw [if_neg (fun q => h ((lg_cmp_eq _ _).mp q)), nI_1, ih f (w + 1) _ (by omega) (by omega)]
      simp only [decide_eq_false h, Bool.false_eq_true, if_false]
theorem z138_4 (hB : zBr (xe_I ν 205) tb n) (hn : n ≤ 3000) {e : Nat} (he : e ≤ n) : ∀ (m f k : Nat) (v : Int64), k + m = e → m < f → zD138_4 f v1 (nI e) v3 v (nI k) ν = zD138_23 zfu v1 (nI e) v3 (zacc tb m k v) (-1) 0 ν := by
  intro m
  induction m with
  | zero =>
    intro f k v hk hf
    obtain ⟨f, rfl⟩ : ∃ g, f = g + 1 := ⟨f - 1, by omega⟩
    show zD138_4_b (zD138_4 f) v1 (nI e) v3 v (nI k) ν = _
    unfold zD138_4_b
    rw [if_pos (nI_le (by omega) (by omega))]
    rfl
  | succ m ih =>
    intro f k v hk hf
    obtain ⟨f, rfl⟩ : ∃ g, f = g + 1 := ⟨f - 1, by omega⟩
    show zD138_4_b (zD138_4 f) v1 (nI e) v3 v (nI k) ν = _
    unfold zD138_4_b
    have hb := hB k (by omega)
    rw [if_neg (nI_ge (by omega) (by omega)), zx_nI (show k < 3000 by omega) (by decide), hb.2, zn_64 (by omega)]
    show zD138_4 f v1 (nI e) v3 ((v <<< ((8 : Int32).toInt64 &&& 63)) ||| nL (tb k)) (nI k + 1) ν = _
    rw [nI_1, ih f (k + 1) _ (by omega) (by omega)]
    rfl
theorem zlast_no {E : Nat → Bool} {x : Int32} : ∀ r w, (∀ y, w ≤ y → y < w + r → E y = false) → zlast E r w x = x := by
  intro r
  induction r with
  | zero => intro w _; rfl
  | succ r ih =>
    intro w h
    unfold zlast
    rw [if_neg (by rw [h w (by omega) (by omega)]; decide)]
    exact ih (w + 1) (fun y h1 h2 => h y (by omega) (by omega))
theorem zlast_one {E : Nat → Bool} {z : Nat} (hz : E z = true) : ∀ r w x, w ≤ z → z < w + r → (∀ y, w ≤ y → y < w + r → E y = true → y = z) → zlast E r w x = nI z := by
  intro r
  induction r with
  | zero => intro w x h1 h2; omega
  | succ r ih =>
    intro w x h1 h2 h
    unfold zlast
    by_cases hw : w = z
    · subst hw
      rw [if_pos hz]
      refine zlast_no r (w + 1) (fun y h3 h4 => ?_)
      cases hy : E y with
      | false => rfl
      | true =>
        have := h y (by omega) (by omega) hy
        omega
    · exact ih (w + 1) _ (by omega) (by omega) (fun y h3 h4 => h y (by omega) (by omega))
/-- name -/
theorem z138 (hB : zBr (xe_I ν 205) tb n) (hn : n ≤ 3000) (hW : ∀ w, w < 11 → xe_L ν 206 w = nL (zlr (zwd w).reverse)) {a m s : Nat} (hA : ∀ i, a ≤ i → i < a + m → zAl (tb i) = true) (hm : 0 < m) (he : a + m ≤ n) (hs : xe_I ν 203 6 = nI s) (h3002 : s < 3002) :
    zD138 (nI a) (nI (a + m)) v3 ν = some (.inl none, if v3 = 0 ∧ m ≤ 8 then (if zwi (ztx tb a m) 11 0 < 11 then zrpt ν s 4 a (nL (zwi (ztx tb a m) 11 0)) else zrpt ν s 1 a (zacc tb m a 0)) else zrpt ν s 5 a 0) := by
  have hA' : ∀ i, a ≤ i → i < a + m → tb i < 256 ∧ zAl (tb i) = true := fun i h1 h2 => ⟨(hB i (by omega)).1, hA i h1 h2⟩
  show zD138_4 zfu (nI a) (nI (a + m)) v3 0 (nI a) ν = _
  rw [z138_4 hB hn he m zfu a 0 rfl (zfu_lt (by omega))]
  show zD138_23 zfu (nI a) (nI (a + m)) v3 (zacc tb m a 0) (-1) (nI 0) ν = _
  rw [z138_23 11 zfu 0 (-1) rfl (zfu_lt (by decide))]
  unfold zD138f zD138_46
  rw [zn_sub (by omega), show a + m - a = m by omega, z135 hs h3002, zcV_ok]
  by_cases hv : v3 = 0
  · rw [if_pos hv]
    by_cases h8 : m ≤ 8
    · rw [if_pos (show nI m ≤ (8 : Int32) from nI_le (b := 8) h8 (by decide)), if_pos (show v3 = 0 ∧ m ≤ 8 from ⟨hv, h8⟩)]
      have hE : ∀ w, w < 11 → decide (xe_L ν 206 w = zacc tb m a 0) = decide (ztx tb a m = zwd w) := by
        intro w hw
        rw [hW w hw]
        by_cases q : ztx tb a m = zwd w
        · rw [decide_eq_true q, decide_eq_true ((zval_w hA' h8 hw).mpr q)]
        · rw [decide_eq_false q, decide_eq_false (fun h => q ((zval_w hA' h8 hw).mp h))]
      unfold zD138_58 zD138_65 zD138_66
      rcases zwi_lt (ztx tb a m) 11 0 rfl with ⟨h1, h2⟩ | ⟨h1, h2⟩
      · have hl : zlast (fun w => decide (xe_L ν 206 w = zacc tb m a 0)) 11 0 (-1) = nI (zwi (ztx tb a m) 11 0) := by
          refine zlast_one (z := zwi (ztx tb a m) 11 0) ?_ 11 0 (-1) (by omega) (by omega) (fun y h3 h4 h5 => ?_)
          · rw [hE _ h1]
            exact decide_eq_true h2
          · have h6 : ztx tb a m = zwd y := by
              have h7 : decide (xe_L ν 206 y = zacc tb m a 0) = true := h5
              rw [hE y (by omega)] at h7
              exact of_decide_eq_true h7
            exact zwd_ne y (by omega) _ h1 (h6.symm.trans h2)
        rw [hl, if_neg (nI_pos (by omega)), if_neg (nI_pos (by omega)), if_pos h1, zn_64 (by omega), z135 hs h3002, zcV_ok]
      · have hl : zlast (fun w => decide (xe_L ν 206 w = zacc tb m a 0)) 11 0 (-1) = -1 := by
          refine zlast_no 11 0 (fun y h3 h4 => ?_)
          show decide (xe_L ν 206 y = zacc tb m a 0) = false
          rw [hE y (by omega)]
          exact decide_eq_false (h2 y (by omega) (by omega))
        rw [hl, if_pos (by decide), if_pos (by decide), if_neg (by omega), z135 hs h3002, zcV_ok]
    · rw [if_neg (show ¬ nI m ≤ (8 : Int32) from nI_ge (a := 8) (by omega) (by omega)), if_neg (show ¬ (v3 = 0 ∧ m ≤ 8) from fun q => h8 q.2)]
      rfl
  · rw [if_neg hv, if_neg (show ¬ (v3 = 0 ∧ m ≤ 8) from fun q => hv q.1)]
    rfl
end
