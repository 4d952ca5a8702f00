/-! the kinds by their spellings -/
def ztx (tb : Nat → Nat) : Nat → Nat → List Nat
  | _, 0 => []
  | a, m + 1 => tb a :: ztx tb (a + 1) m
theorem ztx_len (tb : Nat → Nat) : ∀ m a, (ztx tb a m).length = m := by
  intro m
  induction m with
  | zero => intro a; rfl
  | succ m ih => intro a; show (ztx tb (a + 1) m).length + 1 = m + 1; rw [ih]
def zsq (q : Nat) : List Int32 := xg_sp.getD q []
theorem zsp_q (q : Nat) : zsp (1000031 + (1000001 + q - 1000001)) = zsq q := by
  unfold zsp zsq
  rw [show 1000060 + (1000031 + (1000001 + q - 1000001) - 1000031) - 1000060 = q by omega]
theorem zsq_ok : ∀ l ∈ xg_sp, ∀ c ∈ l, 0 ≤ c ∧ c < 128 ∧ zch c = c := by decide +kernel
theorem zsq_mem {q : Nat} {c : Int32} (h : c ∈ zsq q) : 0 ≤ c ∧ c < 128 ∧ zch c = c := by
  unfold zsq at h
  rw [List.getD_eq_getElem?_getD] at h
  cases hq : xg_sp[q]? with
  | none => rw [hq] at h; cases h
  | some l => rw [hq] at h; exact zsq_ok l (List.mem_of_getElem? hq) c h
theorem zsq_len (q : Nat) : (zsq q).length < 100 := by
  have h := zsp_len (a0 := 1000031 + (1000001 + q - 1000001))
  rw [zsp_q] at h
  exact h
theorem zshr0 : ∀ n, n < 100 → Int32.ofNat n >>> ((0 : Int32) &&& 31) = nI n := by decide +kernel
section
variable {μ : xe_Mem} {tb : Nat → Nat} {n a q : Nat}
theorem z25 (hq : q < 29) : zD25 (1000031 + (1000001 + q - 1000001)) μ = zint (nI (zsq q).length) μ := by
  unfold zD25
  rw [if_pos (by omega), zsp_q, zshr0 _ (zsq_len q)]
theorem z27 (hq : q < 29) {i : Nat} (hi : i < (zsq q).length) : zD27 (1000031 + (1000001 + q - 1000001)) (nI i) μ = zint ((zsq q).getD i 0) μ := by
  have hl := zsq_len q
  unfold zD27
  rw [if_pos (by omega), zsp_q, zx_nI hi (by omega)]
  have hm : (zsq q).getD i 0 ∈ zsq q := by
    rw [List.getD_eq_getElem?_getD, List.getElem?_eq_getElem hi]
    exact List.getElem_mem hi
  obtain ⟨h1, h2, h3⟩ := zsq_mem hm
  rw [h3, if_pos ⟨h1, h2⟩]
theorem zdrop {l : List Int32} {i : Nat} (h : i < l.length) : l.drop i = l.getD i 0 :: l.drop (i + 1) := by
  rw [List.getD_eq_getElem?_getD, List.getElem?_eq_getElem h]
  exact List.drop_eq_getElem_cons h
theorem z24l (hB : zBc (xe_I μ 2) tb n) (hn : n ≤ 3000) (hq : q < 29) {m : Nat} (hm : (zsq q).length = m) (ha : a + m ≤ n) : ∀ r f i : Nat, i + r = m → r < f → zD24_11 f (1000001 + q) (nI a) (nI (a + m)) (nI (a + i)) μ = zint (zb01 (decide ((zsq q).drop i = (ztx tb (a + i) r).map zcB))) μ := by
  intro r
  induction r with
  | zero =>
    intro f i hi hf
    obtain ⟨f, rfl⟩ : ∃ g, f = g + 1 := ⟨f - 1, by omega⟩
    show zD24_11_b (zD24_11 f) (1000001 + q) (nI a) (nI (a + m)) (nI (a + i)) μ = _
    unfold zD24_11_b
    rw [if_pos (nI_le (by omega) (by omega)), List.drop_of_length_le (by omega)]
    rfl
  | succ r ih =>
    intro f i hi hf
    obtain ⟨f, rfl⟩ : ∃ g, f = g + 1 := ⟨f - 1, by omega⟩
    show zD24_11_b (zD24_11 f) (1000001 + q) (nI a) (nI (a + m)) (nI (a + i)) μ = _
    unfold zD24_11_b
    have hb := hB (a + i) (by omega)
    rw [if_neg (nI_ge (by omega) (by omega)), zk_ok (by omega), zn_sub (by omega), show a + i - a = i by omega, z27 hq (by omega), zcI_ok, zx_nI (show a + i < 3000 by omega) (by decide), hb.2, zdrop (by omega)]
    show _ = zint (zb01 (decide ((zsq q).getD i 0 :: (zsq q).drop (i + 1) = zcB (tb (a + i)) :: (ztx tb (a + i + 1) r).map zcB))) μ
    by_cases hc : (zsq q).getD i 0 = zcB (tb (a + i))
    · rw [if_pos hc, nI_1, show a + i + 1 = a + (i + 1) by omega, ih f (i + 1) (by omega) (by omega), hc]
      congr 3
      exact propext ⟨fun h => by rw [h], fun h => (List.cons.inj h).2⟩
    · rw [if_neg hc, decide_eq_false (fun h => hc (List.cons.inj h).1)]
      rfl
/-- the q-th kind's spelling is the text's m bytes at a -/
def zis (tb : Nat → Nat) (a m q : Nat) : Bool := decide (zsq q = (ztx tb a m).map zcB)
theorem z24 (hB : zBc (xe_I μ 2) tb n) (hn : n ≤ 3000) (hq : q < 29) {m : Nat} (ha : a + m ≤ n) : zD24 (1000001 + q) (nI a) (nI (a + m)) μ = zint (zb01 (zis tb a m q)) μ := by
  have hl := zsq_len q
  unfold zD24
  rw [zk_ok (by omega), z25 hq, zcI_ok, zn_sub (by omega), show a + m - a = m by omega]
  by_cases hm : (zsq q).length = m
  · rw [if_pos (by rw [hm])]
    have := z24l (q := q) hB hn hq hm ha m zfu 0 (by omega) (zfu_lt (by omega))
    rw [Nat.add_zero] at this
    exact this
  · rw [if_neg (fun h => hm (by
      have h2 := congrArg Int32.toInt h
      rw [nI_toInt (by omega), nI_toInt (by omega)] at h2
      omega))]
    unfold zis
    rw [decide_eq_false (fun h => hm (by rw [h, List.length_map, ztx_len]))]
    rfl
def zfk (p : Nat → Bool) (oth : Nat) : Nat → Nat → Nat
  | 0, _ => oth
  | r + 1, q => if p q = true then 1000001 + q else zfk p oth r (q + 1)
theorem z23 (hB : zBc (xe_I μ 2) tb n) (hn : n ≤ 3000) {m oth : Nat} (ha : a + m ≤ n) : ∀ r f q : Nat, q + r = 29 → r < f → zD23_2 f (nI a) (nI (a + m)) oth (nI q) μ = some (.inl (some (.ref (zfk (zis tb a m) oth r q))), μ) := by
  intro r
  induction r with
  | zero =>
    intro f q hq hf
    obtain ⟨f, rfl⟩ : ∃ g, f = g + 1 := ⟨f - 1, by omega⟩
    show zD23_2_b (zD23_2 f) (nI a) (nI (a + m)) oth (nI q) μ = _
    unfold zD23_2_b
    rw [if_pos (show (29 : Int32) ≤ nI q from nI_le (a := 29) (by omega) (by omega))]
    rfl
  | succ r ih =>
    intro f q hq hf
    obtain ⟨f, rfl⟩ : ∃ g, f = g + 1 := ⟨f - 1, by omega⟩
    show zD23_2_b (zD23_2 f) (nI a) (nI (a + m)) oth (nI q) μ = _
    unfold zD23_2_b
    rw [if_neg (show ¬ (29 : Int32) ≤ nI q from nI_ge (b := 29) (by omega) (by omega)), zx_nI (show q < 29 by omega) (by decide), z24 hB hn (by omega) ha, zcI_ok, zx_nI (show q < 29 by omega) (by decide)]
    unfold zfk
    cases hc : zis tb a m q with
    | true => rfl
    | false =>
      rw [if_pos (by decide), nI_1, ih f (q + 1) (by omega) (by omega)]
      rfl
end
