/-! statements: an assignment -/
def zE20 (v1 : Int32) (v3 : Int64) (v5 v6 : Int32) (ν : xe_Mem) : zO := if 0 ≤ v5 then zD166_87 v1 v3 v5 v6 (-1) ν else if v6 = 0 then zD166_87 v1 v3 v5 v6 (-1) ν else zD166_57 zfu v1 v3 v5 v6 (-1) 0 ν
def zall (f : Nat → Bool) : Nat → Nat → Bool
  | 0, _ => true
  | m + 1, k => f k && zall f m (k + 1)
theorem zall_t {f : Nat → Bool} : ∀ m k, zall f m k = true ↔ ∀ i, k ≤ i → i < k + m → f i = true := by
  intro m
  induction m with
  | zero => intro k; exact ⟨fun _ i h1 h2 => by omega, fun _ => rfl⟩
  | succ m ih =>
    intro k
    unfold zall
    rw [Bool.and_eq_true, ih]
    constructor
    · intro h i h1 h2
      by_cases e : i = k
      · rw [e]; exact h.1
      · exact h.2 i (by omega) (by omega)
    · intro h
      exact ⟨h k (by omega) (by omega), fun i h1 h2 => h i (by omega) (by omega)⟩
section
variable {ν : xe_Mem} {x : Int64} {t m p0 : Nat} {v1 v2 : Int32}
theorem z166n (ht : xe_I ν 203 22 = nI t) (ht2 : t ≤ 24) {b : Bool} : ∀ r f k : Nat, k + r = t → r < f → zD166_20 f v1 v2 x (-1) (zb01 b) (nI k) ν = zE20 v1 x (-1) (zb01 b) ν := by
  intro r
  induction r with
  | zero =>
    intro f k hk hf
    obtain ⟨f, rfl⟩ : ∃ g, f = g + 1 := ⟨f - 1, by omega⟩
    show zD166_20_b (zD166_20 f) v1 v2 x (-1) (zb01 b) (nI k) ν = _
    unfold zD166_20_b
    rw [ht, if_pos (nI_le (by omega) (by omega))]
    rfl
  | succ r ih =>
    intro f k hk hf
    obtain ⟨f, rfl⟩ : ∃ g, f = g + 1 := ⟨f - 1, by omega⟩
    show zD166_20_b (zD166_20 f) v1 v2 x (-1) (zb01 b) (nI k) ν = _
    unfold zD166_20_b zD166_45 zD166_43 zD166_46
    rw [ht, if_neg (nI_ge (by omega) (by omega)), nI_1]
    cases b
    · rw [if_pos (by decide)]
      exact ih f (k + 1) (by omega) (by omega)
    · rw [if_neg (by decide), if_pos (by decide)]
      exact ih f (k + 1) (by omega) (by omega)
theorem z166p (ht : xe_I ν 203 22 = nI t) (ht2 : t ≤ 24) (hp : p0 < 12) (hm : m < 4) : ∀ (r f k : Nat) (b : Bool), k + r = t → r < f → zD166_20 f v1 (nI m) x (nI p0) (zb01 b) (nI k) ν = zE20 v1 x (nI p0) (zb01 (b && zall (fun k => decide (¬ (xe_I ν 218 k = nI m ∧ ¬ xe_I ν 227 (12 * k + p0) = 0))) r k)) ν := by
  intro r
  induction r with
  | zero =>
    intro f k b hk hf
    obtain ⟨f, rfl⟩ : ∃ g, f = g + 1 := ⟨f - 1, by omega⟩
    show zD166_20_b (zD166_20 f) v1 (nI m) x (nI p0) (zb01 b) (nI k) ν = _
    unfold zD166_20_b zall
    rw [ht, if_pos (nI_le (by omega) (by omega)), Bool.and_true]
    rfl
  | succ r ih =>
    intro f k b hk hf
    obtain ⟨f, rfl⟩ : ∃ g, f = g + 1 := ⟨f - 1, by omega⟩
    show zD166_20_b (zD166_20 f) v1 (nI m) x (nI p0) (zb01 b) (nI k) ν = _
    unfold zD166_20_b zD166_45 zD166_43 zD166_46 zall
    rw [ht, if_neg (nI_ge (by omega) (by omega)), nI_1]
    cases b
    · rw [if_pos (by decide), Bool.false_and]
      have e := ih f (k + 1) false (by omega) (by omega)
      rw [Bool.false_and] at e
      exact e
    · rw [if_neg (by decide), if_neg (nI_pos (by omega)), zx_nI (show k < 24 by omega) (by decide), Bool.true_and, show (12 * nI k + nI p0 : Int32) = nI (12 * k + p0) from by rw [show (12 : Int32) = nI 12 from rfl, zn_mul, nI_add]]
      have e0 := ih f (k + 1) false (by omega) (by omega)
      have e1 := ih f (k + 1) true (by omega) (by omega)
      rw [Bool.false_and] at e0
      rw [Bool.true_and] at e1
      by_cases h1 : xe_I ν 218 k = nI m
      · rw [if_pos h1, zx_nI (show 12 * k + p0 < 288 by omega) (by decide)]
        by_cases h2 : xe_I ν 227 (12 * k + p0) = 0
        · rw [if_pos h2, decide_eq_true (show ¬ (xe_I ν 218 k = nI m ∧ ¬ xe_I ν 227 (12 * k + p0) = 0) from fun q => q.2 h2), Bool.true_and]
          exact e1
        · rw [if_neg h2, decide_eq_false (show ¬ ¬ (xe_I ν 218 k = nI m ∧ ¬ xe_I ν 227 (12 * k + p0) = 0) from fun q => q ⟨h1, h2⟩), Bool.false_and]
          exact e0
      · rw [if_neg h1, decide_eq_true (show ¬ (xe_I ν 218 k = nI m ∧ ¬ xe_I ν 227 (12 * k + p0) = 0) from fun q => h1 q.1), Bool.true_and]
        exact e1
def zE57 (v1 : Int32) (v3 : Int64) (v5 v6 v7 : Int32) (Lc : Nat) (ν : xe_Mem) : zO := if 0 ≤ v7 then zD166_87 v1 v3 v5 v6 v7 ν else if Lc = 6 then zint 0 (xe_setI ν 203 11 1) else zD166_87 v1 v3 v5 v6 v7 ν
theorem z166l {Lc : Nat} {v5 v6 : Int32} (ht2 : t < 24) (hL : xe_I ν 223 t = nI Lc) (hL6 : Lc ≤ 6) : ∀ (r f k : Nat) (y : Int32), k + r = Lc → r < f → zD166_57 f (nI t) x v5 v6 y (nI k) ν = zE57 (nI t) x v5 v6 (zlast (fun k => decide (xe_L ν 241 k = x)) r k y) Lc ν := by
  intro r
  induction r with
  | zero =>
    intro f k y hk hf
    obtain ⟨f, rfl⟩ : ∃ g, f = g + 1 := ⟨f - 1, by omega⟩
    show zD166_57_b (zD166_57 f) (nI t) x v5 v6 y (nI k) ν = _
    unfold zD166_57_b zE57 zlast
    rw [zx_nI ht2 (by decide), hL, if_pos (nI_le (by omega) (by omega)), zx_nI ht2 (by decide), hL]
    have c6 : (nI Lc = (6 : Int32)) = (Lc = 6) := zi_eq (b := 6) (by omega) (by decide)
    by_cases h0 : 0 ≤ y
    · rw [if_pos h0, if_pos h0]
    · rw [if_neg h0, if_neg h0]
      by_cases h6 : Lc = 6
      · rw [if_pos (c6.mpr h6), if_pos h6, z150, zcI_ok]
        exact zz_0
      · rw [if_neg (fun e => h6 (c6.mp e)), if_neg h6]
  | succ r ih =>
    intro f k y hk hf
    obtain ⟨f, rfl⟩ : ∃ g, f = g + 1 := ⟨f - 1, by omega⟩
    show zD166_57_b (zD166_57 f) (nI t) x v5 v6 y (nI k) ν = _
    unfold zD166_57_b zD166_73 zlast
    rw [zx_nI ht2 (by decide), hL, if_neg (nI_ge (by omega) (by omega)), zx_nI (show k < 6 by omega) (by decide), nI_1]
    by_cases h1 : xe_L ν 241 k = x
    · rw [if_pos ((lg_cmp_eq _ _).mpr h1), ih f (k + 1) _ (by omega) (by omega), if_pos (decide_eq_true h1)]
    · rw [if_neg (fun e => h1 ((lg_cmp_eq _ _).mp e)), ih f (k + 1) _ (by omega) (by omega), if_neg (show ¬ decide (xe_L ν 241 k = x) = true from fun e => h1 (of_decide_eq_true e))]
end
/-- Names.add of a local -/
def znew (μ : xe_Mem) (s Lc : Nat) (x : Int64) : xe_Mem := xe_setI (xe_setI (xe_setI (xe_setL μ 183 s x) 184 s 0) 185 s (nI Lc)) 182 3 (nI (s + 1))
theorem z40 {μ : xe_Mem} {s Lc : Nat} {x : Int64} (hR : zRt μ) (hs : xe_I μ 182 3 = nI s) (h22 : s < 22) : zD40 182 x 0 (nI Lc) μ = some (.inl none, znew μ s Lc x) := by
  have q0 : xe_R μ 182 0 = some 183 := hR 182 0 183 rfl
  have q1 : xe_R μ 182 1 = some 184 := hR 182 1 184 rfl
  have q2 : xe_R μ 182 2 = some 185 := hR 182 2 185 rfl
  unfold zD40 zD40_30
  simp only [zq_m]
  rw [zo_in (ci := 3) rfl (by decide), q0, zs_some, za_in (N := 22) rfl (by decide), hs, if_neg (show ¬ Int32.ofNat 22 ≤ nI s from nI_ge (b := 22) h22 (by decide)), zs_some, za_in (N := 22) rfl (by decide), zx_nI h22 (by decide)]
  rw [show xe_R (xe_setL μ 183 s x) 182 1 = some 184 from q1, zs_some, za_in (N := 22) rfl (by decide), show xe_I (xe_setL μ 183 s x) 182 3 = nI s from hs, zx_nI h22 (by decide)]
  rw [show xe_R (xe_setI (xe_setL μ 183 s x) 184 s 0) 182 2 = some 185 from q2, zs_some, za_in (N := 22) rfl (by decide), show xe_I (xe_setI (xe_setL μ 183 s x) 184 s 0) 182 3 = nI s from (xu_In (by omega)).trans hs, zx_nI h22 (by decide)]
  rw [show xe_I (xe_setI (xe_setI (xe_setL μ 183 s x) 184 s 0) 185 s (nI Lc)) 182 3 = nI s from (xu_In (by omega)).trans ((xu_In (by omega)).trans hs), nI_1]
  rfl
