/-! reading: what both hold between statements, tasks, modes -/
/-- the token at hand -/
def zPo (N : Nat) (μ ν : xe_Mem) (p : Nat) : Prop := zTE μ ν N ∧ xe_I μ 181 6 = nI p ∧ xe_I ν 203 10 = nI p ∧ p < N ∧ xe_I ν 203 11 = 0 ∧ 265 ≤ (xe_sh μ).length ∧ (xe_sh μ).length < xg_CT ∧ xe_sl μ + 6 ≤ xg_ST ∧ ∃ u, u < 4096 ∧ xe_I μ 181 9 = nI u
/-- the names of ports and sensors -/
def zNp (μ ν : xe_Mem) (P S : Nat) : Prop := P ≤ 12 ∧ S ≤ 4 ∧ xe_I ν 203 12 = nI P ∧ xe_I ν 203 15 = nI S ∧
  (∀ e, e < P + S → (∃ p, p < P ∧ xe_I μ 184 e = 2 ∧ xe_I μ 185 e = nI p ∧ xe_L μ 183 e = xe_L ν 210 p) ∨ (∃ s, s < S ∧ xe_I μ 184 e = 3 ∧ xe_I μ 185 e = nI s ∧ xe_L μ 183 e = xe_L ν 212 s)) ∧
  (∀ p, p < P → ∃ e, e < P + S ∧ xe_I μ 184 e = 2 ∧ xe_I μ 185 e = nI p ∧ xe_L μ 183 e = xe_L ν 210 p) ∧
  (∀ s, s < S → ∃ e, e < P + S ∧ xe_I μ 184 e = 3 ∧ xe_I μ 185 e = nI s ∧ xe_L μ 183 e = xe_L ν 212 s) ∧
  (∀ e e', e < P + S → e' < P + S → xe_L μ 183 e = xe_L μ 183 e' → e = e')
/-- cells that are kept: ints, longs, references -/
def zKI (Q : Nat → Nat → Prop) (μ μ' : xe_Mem) : Prop := ∀ a j, Q a j → xe_I μ' a j = xe_I μ a j
def zKL (Q : Nat → Nat → Prop) (μ μ' : xe_Mem) : Prop := ∀ a j, Q a j → xe_L μ' a j = xe_L μ a j
def zKR (Q : Nat → Nat → Prop) (μ μ' : xe_Mem) : Prop := ∀ a j, Q a j → xe_R μ' a j = xe_R μ a j
section
variable {Q Q' : Nat → Nat → Prop} {μ μ1 μ2 : xe_Mem} {a j : Nat}
theorem zKI_t (h1 : zKI Q μ μ1) (h2 : zKI Q μ1 μ2) : zKI Q μ μ2 := fun a j h => (h2 a j h).trans (h1 a j h)
theorem zKL_t (h1 : zKL Q μ μ1) (h2 : zKL Q μ1 μ2) : zKL Q μ μ2 := fun a j h => (h2 a j h).trans (h1 a j h)
theorem zKR_t (h1 : zKR Q μ μ1) (h2 : zKR Q μ1 μ2) : zKR Q μ μ2 := fun a j h => (h2 a j h).trans (h1 a j h)
theorem zKI_w (h1 : zKI Q μ μ1) (h : ∀ a j, Q' a j → Q a j) : zKI Q' μ μ1 := fun a j q => h1 a j (h a j q)
theorem zKI_I {v : Int32} (h : ¬ Q a j) : zKI Q μ (xe_setI μ a j v) := fun b i hb => xu_In (fun e => h (by rw [← e.1, ← e.2]; exact hb))
theorem zKI_L {v : Int64} : zKI Q μ (xe_setL μ a j v) := fun _ _ _ => rfl
theorem zKI_R {v : Option Nat} : zKI Q μ (xe_setR μ a j v) := fun _ _ _ => rfl
theorem zKL_I {v : Int32} : zKL Q μ (xe_setI μ a j v) := fun _ _ _ => rfl
theorem zKL_R {v : Option Nat} : zKL Q μ (xe_setR μ a j v) := fun _ _ _ => rfl
theorem zKR_I {v : Int32} : zKR Q μ (xe_setI μ a j v) := fun _ _ _ => rfl
theorem zKR_L {v : Int64} : zKR Q μ (xe_setL μ a j v) := fun _ _ _ => rfl
theorem zu_L {v : Int64} {b i : Nat} : xe_L (xe_setL μ a j v) b i = if b = a ∧ i = j then v else xe_L μ b i := rfl
theorem zu_R {v : Option Nat} {b i : Nat} : xe_R (xe_setR μ a j v) b i = if b = a ∧ i = j then v else xe_R μ b i := rfl
theorem zKL_L {v : Int64} (h : ¬ Q a j) : zKL Q μ (xe_setL μ a j v) := fun b i hb => by
  rw [zu_L, if_neg (fun e => h (by rw [← e.1, ← e.2]; exact hb))]
theorem zKR_R {v : Option Nat} (h : ¬ Q a j) : zKR Q μ (xe_setR μ a j v) := fun b i hb => by
  rw [zu_R, if_neg (fun e => h (by rw [← e.1, ← e.2]; exact hb))]
end
/-- a task that both have read: t of the mode m with the period per -/
def zTs (P S L U : Nat) (μ ν : xe_Mem) (m per t : Nat) : Prop := ∃ nd tm sp w lc ab ub a b off,
  (nd < 4 ∧ 1 ≤ tm ∧ tm * sp = per ∧ w ≤ 200 ∧ lc ≤ 6 ∧ ab < 2 ^ P ∧ ub < 4096 ∧ a ≤ b ∧ b ≤ L ∧ b + off < U) ∧
  (xe_I μ (61 + 5 * t) 1 = nI m ∧ xe_I μ (61 + 5 * t) 2 = nI nd ∧ xe_I μ (61 + 5 * t) 3 = nI sp ∧ xe_I μ (61 + 5 * t) 4 = nI w ∧ xe_I μ (61 + 5 * t) 5 = nI lc ∧ xe_I μ (61 + 5 * t) 6 = nI ab ∧ xe_I μ (61 + 5 * t) 7 = nI ub ∧ xe_I μ (61 + 5 * t) 8 = nI a ∧ xe_I μ (61 + 5 * t) 9 = nI b ∧ xe_I μ (61 + 5 * t) 11 = 0 ∧ xe_I μ (61 + 5 * t) 13 = nI sp) ∧
  (xe_I ν 218 t = nI m ∧ xe_I ν 219 t = nI nd ∧ xe_I ν 220 t = nI tm ∧ xe_I ν 221 t = nI sp ∧ xe_I ν 222 t = nI w ∧ xe_I ν 223 t = nI lc ∧ xe_I ν 224 t = nI (a + off)) ∧
  (∀ p, p < 12 → xe_I ν 227 (12 * t + p) = zb01 (Nat.testBit ab p) ∧ xe_I ν 226 (12 * t + p) = zb01 (Nat.testBit ub p || Nat.testBit ab p)) ∧
  zCd μ ν off a b ∧ zRw P S 0 μ a b w ∧ xe_I ν 239 (b + off) = 13
/-- a switch that both have read: the e-th of the mode m, the reference's k-th -/
def zEt (N P S L U : Nat) (μ ν : xe_Mem) (m per k e : Nat) : Prop := ∃ ev a b off tk,
  (1 ≤ ev ∧ ev ≤ per ∧ a < b ∧ b ≤ L ∧ b + off < U ∧ tk < N) ∧
  (xe_I μ (24 + 11 * m + e) 0 = nI ev ∧ xe_I μ (24 + 11 * m + e) 1 = nI a ∧ xe_I μ (24 + 11 * m + e) 2 = nI b ∧ xe_I μ (24 + 11 * m + e) 3 = nI tk) ∧
  (xe_I ν 231 k = nI m ∧ xe_I ν 232 k = nI ev ∧ xe_I ν 233 k = nI (a + off)) ∧
  zCd μ ν off a b ∧ zEq P S μ a b ∧ xe_I ν 239 (b + off) = 13 ∧ xe_L ν 234 k = xe_L μ 6 tk ∧ xe_I ν 235 k = xe_I μ 5 tk
/-- the slots of a mode: those of the reference from s to s' -/
def zSr (μ ν : xe_Mem) (m per s s' : Nat) : Prop := (∀ i, s ≤ i → i < s' → xe_I ν 236 i = nI m ∧ xe_I ν 238 i = -1 ∧ ∃ k, k < per ∧ xe_I ν 237 i = nI k) ∧ (∀ i i' k k', s ≤ i → i < i' → i' < s' → k < 120 → k' < 120 → xe_I ν 237 i = nI k → xe_I ν 237 i' = nI k' → k < k') ∧ ∀ k, k < 120 → ((¬ xe_I μ (20 + 11 * m) k = 0) ↔ ∃ i, s ≤ i ∧ i < s' ∧ xe_I ν 237 i = nI k)
/-- a mode: its tasks f to f', its switches k to k', its slots s to s' -/
def zMd (N P S L U : Nat) (μ ν : xe_Mem) (m per f f' k k' s s' : Nat) : Prop :=
  (1 ≤ per ∧ per ≤ 120 ∧ f ≤ f' ∧ f' ≤ f + 6 ∧ k ≤ k' ∧ k' ≤ k + 4 ∧ s ≤ s' ∧ s' ≤ s + 120) ∧
  (xe_I μ (17 + 11 * m) 1 = nI per ∧ xe_I ν 214 m = nI per ∧ xe_I μ (17 + 11 * m) 3 = nI (f' - f) ∧ xe_I μ (17 + 11 * m) 6 = nI (k' - k) ∧ xe_I μ (17 + 11 * m) 10 = 0 ∧ xe_L μ 187 m = xe_L ν 213 m) ∧
  (∀ i, i < f' - f → xe_R μ (18 + 11 * m) i = some (61 + 5 * (f + i))) ∧
  (∀ t, f ≤ t → t < f' → zTs P S L U μ ν m per t) ∧
  (∀ e, e < k' - k → zEt N P S L U μ ν m per (k + e) e) ∧ zSr μ ν m per s s'
/-- the modes before the M-th: their tasks are those before T, their switches those before Sw, their slots those before Sl -/
def zOm (N P S L U : Nat) (μ ν : xe_Mem) (M T Sw Sl : Nat) : Prop := ∃ F K Z pr : Nat → Nat, (F 0 = 0 ∧ K 0 = 0 ∧ Z 0 = 0 ∧ F M = T ∧ K M = Sw ∧ Z M = Sl) ∧ ∀ m, m < M → zMd N P S L U μ ν m (pr m) (F m) (F (m + 1)) (K m) (K (m + 1)) (Z m) (Z (m + 1))
/-- the class's cells that hold M modes, T tasks, L instructions -/
def zPI (M T L a j : Nat) : Prop := (∃ m, m < M ∧ (a = 17 + 11 * m ∨ a = 20 + 11 * m ∨ (24 + 11 * m ≤ a ∧ a < 28 + 11 * m))) ∨ (∃ t, t < T ∧ a = 61 + 5 * t) ∨ ((a = 9 ∨ a = 10) ∧ j < L) ∨ a = 5
def zPL (M a j : Nat) : Prop := a = 6 ∨ (a = 187 ∧ j < M)
def zPR (M a j : Nat) : Prop := ∃ m, m < M ∧ a = 18 + 11 * m
/-- the reference's -/
def zQI (M T Sw Sl U a j : Nat) : Prop := (a = 214 ∧ j < M) ∨ (218 ≤ a ∧ a ≤ 224 ∧ j < T) ∨ ((a = 226 ∨ a = 227) ∧ j < 12 * T) ∨ (231 ≤ a ∧ a ≤ 235 ∧ j < Sw) ∨ (236 ≤ a ∧ a ≤ 238 ∧ j < Sl) ∨ ((a = 239 ∨ a = 240) ∧ j < U)
def zQL (M Sw a j : Nat) : Prop := (a = 213 ∧ j < M) ∨ (a = 234 ∧ j < Sw)
def zKc (M T L : Nat) (μ μ' : xe_Mem) : Prop := zKI (zPI M T L) μ μ' ∧ zKL (zPL M) μ μ' ∧ zKR (zPR M) μ μ'
def zKd (M T Sw Sl U : Nat) (ν ν' : xe_Mem) : Prop := zKI (zQI M T Sw Sl U) ν ν' ∧ zKL (zQL M Sw) ν ν'
section
variable {N P S L L' U U' M T Sw Sl m per t k e s s' f f' k' : Nat} {μ ν μ' ν' μ1 ν1 : xe_Mem}
theorem zKc_t (h1 : zKc M T L μ μ1) (h2 : zKc M T L μ1 μ') : zKc M T L μ μ' := ⟨zKI_t h1.1 h2.1, zKL_t h1.2.1 h2.2.1, zKR_t h1.2.2 h2.2.2⟩
theorem zKd_t (h1 : zKd M T Sw Sl U ν ν1) (h2 : zKd M T Sw Sl U ν1 ν') : zKd M T Sw Sl U ν ν' := ⟨zKI_t h1.1 h2.1, zKL_t h1.2 h2.2⟩
theorem zKc_I {a j : Nat} {v : Int32} (h : ¬ zPI M T L a j) : zKc M T L μ (xe_setI μ a j v) := ⟨zKI_I h, zKL_I, zKR_I⟩
theorem zKc_L {a j : Nat} {v : Int64} (h : ¬ zPL M a j) : zKc M T L μ (xe_setL μ a j v) := ⟨zKI_L, zKL_L h, zKR_L⟩
theorem zKc_R {a j : Nat} {v : Option Nat} (h : ¬ zPR M a j) : zKc M T L μ (xe_setR μ a j v) := ⟨zKI_R, zKL_R, zKR_R h⟩
theorem zKd_I {a j : Nat} {v : Int32} (h : ¬ zQI M T Sw Sl U a j) : zKd M T Sw Sl U ν (xe_setI ν a j v) := ⟨zKI_I h, zKL_I⟩
theorem zKd_L {a j : Nat} {v : Int64} (h : ¬ zQL M Sw a j) : zKd M T Sw Sl U ν (xe_setL ν a j v) := ⟨zKI_L, zKL_L h⟩
theorem zCd_c {off a b : Nat} (h : zCd μ ν off a b) (h1 : ∀ i, i < b → xe_I μ' 9 i = xe_I μ 9 i ∧ xe_I μ' 10 i = xe_I μ 10 i) (h2 : ∀ i, i < b + off → xe_I ν' 239 i = xe_I ν 239 i ∧ xe_I ν' 240 i = xe_I ν 240 i) : zCd μ' ν' off a b := fun i q1 q2 => by
  rw [(h1 i q2).1, (h1 i q2).2, (h2 (i + off) (by omega)).1, (h2 (i + off) (by omega)).2]
  exact h i q1 q2
theorem zTs_k (h : zTs P S L U μ ν m per t) (ht : t < T) (hc : zKc M T L μ μ') (hd : zKd M T Sw Sl U ν ν') (hL : L ≤ L') (hU : U ≤ U') : zTs P S L' U' μ' ν' m per t := by
  obtain ⟨nd, tm, sp, w, lc, ab, ub, a, b, off, ⟨q1, q2, q3, q4, q5, q6, q7, q8, q9, q10⟩, hcs, hrs, hbs, hcd, hrw, h13⟩ := h
  have kc : ∀ j, xe_I μ' (61 + 5 * t) j = xe_I μ (61 + 5 * t) j := fun j => hc.1 _ _ (Or.inr (Or.inl ⟨t, ht, rfl⟩))
  have kd : ∀ a, 218 ≤ a → a ≤ 224 → xe_I ν' a t = xe_I ν a t := fun a h1 h2 => hd.1 _ _ (Or.inr (Or.inl ⟨h1, h2, ht⟩))
  have c1 : ∀ i, i < L → xe_I μ' 9 i = xe_I μ 9 i ∧ xe_I μ' 10 i = xe_I μ 10 i := fun i hi => ⟨hc.1 _ _ (Or.inr (Or.inr (Or.inl ⟨Or.inl rfl, hi⟩))), hc.1 _ _ (Or.inr (Or.inr (Or.inl ⟨Or.inr rfl, hi⟩)))⟩
  have d1 : ∀ i, i < U → xe_I ν' 239 i = xe_I ν 239 i ∧ xe_I ν' 240 i = xe_I ν 240 i := fun i hi => ⟨hd.1 _ _ (Or.inr (Or.inr (Or.inr (Or.inr (Or.inr ⟨Or.inl rfl, hi⟩))))), hd.1 _ _ (Or.inr (Or.inr (Or.inr (Or.inr (Or.inr ⟨Or.inr rfl, hi⟩)))))⟩
  refine ⟨nd, tm, sp, w, lc, ab, ub, a, b, off, ⟨q1, q2, q3, q4, q5, q6, q7, q8, by omega, by omega⟩, ?_, ?_, fun p hp => ?_, zCd_c hcd (fun i hi => c1 i (by omega)) (fun i hi => d1 i (by omega)), zRw_f hrw (fun i _ hi => c1 i (by omega)), ((d1 _ q10).1).trans h13⟩
  · simp only [kc]
    exact hcs
  · rw [kd 218 (by omega) (by omega), kd 219 (by omega) (by omega), kd 220 (by omega) (by omega), kd 221 (by omega) (by omega), kd 222 (by omega) (by omega), kd 223 (by omega) (by omega), kd 224 (by omega) (by omega)]
    exact hrs
  · rw [hd.1 227 _ (Or.inr (Or.inr (Or.inl ⟨Or.inr rfl, by omega⟩))), hd.1 226 _ (Or.inr (Or.inr (Or.inl ⟨Or.inl rfl, by omega⟩)))]
    exact hbs p hp
theorem zEt_k (h : zEt N P S L U μ ν m per k e) (hk : k < Sw) (hx : ∀ j, xe_I μ' (24 + 11 * m + e) j = xe_I μ (24 + 11 * m + e) j) (hc : zKc M T L μ μ') (hd : zKd M T Sw Sl U ν ν') (hL : L ≤ L') (hU : U ≤ U') : zEt N P S L' U' μ' ν' m per k e := by
  obtain ⟨ev, a, b, off, tk, ⟨q1, q2, q3, q4, q5, q6⟩, hcs, ⟨r1, r2, r3⟩, hcd, hep, h13, h6, h5⟩ := h
  have kd : ∀ a, 231 ≤ a → a ≤ 235 → xe_I ν' a k = xe_I ν a k := fun a h1 h2 => hd.1 _ _ (Or.inr (Or.inr (Or.inr (Or.inl ⟨h1, h2, hk⟩))))
  have c1 : ∀ i, i < L → xe_I μ' 9 i = xe_I μ 9 i ∧ xe_I μ' 10 i = xe_I μ 10 i := fun i hi => ⟨hc.1 _ _ (Or.inr (Or.inr (Or.inl ⟨Or.inl rfl, hi⟩))), hc.1 _ _ (Or.inr (Or.inr (Or.inl ⟨Or.inr rfl, hi⟩)))⟩
  have d1 : ∀ i, i < U → xe_I ν' 239 i = xe_I ν 239 i ∧ xe_I ν' 240 i = xe_I ν 240 i := fun i hi => ⟨hd.1 _ _ (Or.inr (Or.inr (Or.inr (Or.inr (Or.inr ⟨Or.inl rfl, hi⟩))))), hd.1 _ _ (Or.inr (Or.inr (Or.inr (Or.inr (Or.inr ⟨Or.inr rfl, hi⟩)))))⟩
  refine ⟨ev, a, b, off, tk, ⟨q1, q2, q3, by omega, by omega, q6⟩, ?_, ⟨(kd 231 (by omega) (by omega)).trans r1, (kd 232 (by omega) (by omega)).trans r2, (kd 233 (by omega) (by omega)).trans r3⟩, zCd_c hcd (fun i hi => c1 i (by omega)) (fun i hi => d1 i (by omega)), ?_, ((d1 _ q5).1).trans h13, ?_, ?_⟩
  · simp only [hx]
    exact hcs
  · obtain ⟨n, hn⟩ := hep
    exact ⟨n, zEy_c n a b hn (fun i _ hi => c1 i (by omega))⟩
  · rw [hd.2 234 k (Or.inr ⟨rfl, hk⟩), hc.2.1 6 tk (Or.inl rfl)]
    exact h6
  · rw [kd 235 (by omega) (by omega), hc.1 5 tk (Or.inr (Or.inr (Or.inr rfl)))]
    exact h5
theorem zSr_k (h : zSr μ ν m per s s') (hs : s' ≤ Sl) (hx : ∀ j, xe_I μ' (20 + 11 * m) j = xe_I μ (20 + 11 * m) j) (hd : zKd M T Sw Sl U ν ν') : zSr μ' ν' m per s s' := by
  have kd : ∀ a i, 236 ≤ a → a ≤ 238 → i < s' → xe_I ν' a i = xe_I ν a i := fun a i h1 h2 h3 => hd.1 _ _ (Or.inr (Or.inr (Or.inr (Or.inr (Or.inl ⟨h1, h2, by omega⟩)))))
  refine ⟨fun i h1 h2 => ?_, fun i i' k k' h1 h2 h3 h4 h5 h6 h7 => ?_, fun k hk => ?_⟩
  · rw [kd 236 i (by omega) (by omega) h2, kd 237 i (by omega) (by omega) h2, kd 238 i (by omega) (by omega) h2]
    exact h.1 i h1 h2
  · rw [kd 237 i (by omega) (by omega) (by omega)] at h6
    rw [kd 237 i' (by omega) (by omega) h3] at h7
    exact h.2.1 i i' k k' h1 h2 h3 h4 h5 h6 h7
  · rw [hx, h.2.2 k hk]
    constructor
    · rintro ⟨i, h1, h2, h3⟩
      exact ⟨i, h1, h2, by rw [kd 237 i (by omega) (by omega) h2]; exact h3⟩
    · rintro ⟨i, h1, h2, h3⟩
      exact ⟨i, h1, h2, by rw [kd 237 i (by omega) (by omega) h2] at h3; exact h3⟩
theorem zMd_k (h : zMd N P S L U μ ν m per f f' k k' s s') (hm : m < M) (hf : f' ≤ T) (hk : k' ≤ Sw) (hs : s' ≤ Sl) (hc : zKc M T L μ μ') (hd : zKd M T Sw Sl U ν ν') (hL : L ≤ L') (hU : U ≤ U') : zMd N P S L' U' μ' ν' m per f f' k k' s s' := by
  obtain ⟨b, ⟨h1, h2, h3, h4, h5, h6⟩, hr, ht, he, hs2⟩ := h
  have kc : ∀ j, xe_I μ' (17 + 11 * m) j = xe_I μ (17 + 11 * m) j := fun j => hc.1 _ _ (Or.inl ⟨m, hm, Or.inl rfl⟩)
  refine ⟨b, ⟨?_, ?_, ?_, ?_, ?_, ?_⟩, fun i hi => ?_, fun t q1 q2 => zTs_k (ht t q1 q2) (by omega) hc hd hL hU, fun e q => zEt_k (he e q) (by omega) (fun j => hc.1 _ _ (Or.inl ⟨m, hm, Or.inr (Or.inr ⟨by omega, by omega⟩)⟩)) hc hd hL hU, zSr_k hs2 hs (fun j => hc.1 _ _ (Or.inl ⟨m, hm, Or.inr (Or.inl rfl)⟩)) hd⟩
  · rw [kc]; exact h1
  · rw [hd.1 214 m (Or.inl ⟨rfl, hm⟩)]; exact h2
  · rw [kc]; exact h3
  · rw [kc]; exact h4
  · rw [kc]; exact h5
  · rw [hc.2.1 187 m (Or.inr ⟨rfl, hm⟩), hd.2 213 m (Or.inl ⟨rfl, hm⟩)]; exact h6
  · rw [hc.2.2 (18 + 11 * m) i ⟨m, hm, rfl⟩]
    exact hr i hi
end
