/-! an expression: its state in both, its operands -/
def zCs (r : Nat → Int32) : List Bool → Prop
  | [] => True
  | b :: cs => r cs.length = zb01 b ∧ zCs r cs
def zEc (μ : xe_Mem) (p c L ub : Nat) : Prop := xe_I μ 181 6 = nI p ∧ xe_I μ 181 8 = nI c ∧ xe_I μ 8 2 = nI L ∧ xe_I μ 181 9 = nI ub
def zEr (ν : xe_Mem) (p c dep : Nat) (W : List Nat) (cs : List Bool) (U : Nat) : Prop := xe_I ν 203 10 = nI p ∧ xe_I ν 203 59 = nI c ∧ xe_I ν 203 60 = nI dep ∧ xe_I ν 203 61 = nI W.length ∧ zWt (xe_I ν 248) W ∧ xe_I ν 203 64 = nI (cs.length - 1) ∧ zCs (xe_I ν 249) cs ∧ xe_I ν 203 47 = nI U
def zUb (ν : xe_Mem) (t : Nat) (tk : Bool) (ub : Nat) (ab : Nat → Bool) : Prop := tk = true → ∀ p, p < 12 → xe_I ν 226 (12 * t + p) = zb01 (Nat.testBit ub p || ab p)
/-- the bounds of all that is counted -/
def zBd (N p c L dep off a0 t ub w k : Nat) : Prop := p < N ∧ L ≤ p ∧ c ≤ 60 ∧ w ≤ c ∧ k ≤ dep + 1 ∧ 1 ≤ k ∧ dep ≤ 8 ∧ a0 ≤ L ∧ off ≤ 40 ∧ t < 24 ∧ ub < 4096
/-- both in the midst of an expression; Pn: the signs that the class has written and that wait in the reference -/
def zEA (N P S Lc t : Nat) (tk : Bool) (off a0 : Nat) (ab : Nat → Bool) (μ ν : xe_Mem) (p c L ub dep : Nat) (Pn W : List Nat) (cs : List Bool) : Prop := zCx μ ν N P S Lc tk ∧ zEc μ p c (L + Pn.length) ub ∧ zEr ν p c dep (Pn.map zsc ++ W) cs (L + off) ∧ zCd μ ν off a0 L ∧ zPd μ L Pn ∧ zUb ν t tk ub ab ∧ zBd N p c (L + Pn.length) dep off a0 t ub (Pn.length + W.length) cs.length
/-- the reference, where an operand is wanted; where one is read; where the signs behind it are looked at -/
def zA (T : Int32) (F f : Nat) (ν : xe_Mem) : zO := zq_cI (zD161_0 f T ν) fun x18 m16 => if x18 = 0 then some (.inl (some (.int 0)), m16) else zq_cV (zD163 m16) fun m19 => zD160_29 (zD160_19 F) zfu T 1 m19
def zB (T : Int32) (F g h : Nat) (ν : xe_Mem) : zO := zq_cV (zD163_0 h ν) fun m19 => zD160_29 (zD160_19 F) g T 1 m19
def zC (T : Int32) (F g : Nat) (ν : xe_Mem) : zO := zD160_29 (zD160_19 F) g T 1 ν
section
variable {T : Int32} {F f g h : Nat} {ν ν1 : xe_Mem}
theorem zA_ok (e : zD161_0 f T ν = zint 1 ν1) : zA T F f ν = zB T F zfu zfu ν1 := by
  unfold zA
  rw [e, zcI_ok, if_neg (by decide)]
  rfl
theorem zA_no (e : zD161_0 f T ν = zint 0 ν1) : zA T F f ν = zint 0 ν1 := by
  unfold zA
  rw [e, zcI_ok, if_pos rfl]
theorem zA_go (e : zD161_0 (f + 1) T ν = zD161_0 f T ν1) : zA T F (f + 1) ν = zA T F f ν1 := by
  unfold zA
  rw [e]
theorem z160_19 : zD160_19 (F + 1) T 1 ν = zA T F zfu ν := by
  show zD160_19_b (zD160_19 F) T 1 ν = _
  unfold zD160_19_b
  rw [if_neg (by decide)]
  rfl
theorem zB_no (e : zD163_0 h ν = some (.inl none, ν)) : zB T F g h ν = zC T F g ν := by
  unfold zB
  rw [e, zcV_ok]
  rfl
end
/-- the class has thrown, the reference has refused, both at the same token -/
def zFl (N L U t : Nat) (μ ν : xe_Mem) (A B : zO) : Prop := ∃ μ1 ν' p', A = some (.inr (xe_sh μ1).length, xe_add μ1 (.inl 12) 6) ∧ B = zint 0 ν' ∧ (p' < N ∧ ∃ u, u < 4096 ∧ xe_I μ1 181 9 = nI u) ∧ xe_I μ1 181 6 = nI p' ∧ xe_I ν' 203 10 = nI p' ∧ zfI (zXc L) μ μ1 ∧ zfI (zXf U t) ν ν' ∧ xe_sh μ1 = xe_sh μ ∧ xe_sl μ1 = xe_sl μ
theorem zFl_f {N L L' U U' t : Nat} {μ ν μ1 ν1 : xe_Mem} {A B : zO} (h : zFl N L' U' t μ1 ν1 A B) (hL : L ≤ L') (hU : U ≤ U') (hf : zfI (zXc L) μ μ1) (hg : zfI (zXr U t) ν ν1) (hs : xe_sh μ1 = xe_sh μ) (hl : xe_sl μ1 = xe_sl μ) : zFl N L U t μ ν A B := by
  obtain ⟨μ2, ν', p', h1, h2, h3, h4, h5, h6, h7, h8, h9⟩ := h
  exact ⟨μ2, ν', p', h1, h2, h3, h4, h5, zfI_t hf (zfI_w h6 (zXc_w hL)), zfI_t (zXf_of hg) (zfI_w h7 (zXf_w hU)), h8.trans hs, h9.trans hl⟩
theorem zthr {μ : xe_Mem} (h1 : (xe_sh μ).length < xg_CT) (h2 : xe_sl μ + 6 ≤ xg_ST) : zq_thr 12 μ = some (.inr (xe_sh μ).length, xe_add μ (.inl 12) 6) := if_pos ⟨h1, h2⟩
theorem zXc_s {L j : Nat} (h : j = 6 ∨ j = 8 ∨ j = 9) : zXc L 181 j = true := by
  rcases h with rfl | rfl | rfl <;> rfl
section
variable {N P S Lc t : Nat} {tk : Bool} {off a0 : Nat} {ab : Nat → Bool} {μ ν : xe_Mem} {p c L ub dep : Nat} {W : List Nat} {cs : List Bool}
theorem ztk_f : zfI (zXc L) μ (ztk μ p c) := zfI_t (zfI_s (zXc_s (Or.inr (Or.inl rfl)))) (zfI_s (zXc_s (Or.inl rfl)))
theorem zrtk_f {U : Nat} : zfI (zXr U t) ν (zrtk ν p c) := zfI_t (zfI_s rfl) (zfI_s rfl)
theorem zadd_f {x y : Int32} : zfI (zXc L) μ (zadd μ L x y) := by
  have e : Nat.ble L L = true := Nat.ble_eq_true_of_le (Nat.le_refl L)
  refine zfI_t (zfI_t (zfI_s ?_) (zfI_s ?_)) (zfI_s rfl)
  · unfold zXc; rw [e]; rfl
  · unfold zXc; rw [e]; rfl
theorem zadd_e {x y : Int32} : xe_I (zadd μ L x y) 9 L = x ∧ xe_I (zadd μ L x y) 10 L = y := by
  unfold zadd
  constructor
  · rw [xu_In (by omega), xu_In (by omega)]
    exact xu_I
  · rw [xu_In (by omega)]
    exact xu_I
theorem zadd_o {a j : Nat} {x y : Int32} (h : a ≠ 8 ∨ j ≠ 2) (h1 : a ≠ 9) (h2 : a ≠ 10) : xe_I (zadd μ L x y) a j = xe_I μ a j := by
  unfold zadd
  rw [xu_In (by omega), xu_In (by omega), xu_In (by omega)]
theorem zadd_s {x y : Int32} : xe_I (zadd μ L x y) 8 2 = nI (L + 1) := xu_I
/-- an operand's instruction is written by both, and its token is passed -/
theorem z_fin (h : zEA N P S Lc t tk off a0 ab μ ν p c L ub dep [] W cs) (hN : p + 1 < N) (hc : c < 60) {μa νa : xe_Mem} {ub' : Nat} (hf : zfI (zXc L) μ μa) (hs : xe_sh μa = xe_sh μ) (hl : xe_sl μa = xe_sl μ) (ck : ∀ j, j = 6 ∨ j = 8 → xe_I μa 181 j = xe_I μ 181 j) (c3 : xe_I μa 8 2 = nI (L + 1)) (c4 : xe_I μa 181 9 = nI ub') (hg : zfI (zXr (L + off) t) ν νa) (gk : ∀ a j, (a = 203 ∧ (j = 10 ∨ j = 59 ∨ j = 60 ∨ j = 61 ∨ j = 64)) ∨ a = 248 ∨ a = 249 → xe_I νa a j = xe_I ν a j) (g8 : xe_I νa 203 47 = nI (L + off + 1)) (ho : zOp off (xe_I μa 9 L) (xe_I μa 10 L) (xe_I νa 239 (L + off)) (xe_I νa 240 (L + off))) (hub : zUb νa t tk ub' ab) (hub' : ub' < 4096) :
    zEA N P S Lc t tk off a0 ab (ztk μa p c) (zrtk νa p c) (p + 1) (c + 1) (L + 1) ub' dep [] W cs ∧ zfI (zXc L) μ (ztk μa p c) ∧ zfI (zXr (L + off) t) ν (zrtk νa p c) := by
  obtain ⟨hx, ⟨e1, e2, e3, e4⟩, ⟨r1, r2, r3, r4, r5, r6, r7, r8⟩, hcd, -, -, b1, b2, b3, b4, b5, b6, b7, b8, b9, b10, b11⟩ := h
  have F1 : zfI (zXc L) μ (ztk μa p c) := zfI_t hf ztk_f
  have F2 : zfI (zXr (L + off) t) ν (zrtk νa p c) := zfI_t hg zrtk_f
  have t1 : ∀ a j, a ≠ 181 → xe_I (ztk μa p c) a j = xe_I μa a j := fun a j q => by
    unfold ztk
    rw [xu_In (by omega), xu_In (by omega)]
  have t2 : ∀ a j, (a ≠ 203 ∨ (j ≠ 59 ∧ j ≠ 10)) → xe_I (zrtk νa p c) a j = xe_I νa a j := fun a j q => by
    unfold zrtk
    rw [xu_In (by omega), xu_In (by omega)]
  refine ⟨⟨zCx_f hx F1 F2 hs hl, ⟨xu_I, ?_, ?_, ?_⟩, ⟨xu_I, ?_, ?_, ?_, ?_, ?_, ?_, ?_⟩, ?_, trivial, fun htk q hq => ?_, ?_⟩, F1, F2⟩
  · unfold ztk
    rw [xu_In (by omega)]
    exact xu_I
  · rw [t1 8 2 (by decide)]; exact c3
  · unfold ztk
    rw [xu_In (by omega), xu_In (by omega)]
    exact c4
  · unfold zrtk
    rw [xu_In (by omega)]
    exact xu_I
  · rw [t2 203 60 (Or.inr (by decide)), gk 203 60 (Or.inl ⟨rfl, by decide⟩)]; exact r3
  · rw [t2 203 61 (Or.inr (by decide)), gk 203 61 (Or.inl ⟨rfl, by decide⟩)]; exact r4
  · have : xe_I (zrtk νa p c) 248 = xe_I ν 248 := funext fun j => by rw [t2 248 j (Or.inl (by decide)), gk 248 j (Or.inr (Or.inl rfl))]
    rw [this]; exact r5
  · rw [t2 203 64 (Or.inr (by decide)), gk 203 64 (Or.inl ⟨rfl, by decide⟩)]; exact r6
  · have : xe_I (zrtk νa p c) 249 = xe_I ν 249 := funext fun j => by rw [t2 249 j (Or.inl (by decide)), gk 249 j (Or.inr (Or.inr rfl))]
    rw [this]; exact r7
  · rw [t2 203 47 (Or.inr (by decide)), g8]
    congr 1
    omega
  · refine zCd_1 (zCd_f hcd (Nat.le_refl L) (Nat.le_refl _) F1 F2) ?_
    rw [t1 9 L (by decide), t1 10 L (by decide), t2 239 (L + off) (Or.inl (by decide)), t2 240 (L + off) (Or.inl (by decide))]
    exact ho
  · rw [t2 226 (12 * t + q) (Or.inl (by decide))]
    exact hub htk q hq
  · simp only [List.length_nil, Nat.zero_add, Nat.add_zero] at b2 b4 b8 ⊢
    exact ⟨by omega, by omega, by omega, by omega, by omega, b6, b7, by omega, b9, b10, hub'⟩
end
