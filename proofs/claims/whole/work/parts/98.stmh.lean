/-! statements: their instructions in the class, and their worst -/
/-- c = false: the instructions from a to b are one statement's, of the worst w; c = true: those of a row of statements -/
def zCk (P S : Nat) (r s : Nat → Int32) : Nat → Nat → Bool → Nat → Nat → Nat → Prop
  | 0, _, _, _, _, _ => False
  | k + 1, d, true, a, b, w => (a = b ∧ w = 0) ∨ ∃ c w1 w2, a < c ∧ c ≤ b ∧ w = w1 + w2 ∧ zCk P S r s k d true a c w1 ∧ zCk P S r s k d false c b w2 ∨ ∃ w1, w1 = w ∧ a < b ∧ zCk P S r s k d false a b w1
  | k + 1, d, false, a, b, w =>
    (w = 1 ∧ ∃ e, a < e ∧ b = e + 1 ∧ (∃ j, zEy P S r s j a e) ∧ ((r e = 13 ∧ ∃ y, y < P ∧ s e = nI y) ∨ (r e = 14 ∧ ∃ y, y < 6 ∧ s e = nI y))) ∨
    (∃ e w1, a < e ∧ e < b ∧ w = 1 + w1 ∧ (∃ j, zEy P S r s j a e) ∧ r e = 15 ∧ s e = nI b ∧ zCk P S r s k (d + 1) true (e + 1) b w1) ∨
    (∃ e g w1 w2, a < e ∧ e < g ∧ g < b ∧ w = 1 + max w1 w2 ∧ (∃ j, zEy P S r s j a e) ∧ r e = 15 ∧ s e = nI (g + 1) ∧ zCk P S r s k (d + 1) true (e + 1) g w1 ∧ r g = 16 ∧ s g = nI b ∧ zCk P S r s k (d + 1) true (g + 1) b w2) ∨
    (∃ e n w1, a < e + 1 ∧ a + 1 ≤ e ∧ b = e + 1 ∧ 1 ≤ n ∧ n ≤ 9 ∧ d < 5 ∧ w = n * (1 + w1) ∧ r a = 17 ∧ s a = nI n ∧ zCk P S r s k (d + 1) true (a + 1) e w1 ∧ r e = 18 ∧ s e = nI (a + 1))
theorem zCk_up {P S : Nat} {r s : Nat → Int32} : ∀ k d c a b w, zCk P S r s k d c a b w → zCk P S r s (k + 1) d c a b w := by
  intro k
  induction k with
  | zero => intro d c a b w h; exact h.elim
  | succ k ih =>
    intro d c a b w h
    cases c with
    | true =>
      rcases h with h | ⟨c, h⟩
      · exact Or.inl h
      · refine Or.inr ⟨c, ?_⟩
        rcases h with ⟨w1, w2, h⟩
        rcases h with ⟨h1, h2, h3, h4, h5⟩ | ⟨w3, h1, h2, h3⟩
        · exact ⟨w1, w2, Or.inl ⟨h1, h2, h3, ih _ _ _ _ _ h4, ih _ _ _ _ _ h5⟩⟩
        · exact ⟨w1, w2, Or.inr ⟨w3, h1, h2, ih _ _ _ _ _ h3⟩⟩
    | false =>
      rcases h with h | ⟨e, w1, h1, h2, h3, h4, h5, h6, h7⟩ | ⟨e, g, w1, w2, h1, h2, h3, h4, h5, h6, h7, h8, h9, h10, h11⟩ | ⟨e, n, w1, h1, h2, h3, h4, h5, hD, h6, h7, h8, h9, h10, h11⟩
      · exact Or.inl h
      · exact Or.inr (Or.inl ⟨e, w1, h1, h2, h3, h4, h5, h6, ih _ _ _ _ _ h7⟩)
      · exact Or.inr (Or.inr (Or.inl ⟨e, g, w1, w2, h1, h2, h3, h4, h5, h6, h7, ih _ _ _ _ _ h8, h9, h10, ih _ _ _ _ _ h11⟩))
      · exact Or.inr (Or.inr (Or.inr ⟨e, n, w1, h1, h2, h3, h4, h5, hD, h6, h7, h8, ih _ _ _ _ _ h9, h10, h11⟩))
theorem zCk_le {P S : Nat} {r s : Nat → Int32} {k l d a b w : Nat} {c : Bool} (h : k ≤ l) (hk : zCk P S r s k d c a b w) : zCk P S r s l d c a b w := by
  induction l with
  | zero =>
    have : k = 0 := by omega
    rw [this] at hk
    exact hk
  | succ l ih =>
    by_cases e : k = l + 1
    · rw [e] at hk; exact hk
    · exact zCk_up _ _ _ _ _ _ (ih (by omega))
theorem zCk_c {P S : Nat} {r s r' s' : Nat → Int32} : ∀ k d c a b w, zCk P S r s k d c a b w → (∀ i, a ≤ i → i < b → r' i = r i ∧ s' i = s i) → zCk P S r' s' k d c a b w := by
  intro k
  induction k with
  | zero => intro d c a b w h; exact h.elim
  | succ k ih =>
    intro d c a b w h hc
    cases c with
    | true =>
      rcases h with h | ⟨c, w1, w2, h⟩
      · exact Or.inl h
      · refine Or.inr ⟨c, w1, w2, ?_⟩
        rcases h with ⟨h1, h2, h3, h4, h5⟩ | ⟨w3, h1, h2, h3⟩
        · exact Or.inl ⟨h1, h2, h3, ih _ _ _ _ _ h4 (fun i q1 q2 => hc i q1 (by omega)), ih _ _ _ _ _ h5 (fun i q1 q2 => hc i (by omega) q2)⟩
        · exact Or.inr ⟨w3, h1, h2, ih _ _ _ _ _ h3 hc⟩
    | false =>
      rcases h with ⟨h0, e, h1, h2, ⟨j, h3⟩, h4⟩ | ⟨e, w1, h1, h2, h3, ⟨j, h4⟩, h5, h6, h7⟩ | ⟨e, g, w1, w2, h1, h2, h3, h4, ⟨j, h5⟩, h6, h7, h8, h9, h10, h11⟩ | ⟨e, n, w1, h1, h2, h3, h4, h5, hD, h6, h7, h8, h9, h10, h11⟩
      · refine Or.inl ⟨h0, e, h1, h2, ⟨j, zEy_c j a e h3 (fun i q1 q2 => hc i q1 (by omega))⟩, ?_⟩
        obtain ⟨c1, c2⟩ := hc e (by omega) (by omega)
        rw [c1, c2]; exact h4
      · obtain ⟨c1, c2⟩ := hc e (by omega) (by omega)
        exact Or.inr (Or.inl ⟨e, w1, h1, h2, h3, ⟨j, zEy_c j a e h4 (fun i q1 q2 => hc i q1 (by omega))⟩, c1.trans h5, c2.trans h6, ih _ _ _ _ _ h7 (fun i q1 q2 => hc i (by omega) q2)⟩)
      · obtain ⟨c1, c2⟩ := hc e (by omega) (by omega)
        obtain ⟨d1, d2⟩ := hc g (by omega) (by omega)
        exact Or.inr (Or.inr (Or.inl ⟨e, g, w1, w2, h1, h2, h3, h4, ⟨j, zEy_c j a e h5 (fun i q1 q2 => hc i q1 (by omega))⟩, c1.trans h6, c2.trans h7, ih _ _ _ _ _ h8 (fun i q1 q2 => hc i (by omega) (by omega)), d1.trans h9, d2.trans h10, ih _ _ _ _ _ h11 (fun i q1 q2 => hc i (by omega) q2)⟩))
      · obtain ⟨c1, c2⟩ := hc a (by omega) (by omega)
        obtain ⟨d1, d2⟩ := hc e (by omega) (by omega)
        exact Or.inr (Or.inr (Or.inr ⟨e, n, w1, h1, h2, h3, h4, h5, hD, h6, c1.trans h7, c2.trans h8, ih _ _ _ _ _ h9 (fun i q1 q2 => hc i (by omega) (by omega)), d1.trans h10, d2.trans h11⟩))
/-- a row of statements, one of them -/
def zRw (P S d : Nat) (μ : xe_Mem) (a b w : Nat) : Prop := ∃ k, zCk P S (xe_I μ 9) (xe_I μ 10) k d true a b w
def zSm (P S d : Nat) (μ : xe_Mem) (a b w : Nat) : Prop := ∃ k, zCk P S (xe_I μ 9) (xe_I μ 10) k d false a b w
section
variable {P S d : Nat} {μ μ' : xe_Mem} {a b c e g w w1 w2 n : Nat}
theorem zRw_0 : zRw P S d μ a a 0 := ⟨1, Or.inl ⟨rfl, rfl⟩⟩
theorem zRw_1 (h1 : zRw P S d μ a c w1) (h2 : zSm P S d μ c b w2) (hac : a ≤ c) (hcb : c < b) : zRw P S d μ a b (w1 + w2) := by
  obtain ⟨k, hk⟩ := h1
  obtain ⟨l, hl⟩ := h2
  by_cases e : a = c
  · subst e
    cases k with
    | zero => exact hk.elim
    | succ k =>
      rcases hk with ⟨-, h0⟩ | ⟨c, x1, x2, h⟩
      · subst h0
        rw [Nat.zero_add]
        exact ⟨l + 1, Or.inr ⟨0, 0, 0, Or.inr ⟨w2, rfl, hcb, hl⟩⟩⟩
      · rcases h with ⟨h1, h2, -⟩ | ⟨w3, -, h2, -⟩
        · omega
        · omega
  · exact ⟨k + l + 1, Or.inr ⟨c, w1, w2, Or.inl ⟨by omega, by omega, rfl, zCk_le (by omega) hk, zCk_le (by omega) hl⟩⟩⟩
theorem zRw_f (h : zRw P S d μ a b w) (hc : ∀ i, a ≤ i → i < b → xe_I μ' 9 i = xe_I μ 9 i ∧ xe_I μ' 10 i = xe_I μ 10 i) : zRw P S d μ' a b w := by
  obtain ⟨k, hk⟩ := h
  exact ⟨k, zCk_c k d true a b w hk hc⟩
theorem zSm_f (h : zSm P S d μ a b w) (hc : ∀ i, a ≤ i → i < b → xe_I μ' 9 i = xe_I μ 9 i ∧ xe_I μ' 10 i = xe_I μ 10 i) : zSm P S d μ' a b w := by
  obtain ⟨k, hk⟩ := h
  exact ⟨k, zCk_c k d false a b w hk hc⟩
theorem zSm_set (h : zEq P S μ a e) (ha : a < e) (hs : (xe_I μ 9 e = 13 ∧ ∃ y, y < P ∧ xe_I μ 10 e = nI y) ∨ (xe_I μ 9 e = 14 ∧ ∃ y, y < 6 ∧ xe_I μ 10 e = nI y)) : zSm P S d μ a (e + 1) 1 := ⟨1, Or.inl ⟨rfl, e, ha, rfl, h, hs⟩⟩
theorem zSm_if (h : zEq P S μ a e) (ha : a < e) (h1 : xe_I μ 9 e = 15) (h2 : xe_I μ 10 e = nI b) (hb : zRw P S (d + 1) μ (e + 1) b w1) (he : e < b) : zSm P S d μ a b (1 + w1) := by
  obtain ⟨k, hk⟩ := hb
  exact ⟨k + 1, Or.inr (Or.inl ⟨e, w1, ha, he, rfl, h, h1, h2, hk⟩)⟩
theorem zSm_else (h : zEq P S μ a e) (ha : a < e) (h1 : xe_I μ 9 e = 15) (h2 : xe_I μ 10 e = nI (g + 1)) (hb : zRw P S (d + 1) μ (e + 1) g w1) (he : e < g) (h3 : xe_I μ 9 g = 16) (h4 : xe_I μ 10 g = nI b) (hd : zRw P S (d + 1) μ (g + 1) b w2) (hg : g < b) : zSm P S d μ a b (1 + max w1 w2) := by
  obtain ⟨k, hk⟩ := hb
  obtain ⟨l, hl⟩ := hd
  exact ⟨k + l + 1, Or.inr (Or.inr (Or.inl ⟨e, g, w1, w2, ha, he, hg, rfl, h, h1, h2, zCk_le (by omega) hk, h3, h4, zCk_le (by omega) hl⟩))⟩
theorem zSm_rep (h1 : xe_I μ 9 a = 17) (h2 : xe_I μ 10 a = nI n) (hn : 1 ≤ n) (hn9 : n ≤ 9) (hD : d < 5) (hb : zRw P S (d + 1) μ (a + 1) e w1) (he : a + 1 ≤ e) (h3 : xe_I μ 9 e = 18) (h4 : xe_I μ 10 e = nI (a + 1)) : zSm P S d μ a (e + 1) (n * (1 + w1)) := by
  obtain ⟨k, hk⟩ := hb
  exact ⟨k + 1, Or.inr (Or.inr (Or.inr ⟨e, n, w1, by omega, he, rfl, hn, hn9, hD, rfl, h1, h2, hk, h3, h4⟩))⟩
end
