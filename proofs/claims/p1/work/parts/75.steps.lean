/-! the abstract machine's runs, step by step -/
section
variable {MC MC' : Nat → List xe_In} {ML : Nat → Nat} {MH : Nat → Nat → Nat → Option (Option Nat)}
/-- more steps, more room for calls, more methods: the same end -/
theorem xs_mono (hsub : ∀ y, MC' y = MC y ∨ MC' y = []) : ∀ (n d y k : Nat) (ls : xe_Ls) (st : List Value) (μ : xe_Mem) (r : xe_Out × xe_Mem), xe_run MC' ML MH n d y k ls st μ = some r → ∀ n' d', n ≤ n' → d ≤ d' → xe_run MC ML MH n' d' y k ls st μ = some r := by
  intro n
  induction n with
  | zero => intro d y k ls st μ r h; cases h
  | succ n ih =>
    intro d y k ls st μ r h n' d' hn hd
    obtain ⟨n'', rfl⟩ : ∃ n'', n' = n'' + 1 := ⟨n' - 1, by omega⟩
    have hn' : n ≤ n'' := by omega
    unfold xe_run at h ⊢
    cases hi : (MC' y)[k]? with
    | none => rw [hi] at h; cases h
    | some i =>
      have hi2 : (MC y)[k]? = some i := by
        rcases hsub y with h1 | h1
        · rw [← h1]; exact hi
        · rw [h1] at hi; simp at hi
      rw [hi] at h
      rw [hi2]
      rcases i with f | q | z
      · dsimp only at h ⊢
        cases hf : f k ls st μ with
        | none => rw [hf] at h; cases h
        | some w =>
          rw [hf] at h
          exact ih _ _ _ _ _ _ _ h _ _ hn' hd
      · dsimp only at h ⊢
        cases d with
        | zero => cases h
        | succ d =>
          obtain ⟨d'', rfl⟩ : ∃ d'', d' = d'' + 1 := ⟨d' - 1, by omega⟩
          dsimp only at h ⊢
          split at h
          · cases h
          · rename_i hc
            rw [if_neg hc]
            cases hr : xe_run MC' ML MH n d q.1 0 (xe_init (st.take q.2.1).reverse (ML q.1)) [] μ with
            | none => rw [hr] at h; cases h
            | some w =>
              rw [hr] at h
              rw [ih _ _ _ _ _ _ _ hr n'' d'' hn' (by omega)]
              obtain ⟨o, μ1⟩ := w
              cases o with
              | inl v => exact ih _ _ _ _ _ _ _ h _ _ hn' hd
              | inr a =>
                dsimp only at h ⊢
                cases hci : xe_ci μ1 a with
                | none => rw [hci] at h; cases h
                | some ci =>
                  rw [hci] at h
                  dsimp only at h ⊢
                  cases hm : MH y k ci with
                  | none => rw [hm] at h; cases h
                  | some w =>
                    rw [hm] at h
                    cases w with
                    | none => exact h
                    | some hh => exact ih _ _ _ _ _ _ _ h _ _ hn' hd
      · exact h
end
/-- the run of the method y from its place k, in a room of d calls -/
def xs_G (δ : xe_Dy) (d y k : Nat) (ls : xe_Ls) (st : List Value) (μ : xe_Mem) (o : xe_Out) (μ' : xe_Mem) : Prop := ∃ n, xe_run (xM_C δ) xM_L xM_H n d y k ls st μ = some (o, μ')
/-- the method y, called with as -/
abbrev xs_M (δ : xe_Dy) (d y : Nat) (as : List Value) (μ : xe_Mem) (o : xe_Out) (μ' : xe_Mem) : Prop := xs_G δ d y 0 (xe_init as (xM_L y)) [] μ o μ'
section
variable {δ : xe_Dy} {d d' y k k' : Nat} {ls ls' : xe_Ls} {st st' : List Value} {μ μ1 μ' : xe_Mem} {o : xe_Out}
theorem xs_deeper (h : xs_G δ d y k ls st μ o μ') (hd : d ≤ d') : xs_G δ d' y k ls st μ o μ' := by
  obtain ⟨n, hn⟩ := h
  exact ⟨n, xs_mono (fun y => Or.inl rfl) _ _ _ _ _ _ _ _ hn _ _ (Nat.le_refl n) hd⟩
theorem xs_op {f : xe_F} (hi : (xM_C δ y)[k]? = some (.inl f)) (hf : f k ls st μ = some (k', ls', st', μ1)) (h : xs_G δ d y k' ls' st' μ1 o μ') : xs_G δ d y k ls st μ o μ' := by
  obtain ⟨n, hn⟩ := h
  refine ⟨n + 1, ?_⟩
  unfold xe_run
  rw [hi]
  dsimp only
  rw [hf]
  exact hn
/-- m operations at once -/
def xs_go (δ : xe_Dy) (y : Nat) : Nat → Nat × xe_Ls × List Value × xe_Mem → Option (Nat × xe_Ls × List Value × xe_Mem)
  | 0, s => some s
  | m + 1, s => match (xM_C δ y)[s.1]? with
    | some (.inl f) => match f s.1 s.2.1 s.2.2.1 s.2.2.2 with
      | some s' => xs_go δ y m s'
      | none => none
    | _ => none
theorem xs_many (m : Nat) (hm : xs_go δ y m (k, ls, st, μ) = some (k', ls', st', μ1)) (h : xs_G δ d y k' ls' st' μ1 o μ') : xs_G δ d y k ls st μ o μ' := by
  induction m generalizing k ls st μ with
  | zero => cases hm; exact h
  | succ m ih =>
    unfold xs_go at hm
    split at hm
    · rename_i f hf
      split at hm
      · rename_i s' hs
        obtain ⟨k2, ls2, st2, μ2⟩ := s'
        exact xs_op hf hs (ih hm)
      · cases hm
    · cases hm
theorem xs_ret0 (hi : (xM_C δ y)[k]? = some (.inr (.inr 0))) : xs_G δ d y k ls [] μ (.inl none) μ := ⟨1, by unfold xe_run; rw [hi]⟩
theorem xs_ret1 {v : Int32} (hi : (xM_C δ y)[k]? = some (.inr (.inr 1))) : xs_G δ d y k ls [.int v] μ (.inl (some (.int v))) μ := ⟨1, by unfold xe_run; rw [hi]⟩
theorem xs_ret3 {v : Int32} (hi : (xM_C δ y)[k]? = some (.inr (.inr 3))) (hv : v = 0 ∨ v = 1) : xs_G δ d y k ls [.int v] μ (.inl (some (.int v))) μ := ⟨1, by unfold xe_run; rw [hi]; dsimp only; rw [if_pos hv]⟩
theorem xs_ret4 {a : Nat} (hi : (xM_C δ y)[k]? = some (.inr (.inr 4))) : xs_G δ d y k ls [.ref a] μ (.inl (some (.ref a))) μ := ⟨1, by unfold xe_run; rw [hi]⟩
theorem xs_ret4n (hi : (xM_C δ y)[k]? = some (.inr (.inr 4))) : xs_G δ d y k ls [.null] μ (.inl (some .null)) μ := ⟨1, by unfold xe_run; rw [hi]⟩
theorem xs_ret5 {v : Int32} (hi : (xM_C δ y)[k]? = some (.inr (.inr 5))) (hv : 0 ≤ v ∧ v < 128) : xs_G δ d y k ls [.int v] μ (.inl (some (.int v))) μ := ⟨1, by unfold xe_run; rw [hi]; dsimp only; rw [if_pos hv]⟩
theorem xs_thr {c : Nat} (hi : (xM_C δ y)[k]? = some (.inr (.inr (c + 6)))) (h1 : (xe_sh μ).length < xg_CT) (h2 : xe_sl μ + 6 ≤ xg_ST) (h3 : (st.map fun v => v.category).sum ≤ 20) (h4 : xM_H y k c = some none) : xs_G δ d y k ls st μ (.inr (xe_sh μ).length) (xe_add μ (.inl c) 6) := ⟨1, by unfold xe_run; rw [hi]; dsimp only; rw [if_pos ⟨h1, h2, h3, h4⟩]⟩
theorem xs_call0 {z na rc : Nat} (n : Nat) {as rest : List Value} (hi : (xM_C δ y)[k]? = some (.inr (.inl (z, na, rc)))) (hst : st = as.reverse ++ rest) (hna : as.length = na) (hrc : xe_rcv μ rc as = true) (hsum : (rest.map fun v => v.category).sum ≤ 20) (hl : (xe_l0 as).length ≤ xM_L z) (h33 : xM_L z ≤ 33) :
    xe_run (xM_C δ) xM_L xM_H (n + 1) (d + 1) y k ls st μ = match xe_run (xM_C δ) xM_L xM_H n d z 0 (xe_init as (xM_L z)) [] μ with
      | some (.inl v, μ') => xe_run (xM_C δ) xM_L xM_H n (d + 1) y (k + 1) ls (v.toList ++ rest) μ'
      | some (.inr a, μ') => match xe_ci μ' a with
        | none => none
        | some ci => match xM_H y k ci with
          | some (some h) => xe_run (xM_C δ) xM_L xM_H n (d + 1) y h ls [.ref a] μ'
          | some none => some (.inr a, μ')
          | none => none
      | none => none := by
  conv => lhs; unfold xe_run
  rw [hi]
  dsimp only
  subst hst
  subst hna
  have e1 : (as.reverse ++ rest).take as.length = as.reverse := by rw [← List.length_reverse (as := as), List.take_left]
  have e2 : (as.reverse ++ rest).drop as.length = rest := by rw [← List.length_reverse (as := as), List.drop_left]
  rw [e1, e2, List.reverse_reverse, if_neg (by
    rintro (h | h | h | h | h)
    · rw [List.length_append, List.length_reverse] at h; omega
    · rw [hrc] at h; cases h
    · omega
    · omega
    · omega)]
  rfl
/-- a call that comes back -/
theorem xs_call {z na rc : Nat} {as rest : List Value} {v : Option Value} (hi : (xM_C δ y)[k]? = some (.inr (.inl (z, na, rc)))) (hst : st = as.reverse ++ rest) (hna : as.length = na) (hrc : xe_rcv μ rc as = true) (hsum : (rest.map fun v => v.category).sum ≤ 20) (hl : (xe_l0 as).length ≤ xM_L z) (h33 : xM_L z ≤ 33) (hr : xs_M δ d z as μ (.inl v) μ1) (h : xs_G δ (d + 1) y (k + 1) ls (v.toList ++ rest) μ1 o μ') : xs_G δ (d + 1) y k ls st μ o μ' := by
  obtain ⟨n1, h1⟩ := hr
  obtain ⟨n2, h2⟩ := h
  have g1 := xs_mono (fun y => Or.inl rfl) _ _ _ _ _ _ _ _ h1 (n1 + n2) d (by omega) (Nat.le_refl d)
  have g2 := xs_mono (fun y => Or.inl rfl) _ _ _ _ _ _ _ _ h2 (n1 + n2) (d + 1) (by omega) (Nat.le_refl _)
  refine ⟨n1 + n2 + 1, ?_⟩
  rw [xs_call0 (n1 + n2) hi hst hna hrc hsum hl h33, g1]
  exact g2
/-- a call that throws: on, or caught -/
theorem xs_callT {z na rc ci a : Nat} {as rest : List Value} (hi : (xM_C δ y)[k]? = some (.inr (.inl (z, na, rc)))) (hst : st = as.reverse ++ rest) (hna : as.length = na) (hrc : xe_rcv μ rc as = true) (hsum : (rest.map fun v => v.category).sum ≤ 20) (hl : (xe_l0 as).length ≤ xM_L z) (h33 : xM_L z ≤ 33) (hr : xs_M δ d z as μ (.inr a) μ') (hci : xe_ci μ' a = some ci) (hh : xM_H y k ci = some none) : xs_G δ (d + 1) y k ls st μ (.inr a) μ' := by
  obtain ⟨n1, h1⟩ := hr
  refine ⟨n1 + 1, ?_⟩
  rw [xs_call0 n1 hi hst hna hrc hsum hl h33, h1]
  dsimp only
  rw [hci]
  dsimp only
  rw [hh]
theorem xs_callC {z na rc ci a kh : Nat} {as rest : List Value} (hi : (xM_C δ y)[k]? = some (.inr (.inl (z, na, rc)))) (hst : st = as.reverse ++ rest) (hna : as.length = na) (hrc : xe_rcv μ rc as = true) (hsum : (rest.map fun v => v.category).sum ≤ 20) (hl : (xe_l0 as).length ≤ xM_L z) (h33 : xM_L z ≤ 33) (hr : xs_M δ d z as μ (.inr a) μ1) (hci : xe_ci μ1 a = some ci) (hh : xM_H y k ci = some (some kh)) (h : xs_G δ (d + 1) y kh ls [.ref a] μ1 o μ') : xs_G δ (d + 1) y k ls st μ o μ' := by
  obtain ⟨n1, h1⟩ := hr
  obtain ⟨n2, h2⟩ := h
  have g1 := xs_mono (fun y => Or.inl rfl) _ _ _ _ _ _ _ _ h1 (n1 + n2) d (by omega) (Nat.le_refl d)
  have g2 := xs_mono (fun y => Or.inl rfl) _ _ _ _ _ _ _ _ h2 (n1 + n2) (d + 1) (by omega) (Nat.le_refl _)
  refine ⟨n1 + n2 + 1, ?_⟩
  rw [xs_call0 (n1 + n2) hi hst hna hrc hsum hl h33, g1]
  dsimp only
  rw [hci]
  dsimp only
  rw [hh]
  exact g2
end
