/-! switches; the script; all of a method's instructions -/
def xe_tsw (lo : Int) (bs : List Nat) (dflt : Nat) : xe_F := fun _ ls st μ => match st with
  | .int x :: r => some (if x.toInt < lo ∨ lo + bs.length ≤ x.toInt then dflt else bs.getD (x.toInt - lo).toNat 0, ls, r, μ)
  | _ => none
theorem xo_tsw {δ : xe_Dy} {Y : xe_Y} {k pc len : Nat} {lo hi off0 : Int} {offs : Array Int} {bs : List Nat} {dflt : Nat} (hk : xe_pc Y k = pc) (hd : decode (xy_b Y) pc = .ok (.tableswitch off0 lo hi offs, len)) (hn : hi = lo + bs.length - 1) (h0 : (pc : Int) + off0 = ((xe_pc Y dflt : Nat) : Int)) (ha : ∀ i, i < bs.length → (offs[i]?).map (fun o => (pc : Int) + o) = some ((xe_pc Y (bs.getD i 0) : Nat) : Int)) : xe_OKL δ Y k (xe_tsw lo bs dflt) := by
  intro p l e R s m args below meth c n0 s0 H locs cells slots Q lsJ ls st μ k' ls' st' μ' hC hfr hlo hR hl hf kk
  obtain ⟨hx, hb, hml, hown, hnm, hret, hlk, hts, hK, hE, hhd⟩ := hC
  unfold xe_tsw at hf
  split at hf
  · rename_i x r
    cases hf
    rw [hk]
    have kk := kk H locs cells slots lsJ hR hl
    by_cases hc : x.toInt < lo ∨ lo + bs.length ≤ x.toInt
    · rw [if_pos hc] at kk
      exact lv_tableOut hx hb hd (by omega) h0 kk
    · rw [if_neg hc] at kk
      have hi : (x.toInt - lo).toNat < bs.length := by omega
      have h1 := ha _ hi
      cases ho : offs[(x.toInt - lo).toNat]? with
      | none => rw [ho] at h1; cases h1
      | some o =>
        rw [ho] at h1
        exact lv_tableIn hx hb hd (by omega) (by omega) ho (Option.some.inj h1) kk
  · cases hf
def xe_lsw (q : List (Int × Nat)) (dflt : Nat) : xe_F := fun _ ls st μ => match st with
  | .int x :: r => some (((q.find? (fun z => z.1 == x.toInt)).map (fun z => z.2)).getD dflt, ls, r, μ)
  | _ => none
/-- the script, which is at the address 1000000 -/
def xe_sld (δ : xe_Dy) : xe_F := fun k ls st μ => match st with
  | .int i :: .ref a :: r => if a = 1000000 ∧ ¬ (i < 0 ∨ xd_n δ ≤ i.toNatClampNeg) then some (k + 1, ls, .int (xd_x δ i.toNatClampNeg) :: r, μ) else none
  | _ => none
def xe_sln (δ : xe_Dy) : xe_F := fun k ls st μ => match st with
  | .ref a :: r => if a = 1000000 then some (k + 1, ls, .int (Int32.ofNat (xd_n δ)) :: r, μ) else none
  | _ => none
theorem xe_ro_ext (δ : xe_Dy) (i : Nat) : xe_ro δ (1000000 + i) = xd_e δ i := by
  unfold xe_ro
  rw [if_neg (by omega), Nat.add_sub_cancel_left]
theorem xo_sld {δ : xe_Dy} {Y : xe_Y} {k pc : Nat} (hk : xe_pc Y k = pc) (hk1 : xe_pc Y (k + 1) = pc + 1) (hd : decode (xy_b Y) pc = .ok (.iaload, 1)) : xe_OKL δ Y k (xe_sld δ) := by
  intro p l e R s m args below meth c n0 s0 H locs cells slots Q lsJ ls st μ k' ls' st' μ' hC hfr hlo hR hl hf kk
  obtain ⟨hx, hb, hml, hown, hnm, hret, hlk, hts, hK, hE, hhd⟩ := hC
  unfold xe_sld at hf
  split at hf
  · rename_i i a r
    split at hf
    · rename_i hc
      obtain ⟨rfl, hin⟩ := hc
      cases hf
      rw [hk]
      have kk := kk H locs cells slots lsJ hR hl
      rw [hk1] at kk
      have e1 : xe_ro δ 1000000 = xd_e δ 0 := xe_ro_ext δ 0
      show W p l e R s m args below meth c H locs cells slots Q (F0 m pc lsJ (.int i :: .ref (xe_ro δ 1000000) :: _))
      rw [e1]
      exact va_sld hx hb hE.1 (by have := hR.2.2.2.1; have := hE.2.1; omega) (fun h => by have := hE.2.1; exact Nat.not_le.mpr this h) hR.2.2.1 hin hd kk
    · cases hf
  · cases hf
theorem xo_sln {δ : xe_Dy} {Y : xe_Y} {k pc : Nat} (hk : xe_pc Y k = pc) (hk1 : xe_pc Y (k + 1) = pc + 1) (hd : decode (xy_b Y) pc = .ok (.arraylength, 1)) : xe_OKL δ Y k (xe_sln δ) := by
  intro p l e R s m args below meth c n0 s0 H locs cells slots Q lsJ ls st μ k' ls' st' μ' hC hfr hlo hR hl hf kk
  obtain ⟨hx, hb, hml, hown, hnm, hret, hlk, hts, hK, hE, hhd⟩ := hC
  unfold xe_sln at hf
  split at hf
  · rename_i a r
    split at hf
    · rename_i hc
      subst hc
      cases hf
      rw [hk]
      have kk := kk H locs cells slots lsJ hR hl
      rw [hk1] at kk
      have e1 : xe_ro δ 1000000 = xd_e δ 0 := xe_ro_ext δ 0
      show W p l e R s m args below meth c H locs cells slots Q (F0 m pc lsJ (.ref (xe_ro δ 1000000) :: _))
      rw [e1]
      exact va_slen hx hb hE.1 (by have := hR.2.2.2.1; have := hE.2.1; omega) (fun h => by have := hE.2.1; exact Nat.not_le.mpr this h) hR.2.2.1 hd kk
    · cases hf
  · cases hf
/-- an operation that this machine doesn't do -/
def xe_stuck : xe_F := fun _ _ _ _ => none
theorem xo_stuck (δ : xe_Dy) (Y : xe_Y) (k : Nat) : xe_OKL δ Y k xe_stuck := by
  intro p l e R s m args below meth c n0 s0 H locs cells slots Q lsJ ls st μ k' ls' st' μ' hC hfr hlo hR hl hf
  cases hf
/-- one instruction is right -/
def xe_OK (δ : xe_Dy) (MY : Nat → Option xe_Y) (ML : Nat → Nat) (Y : xe_Y) (k : Nat) : xe_In → Prop
  | .inl f => xe_OKL δ Y k f
  | .inr (.inl q) => ∃ Z, MY q.1 = some Z ∧ xy_l Z = ML q.1 ∧ xe_OKM Z ∧ xe_OKC δ Y k Z q
  | .inr (.inr z) => xe_OKE δ Y k z
def xe_All (δ : xe_Dy) (MY : Nat → Option xe_Y) (ML : Nat → Nat) (Y : xe_Y) (k : Nat) (L : List xe_In) : Prop := ∀ (j : Nat) (i : xe_In), L[j]? = some i → xe_OK δ MY ML Y (k + j) i
theorem xe_All_nil {δ : xe_Dy} {MY : Nat → Option xe_Y} {ML : Nat → Nat} {Y : xe_Y} {k : Nat} : xe_All δ MY ML Y k [] := fun j i h => by simp at h
theorem xe_All_cons {δ : xe_Dy} {MY : Nat → Option xe_Y} {ML : Nat → Nat} {Y : xe_Y} {k k1 : Nat} {i : xe_In} {L : List xe_In} (h : xe_OK δ MY ML Y k i) (hk : k + 1 = k1) (hL : xe_All δ MY ML Y k1 L) : xe_All δ MY ML Y k (i :: L) := by
  intro j x hj
  cases j with
  | zero => simp at hj; subst hj; exact h
  | succ j =>
    have := hL j x (by simpa using hj)
    rw [show k + (j + 1) = k1 + j by omega]
    exact this
theorem xe_All_app {δ : xe_Dy} {MY : Nat → Option xe_Y} {ML : Nat → Nat} {Y : xe_Y} {k k1 : Nat} {L M : List xe_In} (h : xe_All δ MY ML Y k L) (hk : k + L.length = k1) (hM : xe_All δ MY ML Y k1 M) : xe_All δ MY ML Y k (L ++ M) := by
  intro j x hj
  by_cases hl : j < L.length
  · rw [List.getElem?_append_left hl] at hj
    exact h j x hj
  · rw [List.getElem?_append_right (by omega)] at hj
    have := hM _ x hj
    rw [show k + j = k1 + (j - L.length) by omega]
    exact this
