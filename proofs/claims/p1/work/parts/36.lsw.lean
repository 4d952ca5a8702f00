/-! a switch by keys -/
/-- a switch by a list of keys -/
theorem xo_lsw {δ : xe_Dy} {Y : xe_Y} {k pc len : Nat} {off0 : Int} {ps : Array (Int × Int)} {q : List (Int × Nat)} {dflt : Nat} (hk : xe_pc Y k = pc) (hd : decode (xy_b Y) pc = .ok (.lookupswitch off0 ps, len)) (hp : (ps.toList.zip (ps.toList.drop 1)).all (fun (a, next) => a.1 < next.1) = true) (h0 : (pc : Int) + off0 = ((xe_pc Y dflt : Nat) : Int)) (ha : ps.toList.map (fun z => (z.1, (pc : Int) + z.2)) = q.map (fun z => (z.1, ((xe_pc Y z.2 : Nat) : Int)))) : xe_OKL δ Y k (xe_lsw q dflt) := by
  intro p l e R s m args below meth c n0 s0 H locs cells slots Q lsJ ls st μ k' ls' st' μ' hC hfr hlo hR hl hf kk
  obtain ⟨hx, hb, hml, hown, hnm, hret, hlk, hts, hK, hE, hhd⟩ := hC
  unfold xe_lsw at hf
  split at hf
  · rename_i x r
    cases hf
    rw [hk]
    have kk := kk H locs cells slots lsJ hR hl
    have key : ∀ (A : List (Int × Int)) (B : List (Int × Nat)), A.map (fun z => (z.1, (pc : Int) + z.2)) = B.map (fun z => (z.1, ((xe_pc Y z.2 : Nat) : Int))) → (pc : Int) + Op.lookupswitch.offset A off0 x.toInt = ((xe_pc Y (((B.find? (fun z => z.1 == x.toInt)).map (fun z => z.2)).getD dflt) : Nat) : Int) := by
      intro A
      induction A with
      | nil => intro B hB; cases B with
        | nil => exact h0
        | cons b B => cases hB
      | cons a A ih => intro B hB; cases B with
        | nil => cases hB
        | cons b B =>
          simp only [List.map_cons, List.cons.injEq, Prod.mk.injEq] at hB
          obtain ⟨⟨h1, h2⟩, h3⟩ := hB
          have h4 := ih B h3
          by_cases hz : a.1 = x.toInt
          · simp [Op.lookupswitch.offset, List.find?_cons, hz, ← h1, h2]
          · have hz2 : (a.1 == x.toInt) = false := by simpa using hz
            simp only [Op.lookupswitch.offset, List.find?_cons, ← h1, hz2] at h4 ⊢
            rw [if_neg hz]
            exact h4
    exact lv_lookup hx hb hd hp rfl (key _ _ ha) kk
  · cases hf
