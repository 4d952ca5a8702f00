/-! reading a declaration -/
def zX1 (s a j : Nat) : Prop := (a = 181 ∧ j = 6) ∨ (a = 182 ∧ j = 3) ∨ ((a = 184 ∨ a = 185) ∧ j = s)
def zY1 (s a j : Nat) : Prop := a = 183 ∧ j = s
def zXn (a j : Nat) : Prop := a = 203 ∧ j = 10
def zc36p (m8 : xe_Mem) : zO := zq_cV (zD41 1000016 m8) fun m14 => zq_cI (zD42 0 999999 m14) fun x18 m16 => zq_cV (zD43 x18 m16) fun m19 => zD36_68 m19
def zc36s (m8 : xe_Mem) : zO := zq_m (xe_setI m8 7 5 ((xe_I m8 7 5) + 1)) fun m10 => zD36_68 m10
def zr42p (v2 : Int64) (m19 : xe_Mem) : zO := zq_cI (zD146 61 m19) fun x35 m33 => if x35 = 0 then some (.inl (some (.int 0)), m33) else zq_cI (zD148 0 999999 m33) fun x38 m36 => if x38 = 0 then some (.inl (some (.int 0)), m36) else zq_x (xe_I m36 203 12) 12 fun j39 => zq_m (xe_setL m36 210 j39 v2) fun m43 => zq_cI (zD149 m43) fun x47 m45 => zq_x (xe_I m43 203 12) 12 fun j48 => zq_m (xe_setI m45 211 j48 x47) fun m52 => zq_m (xe_setI m52 203 12 ((xe_I m52 203 12) + 1)) fun m54 => zq_cI (zD146 59 m54) fun x58 m56 => zq_z x58 <| some (.inl (some (.int x58)), m56)
def zr42s (v2 : Int64) (m19 : xe_Mem) : zO := zq_x (xe_I m19 203 15) 4 fun j22 => zq_m (xe_setL m19 212 j22 v2) fun m26 => zq_m (xe_setI m26 203 15 ((xe_I m26 203 15) + 1)) fun m28 => zq_cI (zD146 59 m28) fun x32 m30 => zq_z x32 <| some (.inl (some (.int x32)), m30)
/-- a declaration is read by both, or refused by both -/
def zDO (N P S : Nat) (μ ν : xe_Mem) (p : Nat) (A B : zO) : Prop := (∃ P' S' μ' ν' p', A = some (.inl none, μ') ∧ B = zint 1 ν' ∧ zBD N P' S' μ' ν' p' ∧ P' + S' = P + S + 1 ∧ p < p' ∧ zW μ ν μ' ν') ∨ zFx N μ ν A B
section
variable {N P S p p2 : Nat} {μ ν μ2 ν2 : xe_Mem} {x : Int64}
theorem z_dport2 (h : zBD N P S μ ν p) (hP12 : P < 12) (hP2 : zPo N μ2 ν2 p2) (hp : p < p2) (hW : zW μ ν μ2 ν2) (G1 : zfG (zX1 (P + S)) (zY1 (P + S)) zZu μ μ2) (G2 : zfG zXn zZu zZu ν ν2) (hx : ∀ e, e < P + S → ¬ xe_L μ 183 e = x) (c2 : xe_I μ2 184 (P + S) = 2 ∧ xe_I μ2 185 (P + S) = nI P ∧ xe_L μ2 183 (P + S) = x) (c182 : xe_I μ2 182 3 = nI (P + S + 1)) : zDO N P S μ ν p (zc36p μ2) (zr42p x ν2) := by
  obtain ⟨hP, ⟨hR, hNp, ⟨p1, p2', p3⟩, ct, cm, cv⟩, hNn, hC, -⟩ := id h
  unfold zc36p zr42p
  rcases zt_sign hP2 (K := 15) (by decide) (by decide) with ⟨hN, a1, a2⟩ | hf
  · have hP3 := zPo_mv hP2 hN
    rw [show zD41 1000016 μ2 = _ from a1, zcV_ok, show zD146 61 ν2 = _ from a2, zcI_ok, if_neg (show ¬ (1 : Int32) = 0 by decide)]
    rcases zt_num hP3 (lo := 0) (hi := 999999) (by decide) (by decide) with ⟨v, hN2, -, x2, a3, a4, a5, a6⟩ | hf
    · rw [show zD42 0 999999 (zmv μ2 p2) = _ from a3, zcI_ok, show zD148 0 999999 (zrmv ν2 p2) = _ from a4, zcI_ok, if_neg (show ¬ (1 : Int32) = 0 by decide)]
      have hP4 := zPo_mv hP3 hN2
      have hW4 : zW μ ν (zmv (zmv μ2 p2) (p2 + 1)) (zrmv (zrmv ν2 p2) (p2 + 1)) := zW_t hW (zW_t zW_mv zW_mv)
      have k2 : ∀ c j, (c ≠ 181 ∨ j ≠ 6) → xe_I (zmv (zmv μ2 p2) (p2 + 1)) c j = xe_I μ2 c j := fun c j q => (xu_In (by omega)).trans (xu_In (by omega))
      have k2r : ∀ c j, (c ≠ 203 ∨ j ≠ 10) → xe_I (zrmv (zrmv ν2 p2) (p2 + 1)) c j = xe_I ν2 c j := fun c j q => (xu_In (by omega)).trans (xu_In (by omega))
      have g : ∀ a j, a < 265 → ¬ zX1 (P + S) a j → xe_I μ2 a j = xe_I μ a j := fun a j q1 q2 => (G1 a q1 j).1 q2
      have gr : ∀ a j, a < 265 → ¬ zXn a j → xe_I ν2 a j = xe_I ν a j := fun a j q1 q2 => (G2 a q1 j).1 q2
      have h74 : xe_I (zmv (zmv μ2 p2) (p2 + 1)) 7 4 = nI P := (k2 7 4 (by omega)).trans ((g 7 4 (by decide) (by unfold zX1; omega)).trans p1)
      have h12 : xe_I (zrmv (zrmv ν2 p2) (p2 + 1)) 203 12 = nI P := (k2r 203 12 (by omega)).trans ((gr 203 12 (by decide) (by unfold zXn; omega)).trans hNp.2.2.1)
      have k149 : zD149 (xe_setL (zrmv (zrmv ν2 p2) (p2 + 1)) 210 P x) = zint (nI v) (xe_setL (zrmv (zrmv ν2 p2) (p2 + 1)) 210 P x) := z149 (p := p2 + 1) (show xe_I (zrmv (zrmv ν2 p2) (p2 + 1)) 203 10 = nI (p2 + 1 + 1) from xu_I) a6 (by
        rw [zu_L, if_neg (by omega)]
        exact a5) x2
      have hA : zD43 (nI v) (zmv (zmv μ2 p2) (p2 + 1)) = some (.inl none, xe_setI (xe_setI (zmv (zmv μ2 p2) (p2 + 1)) 14 P (nI v)) 7 4 (nI (P + 1))) := by
        unfold zD43
        rw [h74, zx_nI hP12 (by decide)]
        simp only [zq_m]
        rw [show xe_I (xe_setI (zmv (zmv μ2 p2) (p2 + 1)) 14 P (nI v)) 7 4 = nI P from (xu_In (by omega)).trans h74, nI_1]
      rw [hA, zcV_ok, h12, zx_nI hP12 (by decide)]
      simp only [zq_m]
      rw [k149, zcI_ok, show xe_I (xe_setL (zrmv (zrmv ν2 p2) (p2 + 1)) 210 P x) 203 12 = nI P from h12, zx_nI hP12 (by decide), show xe_I (xe_setI (xe_setL (zrmv (zrmv ν2 p2) (p2 + 1)) 210 P x) 211 P (nI v)) 203 12 = nI P from (xu_In (by omega)).trans h12, nI_1]
      have hP5 : zPo N (xe_setI (xe_setI (zmv (zmv μ2 p2) (p2 + 1)) 14 P (nI v)) 7 4 (nI (P + 1))) (xe_setI (xe_setI (xe_setL (zrmv (zrmv ν2 p2) (p2 + 1)) 210 P x) 211 P (nI v)) 203 12 (nI (P + 1))) (p2 + 1 + 1) := by
        refine zPo_k hP4 (fun a ha => ⟨funext fun j => (xu_In (by omega)).trans (xu_In (by omega)), rfl, rfl⟩) (fun a ha => ⟨funext fun j => (xu_In (by omega)).trans ((xu_In (by omega)).trans rfl), ?_⟩) ((xu_In (by omega)).trans (xu_In (by omega))) ⟨(xu_In (by omega)).trans ((xu_In (by omega)).trans rfl), (xu_In (by omega)).trans ((xu_In (by omega)).trans rfl)⟩ rfl rfl ((xu_In (by omega)).trans (xu_In (by omega)))
        rw [zqL_I, zqL_I, zr_LL, if_neg (by omega)]
      have hW5 : zW μ ν (xe_setI (xe_setI (zmv (zmv μ2 p2) (p2 + 1)) 14 P (nI v)) 7 4 (nI (P + 1))) (xe_setI (xe_setI (xe_setL (zrmv (zrmv ν2 p2) (p2 + 1)) 210 P x) 211 P (nI v)) 203 12 (nI (P + 1))) := zW_t hW4 (zW_t (zW_t (zW_I (zgI_b (by omega) (by omega))) (zW_I (zgI_b (by omega) (by omega)))) (zW_t (zW_t (zW_rL (by omega)) (zW_rI ⟨by omega, by omega⟩)) (zW_rI ⟨by omega, by omega⟩)))
      unfold zD36_68
      rcases zt_sign hP5 (K := 13) (by decide) (by decide) with ⟨hN3, w1, w2⟩ | hf
      · rw [show zD41 1000014 (xe_setI (xe_setI (zmv (zmv μ2 p2) (p2 + 1)) 14 P (nI v)) 7 4 (nI (P + 1))) = _ from w1, zcV_ok, show zD146 59 (xe_setI (xe_setI (xe_setL (zrmv (zrmv ν2 p2) (p2 + 1)) 210 P x) 211 P (nI v)) 203 12 (nI (P + 1))) = _ from w2, zcI_ok, zz_1]
        have kc : ∀ c j, (c ≠ 181 ∨ j ≠ 6) → (c ≠ 7 ∨ j ≠ 4) → (c ≠ 14 ∨ j ≠ P) → xe_I (zmv (xe_setI (xe_setI (zmv (zmv μ2 p2) (p2 + 1)) 14 P (nI v)) 7 4 (nI (P + 1))) (p2 + 1 + 1)) c j = xe_I μ2 c j := fun c j q1 q2 q3 => (xu_In (by omega)).trans ((xu_In (by omega)).trans ((xu_In (by omega)).trans (k2 c j q1)))
        have kr : ∀ c j, (c ≠ 203 ∨ (j ≠ 10 ∧ j ≠ 12)) → (c ≠ 211 ∨ j ≠ P) → xe_I (zrmv (xe_setI (xe_setI (xe_setL (zrmv (zrmv ν2 p2) (p2 + 1)) 210 P x) 211 P (nI v)) 203 12 (nI (P + 1))) (p2 + 1 + 1)) c j = xe_I ν2 c j := fun c j q1 q2 => (xu_In (by omega)).trans ((xu_In (by omega)).trans ((xu_In (by omega)).trans (k2r c j (by omega))))
        have kL : ∀ c j, (c ≠ 210 ∨ j ≠ P) → xe_L (zrmv (xe_setI (xe_setI (xe_setL (zrmv (zrmv ν2 p2) (p2 + 1)) 210 P x) 211 P (nI v)) 203 12 (nI (P + 1))) (p2 + 1 + 1)) c j = xe_L ν2 c j := fun c j q => by
          show xe_L (xe_setL (zrmv (zrmv ν2 p2) (p2 + 1)) 210 P x) c j = _
          rw [zu_L, if_neg (by omega)]
          rfl
        refine Or.inl ⟨P + 1, S, _, _, p2 + 1 + 1 + 1, rfl, rfl, zBD_k h (zPo_mv hP5 hN3) (by omega) ?_ ?_ (zNp_P hNp hP12 hx (fun e he => ⟨?_, ?_, ?_⟩) ⟨?_, ?_, ?_⟩ (fun i hi => ?_) ?_ (fun i hi => ?_) ?_ ?_) ?_ ?_ (fun j hj => ?_) ?_, by omega, by omega, zW_t hW5 zW_mv⟩
        · refine zfG_t (zfG_w G1 (fun a j q => by unfold zX1 at q; unfold zXd; omega) (fun a j q => ⟨q.1, rfl⟩) (fun a j q => q)) ?_
          exact fun a ha j => ⟨fun q => kc a j (by unfold zXd at q; omega) (by unfold zXd at q; omega) (by unfold zXd at q; omega), fun _ => rfl, fun _ => rfl⟩
        · refine zfG_t (zfG_w G2 (fun a j q => by unfold zXn at q; unfold zXf2; omega) (fun a j q => absurd rfl q.2) (fun a j q => q)) ?_
          exact fun a ha j => ⟨fun q => kr a j (by unfold zXf2 at q; omega) (by unfold zXf2 at q; omega), fun q => kL a j (Or.inl (fun w => q ⟨Or.inl w, rfl⟩)), fun _ => rfl⟩
        · exact (kc 184 e (by omega) (by omega) (by omega)).trans (g 184 e (by decide) (by unfold zX1; omega))
        · exact (kc 185 e (by omega) (by omega) (by omega)).trans (g 185 e (by decide) (by unfold zX1; omega))
        · exact (G1 183 (by decide) e).2.1 (by unfold zY1; omega)
        · exact (kc 184 _ (by omega) (by omega) (by omega)).trans c2.1
        · exact (kc 185 _ (by omega) (by omega) (by omega)).trans c2.2.1
        · exact c2.2.2
        · rw [kL 210 i (by omega)]
          exact (G2 210 (by decide) i).2.1 (fun w => w.2 rfl)
        · show xe_L (xe_setL (zrmv (zrmv ν2 p2) (p2 + 1)) 210 P x) 210 P = x
          rw [zu_L, if_pos ⟨rfl, rfl⟩]
        · rw [kL 212 i (by omega)]
          exact (G2 212 (by decide) i).2.1 (fun w => w.2 rfl)
        · exact (xu_In (by omega)).trans xu_I
        · exact (kr 203 15 (by omega) (by omega)).trans (gr 203 15 (by decide) (by unfold zXn; omega))
        · exact (xu_In (by omega)).trans xu_I
        · exact (kc 7 5 (by omega) (by omega) (by omega)).trans ((g 7 5 (by decide) (by unfold zX1; omega)).trans p2')
        · by_cases w : j = P
          · rw [w]
            have q1 : xe_I (zmv (xe_setI (xe_setI (zmv (zmv μ2 p2) (p2 + 1)) 14 P (nI v)) 7 4 (nI (P + 1))) (p2 + 1 + 1)) 14 P = nI v := (xu_In (by omega)).trans ((xu_In (by omega)).trans xu_I)
            have q2 : xe_I (zrmv (xe_setI (xe_setI (xe_setL (zrmv (zrmv ν2 p2) (p2 + 1)) 210 P x) 211 P (nI v)) 203 12 (nI (P + 1))) (p2 + 1 + 1)) 211 P = nI v := (xu_In (by omega)).trans ((xu_In (by omega)).trans xu_I)
            rw [q1, q2]
          · rw [kc 14 j (by omega) (by omega) (by omega), kr 211 j (by omega) (by omega), g 14 j (by decide) (by unfold zX1; omega), gr 211 j (by decide) (by unfold zXn; omega)]
            exact cv j (by omega)
        · rw [kc 182 3 (by omega) (by omega) (by omega), c182]
          congr 1
          omega
      · exact Or.inr (zFx_w hW5 (zFx_cV (zFx_z hf)))
    · exact Or.inr (zFx_w (zW_t hW zW_mv) (zFx_cI (zFx_b hf)))
  · exact Or.inr (zFx_w hW (zFx_cV (zFx_b hf)))
theorem z_dsens2 (h : zBD N P S μ ν p) (hS4 : S < 4) (hP2 : zPo N μ2 ν2 p2) (hp : p < p2) (hW : zW μ ν μ2 ν2) (G1 : zfG (zX1 (P + S)) (zY1 (P + S)) zZu μ μ2) (G2 : zfG zXn zZu zZu ν ν2) (hx : ∀ e, e < P + S → ¬ xe_L μ 183 e = x) (c2 : xe_I μ2 184 (P + S) = 3 ∧ xe_I μ2 185 (P + S) = nI S ∧ xe_L μ2 183 (P + S) = x) (c182 : xe_I μ2 182 3 = nI (P + S + 1)) : zDO N P S μ ν p (zc36s μ2) (zr42s x ν2) := by
  obtain ⟨hP, ⟨hR, hNp, ⟨p1, p2', p3⟩, ct, cm, cv⟩, hNn, hC, -⟩ := id h
  have g : ∀ a j, a < 265 → ¬ zX1 (P + S) a j → xe_I μ2 a j = xe_I μ a j := fun a j q1 q2 => (G1 a q1 j).1 q2
  have gr : ∀ a j, a < 265 → ¬ zXn a j → xe_I ν2 a j = xe_I ν a j := fun a j q1 q2 => (G2 a q1 j).1 q2
  have h75 : xe_I μ2 7 5 = nI S := (g 7 5 (by decide) (by unfold zX1; omega)).trans p2'
  have h15 : xe_I ν2 203 15 = nI S := (gr 203 15 (by decide) (by unfold zXn; omega)).trans hNp.2.2.2.1
  unfold zc36s zr42s zD36_68
  simp only [zq_m]
  rw [h75, nI_1, h15, zx_nI hS4 (by decide), show xe_I (xe_setL ν2 212 S x) 203 15 = nI S from h15, nI_1]
  have hP5 : zPo N (xe_setI μ2 7 5 (nI (S + 1))) (xe_setI (xe_setL ν2 212 S x) 203 15 (nI (S + 1))) p2 := by
    refine zPo_k hP2 (fun a ha => ⟨funext fun j => xu_In (by omega), rfl, rfl⟩) (fun a ha => ⟨funext fun j => (xu_In (by omega)).trans rfl, ?_⟩) (xu_In (by omega)) ⟨(xu_In (by omega)).trans rfl, (xu_In (by omega)).trans rfl⟩ rfl rfl (xu_In (by omega))
    rw [zqL_I, zr_LL, if_neg (by omega)]
  have hW5 : zW μ ν (xe_setI μ2 7 5 (nI (S + 1))) (xe_setI (xe_setL ν2 212 S x) 203 15 (nI (S + 1))) := zW_t hW (zW_t (zW_I (zgI_b (by omega) (by omega))) (zW_t (zW_rL (by omega)) (zW_rI ⟨by omega, by omega⟩)))
  rcases zt_sign hP5 (K := 13) (by decide) (by decide) with ⟨hN3, w1, w2⟩ | hf
  · rw [show zD41 1000014 (xe_setI μ2 7 5 (nI (S + 1))) = _ from w1, zcV_ok, show zD146 59 (xe_setI (xe_setL ν2 212 S x) 203 15 (nI (S + 1))) = _ from w2, zcI_ok, zz_1]
    have kc : ∀ c j, (c ≠ 181 ∨ j ≠ 6) → (c ≠ 7 ∨ j ≠ 5) → xe_I (zmv (xe_setI μ2 7 5 (nI (S + 1))) p2) c j = xe_I μ2 c j := fun c j q1 q2 => (xu_In (by omega)).trans (xu_In (by omega))
    have kr : ∀ c j, (c ≠ 203 ∨ (j ≠ 10 ∧ j ≠ 15)) → xe_I (zrmv (xe_setI (xe_setL ν2 212 S x) 203 15 (nI (S + 1))) p2) c j = xe_I ν2 c j := fun c j q1 => (xu_In (by omega)).trans ((xu_In (by omega)).trans rfl)
    have kL : ∀ c j, (c ≠ 212 ∨ j ≠ S) → xe_L (zrmv (xe_setI (xe_setL ν2 212 S x) 203 15 (nI (S + 1))) p2) c j = xe_L ν2 c j := fun c j q => by
      show xe_L (xe_setL ν2 212 S x) c j = _
      rw [zu_L, if_neg (by omega)]
    refine Or.inl ⟨P, S + 1, _, _, p2 + 1, rfl, rfl, zBD_k h (zPo_mv hP5 hN3) (by omega) ?_ ?_ (zNp_S hNp hS4 hx (fun e he => ⟨?_, ?_, ?_⟩) ⟨?_, ?_, ?_⟩ (fun i hi => ?_) ?_ (fun i hi => ?_) ?_ ?_) ?_ ?_ (fun j hj => ?_) ?_, by omega, by omega, zW_t hW5 zW_mv⟩
    · refine zfG_t (zfG_w G1 (fun a j q => by unfold zX1 at q; unfold zXd; omega) (fun a j q => ⟨q.1, rfl⟩) (fun a j q => q)) ?_
      exact fun a ha j => ⟨fun q => kc a j (by unfold zXd at q; omega) (by unfold zXd at q; omega), fun _ => rfl, fun _ => rfl⟩
    · refine zfG_t (zfG_w G2 (fun a j q => by unfold zXn at q; unfold zXf2; omega) (fun a j q => absurd rfl q.2) (fun a j q => q)) ?_
      exact fun a ha j => ⟨fun q => kr a j (by unfold zXf2 at q; omega), fun q => kL a j (Or.inl (fun w => q ⟨Or.inr w, rfl⟩)), fun _ => rfl⟩
    · exact (kc 184 e (by omega) (by omega)).trans (g 184 e (by decide) (by unfold zX1; omega))
    · exact (kc 185 e (by omega) (by omega)).trans (g 185 e (by decide) (by unfold zX1; omega))
    · exact (G1 183 (by decide) e).2.1 (by unfold zY1; omega)
    · exact (kc 184 _ (by omega) (by omega)).trans c2.1
    · exact (kc 185 _ (by omega) (by omega)).trans c2.2.1
    · exact c2.2.2
    · rw [kL 210 i (by omega)]
      exact (G2 210 (by decide) i).2.1 (fun w => w.2 rfl)
    · show xe_L (xe_setL ν2 212 S x) 212 S = x
      rw [zu_L, if_pos ⟨rfl, rfl⟩]
    · rw [kL 212 i (by omega)]
      exact (G2 212 (by decide) i).2.1 (fun w => w.2 rfl)
    · exact (xu_In (by omega)).trans xu_I
    · exact (kr 203 12 (by omega)).trans (gr 203 12 (by decide) (by unfold zXn; omega))
    · exact (kc 7 4 (by omega) (by omega)).trans ((g 7 4 (by decide) (by unfold zX1; omega)).trans p1)
    · exact (xu_In (by omega)).trans xu_I
    · rw [kc 14 j (by omega) (by omega), kr 211 j (by omega), g 14 j (by decide) (by unfold zX1; omega), gr 211 j (by decide) (by unfold zXn; omega)]
      exact cv j hj
    · rw [kc 182 3 (by omega) (by omega), c182]
      congr 1
  · exact Or.inr (zFx_w hW5 (zFx_cV (zFx_z hf)))
/-- a declaration -/
theorem z_decl (h : zBD N P S μ ν p) {q pl : Nat} (hN : p + 1 < N) (hk : zTk μ ν p q pl) (hq : q ≤ 1) : zDO N P S μ ν p (zD36 μ) (zD142 ν) := by
  obtain ⟨hP, ⟨hR, hNp, ⟨p1, p2', p3⟩, ct, cm, cv⟩, hNn, hC, h182⟩ := id h
  obtain ⟨hx, e1, f1, b1, b2, b3, b4, b5, b6⟩ := id hP
  have hN3 := hx.2.1
  have hP1 := zPo_mv hP hN
  obtain ⟨g1, g2, g3, g4, -⟩ := id hNp
  have hna : zNa 182 22 := Or.inl ⟨rfl, rfl⟩
  have k1 : ∀ c j, (c ≠ 181 ∨ j ≠ 6) → xe_I (zmv μ p) c j = xe_I μ c j := fun c j q => xu_In (by omega)
  have hNp1 : zNp (zmv μ p) (zrmv ν p) P S := zNp_k hNp (fun e _ => ⟨k1 184 e (by omega), k1 185 e (by omega), rfl⟩) ⟨rfl, rfl⟩ ⟨xu_In (by omega), xu_In (by omega)⟩
  have hno : ∀ v, zD142_22 v 0 ν = zint 0 (xe_setI ν 203 11 1) := fun v => by
    unfold zD142_22
    rw [z143f, zcI_ok, if_pos rfl]
  have hyes : ∀ v, zD142_22 v 1 ν = zr42 v (zrmv ν p) := fun v => by
    unfold zD142_22
    rw [z143t f1 b2, zcI_ok, if_neg (show ¬ (1 : Int32) = 0 by decide)]
    rfl
  have hA35 : zD35 1000001 μ = _ := z35 e1 (by omega) hk.1 (by omega) (K := 0) (by decide)
  have hB141 : zD141 0 ν = _ := z141 f1 (by omega) hk (K := 0) (by decide)
  unfold zD36 zD142
  rw [hA35, hB141, zcI_ok, zcI_ok]
  by_cases hq0 : q = 0
  · rw [decide_eq_true hq0, if_neg (show ¬ zb01 true = 0 by decide), if_neg (show ¬ zb01 true = 0 by decide), p1, g3]
    by_cases h12 : P = 12
    · rw [if_pos (show nI P = 12 by rw [h12]; rfl), if_pos (show (12 : Int32) ≤ nI P from nI_le (a := 12) (by omega) (by omega)), hno]
      refine Or.inr (zPo_no hP ?_ rfl)
      unfold zD36_23
      rw [z37_1, zthr b4 b5, zcV_no]
    · rw [if_neg (show ¬ nI P = 12 from fun w => h12 (by rw [show (12 : Int32) = nI 12 from rfl, zi_eq (by omega) (by omega)] at w; exact w)), if_neg (show ¬ (12 : Int32) ≤ nI P from nI_ge (b := 12) (by omega) (by decide)), hyes]
      have hc : zD36_23 (zb01 true) 0 μ = zq_cV (zD38 182 2 (nI P) (zmv μ p)) zc36p := by
        unfold zD36_23
        rw [z37_0, zcV_ok]
        simp only [zq_m]
        rw [e1, nI_1, if_neg (show ¬ zb01 true = 0 by decide)]
        unfold zD36_38
        rw [if_neg (show ¬ zb01 true = 0 by decide), show xe_I (xe_setI μ 181 6 (nI (p + 1))) 7 4 = nI P from (k1 7 4 (by omega)).trans p1]
        unfold zD36_47
        simp only [if_neg (show ¬ zb01 true = 0 by decide)]
        rfl
      rw [hc]
      rcases z_dname (s2 := 2) (s3 := nI P) (v1 := zb01 true) hP1 hR hNp1 ((k1 182 3 (by omega)).trans h182) with ⟨hN2, y0, y1, y2, y3, y4⟩ | hf
      · rw [y3, y4, zcV_ok]
        have hr : zD142_51 (zb01 true) (xe_L (zmv μ p) 6 (p + 1)) 1 (zrmv ν p) = zr42p (xe_L (zmv μ p) 6 (p + 1)) (zrmv (zrmv ν p) (p + 1)) := by
          unfold zD142_51
          rw [z143t hP1.2.2.1 hP1.2.2.2.2.1, zcI_ok, if_neg (show ¬ (1 : Int32) = 0 by decide), if_neg (show ¬ zb01 true = 0 by decide)]
          rfl
        rw [hr]
        refine z_dport2 (p2 := p + 1 + 1) h (by omega) (zPo_mv (zPo_nn hna hP1) hN2) (by omega) (zW_t zW_mv (zW_t (zW_nn hna) zW_mv)) ?_ ?_ y2 ⟨?_, ?_, ?_⟩ ?_
        · unfold zmv znn
          refine zfG_t ?_ (zfG_I (by unfold zX1; omega))
          refine zfG_t ?_ (zfG_I (by unfold zX1; omega))
          refine zfG_t ?_ (zfG_I (by unfold zX1; omega))
          refine zfG_t ?_ (zfG_I (by unfold zX1; omega))
          refine zfG_t ?_ (zfG_L (by unfold zY1; omega))
          exact zfG_I (by unfold zX1; omega)
        · exact zfG_t (zfG_I ⟨rfl, rfl⟩) (zfG_I ⟨rfl, rfl⟩)
        · exact (xu_In (by omega)).trans ((xu_In (by omega)).trans ((xu_In (by omega)).trans xu_I))
        · exact (xu_In (by omega)).trans ((xu_In (by omega)).trans xu_I)
        · show xe_L (xe_setL (zmv μ p) 183 (P + S) (xe_L (zmv μ p) 6 (p + 1))) 183 (P + S) = _
          rw [zu_L, if_pos ⟨rfl, rfl⟩]
        · exact (xu_In (by omega)).trans xu_I
      · exact Or.inr (zFx_w zW_mv (zFx_cV hf))
  · rw [decide_eq_false hq0, if_pos (show zb01 false = 0 by decide), if_pos (show zb01 false = 0 by decide), p2', g4]
    by_cases h4 : S = 4
    · rw [if_pos (show nI S = 4 by rw [h4]; rfl), if_pos (show (4 : Int32) ≤ nI S from nI_le (a := 4) (by omega) (by omega)), hno]
      refine Or.inr (zPo_no hP ?_ rfl)
      unfold zD36_23
      rw [z37_1, zthr b4 b5, zcV_no]
    · rw [if_neg (show ¬ nI S = 4 from fun w => h4 (by rw [show (4 : Int32) = nI 4 from rfl, zi_eq (by omega) (by omega)] at w; exact w)), if_neg (show ¬ (4 : Int32) ≤ nI S from nI_ge (b := 4) (by omega) (by decide)), hyes]
      have hc : zD36_23 (zb01 false) 0 μ = zq_cV (zD38 182 3 (nI S) (zmv μ p)) zc36s := by
        unfold zD36_23
        rw [z37_0, zcV_ok]
        simp only [zq_m]
        rw [e1, nI_1, if_pos (show zb01 false = 0 by decide)]
        unfold zD36_38
        rw [if_pos (show zb01 false = 0 by decide), show xe_I (xe_setI μ 181 6 (nI (p + 1))) 7 5 = nI S from (k1 7 5 (by omega)).trans p2']
        unfold zD36_47
        simp only [if_pos (show zb01 false = 0 by decide)]
        rfl
      rw [hc]
      rcases z_dname (s2 := 3) (s3 := nI S) (v1 := zb01 false) hP1 hR hNp1 ((k1 182 3 (by omega)).trans h182) with ⟨hN2, y0, y1, y2, y3, y4⟩ | hf
      · rw [y3, y4, zcV_ok]
        have hr : zD142_51 (zb01 false) (xe_L (zmv μ p) 6 (p + 1)) 1 (zrmv ν p) = zr42s (xe_L (zmv μ p) 6 (p + 1)) (zrmv (zrmv ν p) (p + 1)) := by
          unfold zD142_51
          rw [z143t hP1.2.2.1 hP1.2.2.2.2.1, zcI_ok, if_neg (show ¬ (1 : Int32) = 0 by decide), if_pos (show zb01 false = 0 by decide)]
          rfl
        rw [hr]
        refine z_dsens2 (p2 := p + 1 + 1) h (by omega) (zPo_mv (zPo_nn hna hP1) hN2) (by omega) (zW_t zW_mv (zW_t (zW_nn hna) zW_mv)) ?_ ?_ y2 ⟨?_, ?_, ?_⟩ ?_
        · unfold zmv znn
          refine zfG_t ?_ (zfG_I (by unfold zX1; omega))
          refine zfG_t ?_ (zfG_I (by unfold zX1; omega))
          refine zfG_t ?_ (zfG_I (by unfold zX1; omega))
          refine zfG_t ?_ (zfG_I (by unfold zX1; omega))
          refine zfG_t ?_ (zfG_L (by unfold zY1; omega))
          exact zfG_I (by unfold zX1; omega)
        · exact zfG_t (zfG_I ⟨rfl, rfl⟩) (zfG_I ⟨rfl, rfl⟩)
        · exact (xu_In (by omega)).trans ((xu_In (by omega)).trans ((xu_In (by omega)).trans xu_I))
        · exact (xu_In (by omega)).trans ((xu_In (by omega)).trans xu_I)
        · show xe_L (xe_setL (zmv μ p) 183 (P + S) (xe_L (zmv μ p) 6 (p + 1))) 183 (P + S) = _
          rw [zu_L, if_pos ⟨rfl, rfl⟩]
        · exact (xu_In (by omega)).trans xu_I
      · exact Or.inr (zFx_w zW_mv (zFx_cV hf))
end
