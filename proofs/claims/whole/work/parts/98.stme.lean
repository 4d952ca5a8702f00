/-! statements: the end of an assignment to a local -/
section
variable {N P S Lc t m abn mb : Nat} {off a0 : Nat} {μ ν : xe_Mem} {p L ub o w l : Nat}
def zKl (e : Nat) (m37 : xe_Mem) : zO := zq_x (nI e) 22 fun j39 => zq_m (xe_setI m37 184 j39 4) fun m43 => zD62_135 m43
def zRl (l : Nat) (m21 : xe_Mem) : zO := zq_x ((xe_I m21 203 53) - 1) 8 fun j24 => zq_x ((xe_I m21 203 53) - 1) 8 fun j28 => zq_m (xe_setI m21 245 j28 ((xe_I m21 245 j24) + 1)) fun m32 => zq_x (nI l) 6 fun j34 => zq_m (xe_setI m32 242 j34 ((vp_nar .boolean) 1)) fun m38 => zq_cV (zD157 8 (nI l) m38) fun m40 => zD166_174 m40
theorem z_endL (h : zQ N P S Lc t true off a0 (Nat.testBit abn) μ ν p L ub) (ha : zTa μ ν t m Lc abn mb) (h8 : xe_I μ 181 8 = 0) (hl : l < Lc) (ho : xe_I ν 203 53 = nI (o + 1)) (ho8 : o < 8) (hw : xe_I ν 245 o = nI w) :
    (∃ μ' ν', (zq_cV (zD41 1000016 μ) fun m30 => zq_cV (zE56 0 0 m30) fun m32 => zq_cI (zD58 14 (nI l) m32) fun _ m34 => zq_cV (zD41 1000014 m34) (zKl (P + S + l))) = some (.inl none, μ') ∧ (zq_cI (zD146 61 ν) fun x17 m15 => if x17 = 0 then zint 0 m15 else zq_cI (zD160 (nI t) m15) fun x20 m18 => if x20 = 0 then zint 0 m18 else zq_cI (zD146 59 m18) fun x23 m21 => if x23 = 0 then zint 0 m21 else zRl l m21) = zint 1 ν' ∧ zAs N P S t m mb abn off a0 o w μ ν μ' ν' p L) ∨ zFx N μ ν (zq_cV (zD41 1000016 μ) fun m30 => zq_cV (zE56 0 0 m30) fun m32 => zq_cI (zD58 14 (nI l) m32) fun _ m34 => zq_cV (zD41 1000014 m34) (zKl (P + S + l))) (zq_cI (zD146 61 ν) fun x17 m15 => if x17 = 0 then zint 0 m15 else zq_cI (zD160 (nI t) m15) fun x20 m18 => if x20 = 0 then zint 0 m18 else zq_cI (zD146 59 m18) fun x23 m21 => if x23 = 0 then zint 0 m21 else zRl l m21) := by
  have hm1 := h.1.2.1
  rcases z_mid h h8 (T := nI t) (Or.inl ⟨rfl, rfl⟩) 14 (nI l) (zKl (P + S + l)) (zRl l) with ⟨μ2, ν2, p2, L2, ub2, m1, m2, m3, m4, m5, m6, m7, m8, m9, m10, m11, m12⟩ | hfl
  · rw [m1, m2]
    have ta := zTa_f ha m9 m10
    obtain ⟨hx, e1, e2, e3, r1, r2, hcd, hub, b1, b2, b3, b4, b5, b6⟩ := id m3
    have hN2 := hx.1.2.1
    have hP12 : P ≤ 12 := hm1.1
    have hS4 : S ≤ 4 := hm1.2.1
    have hL6 : Lc ≤ 6 := hm1.2.2.1
    obtain ⟨h1, h2, h3, h4, h5, h6, h7, h8', h9, h10, h11, h12, h13⟩ := id ta
    have ho2 : xe_I ν2 203 53 = nI (o + 1) := ((m10 203 (by decide)).1 53 rfl).trans ho
    have hw2 : xe_I ν2 245 o = nI w := ((m10 245 (by decide)).1 o rfl).trans hw
    have hC : zKl (P + S + l) (zmv (zadd μ2 L2 14 (nI l)) p2) = some (.inl none, xe_setI (zmv (zadd μ2 L2 14 (nI l)) p2) 184 (P + S + l) 4) := by
      unfold zKl zD62_135
      simp only [zq_m]
      rw [zx_nI (show P + S + l < 22 by omega) (by decide)]
    have d1 : xe_I (zrmv ν2 p2) 203 53 = nI (o + 1) := (xu_In (by omega)).trans ho2
    have d2 : xe_I (zrmv ν2 p2) 245 o = nI w := (xu_In (by omega)).trans hw2
    let ν3 : xe_Mem := xe_setI (xe_setI (zrmv ν2 p2) 245 o (nI (w + 1))) 242 l 1
    have k3 : ∀ a j, (a ≠ 203 ∨ j ≠ 10) → (a ≠ 245 ∨ j ≠ o) → (a ≠ 242 ∨ j ≠ l) → xe_I ν3 a j = xe_I ν2 a j := fun a j q1 q2 q3 => by
      show xe_I (xe_setI (xe_setI (zrmv ν2 p2) 245 o (nI (w + 1))) 242 l 1) a j = _
      unfold zrmv
      rw [xu_In (by omega), xu_In (by omega), xu_In (by omega)]
    have d4 : xe_I ν3 203 47 = nI (L2 + off) := (k3 203 47 (Or.inr (by decide)) (Or.inl (by decide)) (Or.inl (by decide))).trans r2
    have hR : zRl l (zrmv ν2 p2) = zint 1 (zrad ν3 (L2 + off) 8 (nI l)) := by
      unfold zRl zD166_174
      simp only [zq_m]
      rw [d1, show (nI (o + 1) - 1 : Int32) = nI o from by rw [show (1 : Int32) = nI 1 from rfl, zn_sub (by omega)]; rfl, zx_nI ho8 (by decide), zx_nI ho8 (by decide), d2, nI_1, zx_nI (show l < 6 by omega) (by decide), show zD157 8 (nI l) (xe_setI (xe_setI (zrmv ν2 p2) 245 o (nI (w + 1))) 242 l (vp_nar .boolean 1)) = some (.inl none, zrad ν3 (L2 + off) 8 (nI l)) from z157 d4 (by omega), zcV_ok]
    rw [hC, hR]
    have kC : ∀ a j, (a ≠ 184 ∨ j ≠ P + S + l) → (a ≠ 181 ∨ j ≠ 6) → a ≠ 8 → a ≠ 9 → a ≠ 10 → xe_I (xe_setI (zmv (zadd μ2 L2 14 (nI l)) p2) 184 (P + S + l) 4) a j = xe_I μ2 a j := fun a j q1 q2 q3 q4 q5 => by
      unfold zmv
      rw [xu_In (by omega), xu_In (by omega), zadd_o (Or.inl q3) q4 q5]
    have kR : ∀ a j, (a ≠ 203 ∨ (j ≠ 10 ∧ j ≠ 47)) → (a ≠ 245 ∨ j ≠ o) → (a ≠ 242 ∨ j ≠ l) → a ≠ 239 → a ≠ 240 → xe_I (zrad ν3 (L2 + off) 8 (nI l)) a j = xe_I ν2 a j := fun a j q1 q2 q3 q5 q6 => by
      rw [zrad_o (by omega) q5 q6, k3 a j (by omega) q2 q3]
    have F1 : zfI (zXct t L2) μ2 (xe_setI (zmv (zadd μ2 L2 14 (nI l)) p2) 184 (P + S + l) 4) := by
      refine zfI_t (zfI_w (zfI_t zadd_f zmv_f) zXct_c) (zfI_s ?_)
      unfold zXct
      simp
    have F2 : zfI (zXra t (L2 + off) o) ν2 (zrad ν3 (L2 + off) 8 (nI l)) := by
      refine zfI_t (zfI_t (zfI_t (zfI_w zrmv_f zXra_r) (zfI_s ?_)) (zfI_s ?_)) (zfI_w (zfI_w zrad_f zXs_r) zXra_r)
      · unfold zXra
        rw [beq_self_eq_true]
        simp
      · unfold zXra
        simp
    have hcode : ∀ i, i < L2 → xe_I (xe_setI (zmv (zadd μ2 L2 14 (nI l)) p2) 184 (P + S + l) 4) 9 i = xe_I μ2 9 i ∧ xe_I (xe_setI (zmv (zadd μ2 L2 14 (nI l)) p2) 184 (P + S + l) 4) 10 i = xe_I μ2 10 i := fun i hi => by
      unfold zmv zadd
      constructor
      · rw [xu_In (by omega), xu_In (by omega), xu_In (by omega), xu_In (by omega), xu_In (by omega)]
      · rw [xu_In (by omega), xu_In (by omega), xu_In (by omega), xu_In (by omega), xu_In (by omega)]
    have hcode2 : xe_I (xe_setI (zmv (zadd μ2 L2 14 (nI l)) p2) 184 (P + S + l) 4) 9 L2 = 14 ∧ xe_I (xe_setI (zmv (zadd μ2 L2 14 (nI l)) p2) 184 (P + S + l) 4) 10 L2 = nI l := by
      unfold zmv
      constructor
      · rw [xu_In (by omega), xu_In (by omega)]; exact zadd_e.1
      · rw [xu_In (by omega), xu_In (by omega)]; exact zadd_e.2
    have kI : ∀ a, a ≠ 203 → a ≠ 245 → a ≠ 242 → a ≠ 239 → a ≠ 240 → xe_I (zrad ν3 (L2 + off) 8 (nI l)) a = xe_I ν2 a := fun a q1 q2 q3 q4 q5 => funext fun j => kR a j (Or.inl q1) (Or.inl q2) (Or.inl q3) q4 q5
    refine Or.inl ⟨_, _, rfl, rfl, p2 + 1, L2 + 1, ub2, Lc, abn, ⟨⟨?_, ?_, ?_, ⟨?_, ?_⟩, hx.2.2.2.2.1, hx.2.2.2.2.2⟩, ?_, ?_, ?_, ?_, ?_, ?_, ?_, m4, by omega, by omega, b4, b5, b6⟩, ?_, by omega, by omega, by omega, ?_, Or.inr ⟨?_, l, by omega, ?_⟩, zfJ_t (zfJ_w (zfJ_I m9) zXct_c) (zfJ_w (zfJ_I F1) (zXct_w (by omega))), zfJ_t (zfJ_w (zfJ_I m10) zXra_r) (zfJ_w (zfJ_I F2) (zXra_w (by omega))), ?_, m11, m12, fun hh => hh⟩
    · refine zTE_k hx.1 (fun a ha => ⟨funext fun j => kC a j (by omega) (by omega) (by omega) (by omega) (by omega), rfl, rfl⟩) (fun a ha => ⟨kI a (by omega) (by omega) (by omega) (by omega) (by omega), rfl⟩)
    · refine zNm_kn hx.2.1 hl rfl ?_ (funext fun j => kC 185 j (by omega) (by omega) (by omega) (by omega) (by omega)) (kC 182 3 (by omega) (by omega) (by omega) (by omega) (by omega)) (kR 203 12 (by omega) (by omega) (by omega) (by omega) (by omega)) (kR 203 15 (by omega) (by omega) (by omega) (by omega) (by omega)) rfl rfl rfl ?_
      · rw [zr_II, if_pos rfl]
        congr 1
      · funext j
        rw [zrad_o (Or.inl (by decide)) (by decide) (by decide)]
        show xe_I (xe_setI (xe_setI (zrmv ν2 p2) 245 o (nI (w + 1))) 242 l 1) 242 j = _
        rw [zr_II, if_pos rfl]
        congr 1
    · exact hx.2.2.1
    · exact hx.2.2.2.1.1
    · rw [kR 203 11 (by omega) (by omega) (by omega) (by omega) (by omega)]; exact hx.2.2.2.1.2
    · rw [xu_In (by omega)]; exact xu_I
    · unfold zmv
      rw [xu_In (by omega), xu_In (by omega)]; exact zadd_s
    · rw [kC 181 9 (by omega) (by omega) (by omega) (by omega) (by omega)]; exact e3
    · rw [zrad_o (Or.inr (by decide)) (by decide) (by decide)]
      show xe_I (xe_setI (xe_setI (zrmv ν2 p2) 245 o (nI (w + 1))) 242 l 1) 203 10 = _
      rw [xu_In (by omega), xu_In (by omega)]
      exact xu_I
    · rw [zrad_s]
      congr 1
      omega
    · intro i q1 q2
      by_cases hi : i = L2
      · subst hi
        rw [hcode2.1, hcode2.2, zrad_e.1, zrad_e.2]
        exact Or.inr (Or.inr (Or.inr (Or.inr (Or.inl ⟨rfl, rfl, rfl⟩))))
      · have hz := hcd i q1 (by omega)
        obtain ⟨y1, y2⟩ := hcode i (by omega)
        have y3 : ∀ a, a = 239 ∨ a = 240 → xe_I (zrad ν3 (L2 + off) 8 (nI l)) a (i + off) = xe_I ν2 a (i + off) := fun a ha => by
          unfold zrad
          rw [xu_In (by omega), xu_In (by omega), xu_In (by omega), k3 a (i + off) (by omega) (by omega) (by omega)]
        rw [y1, y2, y3 239 (by omega), y3 240 (by omega)]
        exact hz
    · intro htk q hq
      rw [kI 226 (by omega) (by omega) (by omega) (by omega) (by omega)]
      exact hub htk q hq
    · refine ⟨h1, h2, h3, h4, ?_, ?_, ?_, h8', ?_, ?_, h11, ?_, ?_⟩
      · rw [kC (61 + 5 * t) 5 (by omega) (by omega) (by omega) (by omega) (by omega)]; exact h5
      · rw [kI 223 (by omega) (by omega) (by omega) (by omega) (by omega)]; exact h6
      · rw [kC (61 + 5 * t) 6 (by omega) (by omega) (by omega) (by omega) (by omega)]; exact h7
      · rw [kI 227 (by omega) (by omega) (by omega) (by omega) (by omega)]; exact h9
      · rw [kC (17 + 11 * m) 4 (by omega) (by omega) (by omega) (by omega) (by omega)]; exact h10
      · rw [kR 203 22 (by omega) (by omega) (by omega) (by omega) (by omega)]; exact h12
      · rw [kI 227 (by omega) (by omega) (by omega) (by omega) (by omega), kI 218 (by omega) (by omega) (by omega) (by omega) (by omega)]; exact h13
    · obtain ⟨k, hk⟩ := m8
      exact ⟨k, zEy_c k L L2 hk (fun i q1 q2 => hcode i q2)⟩
    · exact hcode2.1
    · exact hcode2.2
    · rw [zrad_o (Or.inl (by decide)) (by decide) (by decide)]
      show xe_I (xe_setI (xe_setI (zrmv ν2 p2) 245 o (nI (w + 1))) 242 l 1) 245 o = _
      rw [xu_In (by omega)]
      exact xu_I
  · exact Or.inr (zFx_l hfl)
end
