/-! the tables of all methods (by wip/whole/gen/code.py) -/
def xM_Cs (δ : xe_Dy) : List (List xe_In) := [xc0 δ, xc1 δ, xc2 δ, xc3 δ, xc4 δ, xc5 δ, xc6 δ, xc7 δ, xc8 δ, xc9 δ, xc10 δ, xc11 δ, xc12 δ, xc13 δ, xc14 δ, xc15 δ, xc16 δ, xc17 δ, xc18 δ, xc19 δ, xc20 δ, xc21 δ, xc22 δ, xc23 δ, xc24 δ, xc25 δ, xc26 δ, xc27 δ, xc28 δ, xc29 δ, xc30 δ, xc31 δ, xc32 δ, xc33 δ, xc34 δ, xc35 δ, xc36 δ, xc37 δ, xc38 δ, xc39 δ, xc40 δ, xc41 δ, xc42 δ, xc43 δ, xc44 δ, xc45 δ, xc46 δ, xc47 δ, xc48 δ, xc49 δ, xc50 δ, xc51 δ, xc52 δ, xc53 δ, xc54 δ, xc55 δ, xc56 δ, xc57 δ, xc58 δ, xc59 δ, xc60 δ, xc61 δ, xc62 δ, xc63 δ, xc64 δ, xc65 δ, xc66 δ, xc67 δ, xc68 δ, xc69 δ, xc70 δ, xc71 δ, xc72 δ, xc73 δ, xc74 δ, xc75 δ, xc76 δ, xc77 δ, xc78 δ, xc79 δ, xc80 δ, xc81 δ, xc82 δ, xc83 δ, xc84 δ, xc85 δ, xc86 δ, xc87 δ, xc88 δ, xc89 δ, xc90 δ, xc91 δ, xc92 δ, xc93 δ, xc94 δ, xc95 δ, xc96 δ, xc97 δ, xc98 δ, xc99 δ, xc100 δ, xc101 δ, xc102 δ, xc103 δ, xc104 δ, xc105 δ, xc106 δ, xc107 δ, xc108 δ, xc109 δ, xc110 δ, xc111 δ, xc112 δ, xc113 δ, xc114 δ, xc115 δ, xc116 δ, xc117 δ, xc118 δ, xc119 δ, xc120 δ, xc121 δ, xc122 δ, xc123 δ, xc124 δ, xc125 δ, xc126 δ, xc127 δ, xc128 δ, xc129 δ, xc130 δ, xc131 δ, xc132 δ, xc133 δ, xc134 δ, xc135 δ, xc136 δ, xc137 δ, xc138 δ, xc139 δ, xc140 δ, xc141 δ, xc142 δ, xc143 δ, xc144 δ, xc145 δ, xc146 δ, xc147 δ, xc148 δ, xc149 δ, xc150 δ, xc151 δ, xc152 δ, xc153 δ, xc154 δ, xc155 δ, xc156 δ, xc157 δ, xc158 δ, xc159 δ, xc160 δ, xc161 δ, xc162 δ, xc163 δ, xc164 δ, xc165 δ, xc166 δ, xc167 δ, xc168 δ, xc169 δ, xc170 δ, xc171 δ, xc172 δ, xc173 δ, xc174 δ, xc175 δ, xc176 δ, xc177 δ, xc178 δ, xc179 δ, xc180 δ, xc181 δ, xc182 δ, xc183 δ, xc184 δ, xc185 δ, xc186 δ, xc187 δ, xc188 δ, xc189 δ, xc190 δ, xc191 δ, xc192 δ, xc193 δ, xc194 δ, xc195 δ, xc196 δ, xc197 δ]
def xM_C (δ : xe_Dy) (y : Nat) : List xe_In := (xM_Cs δ).getD y []
/-- which exception out of which call is caught where: method, place, class, place -/
def xM_Ht : List (Nat × Nat × Nat × Nat) := [(15, 16, 12, 18), (83, 5, 14, 9), (88, 4, 14, 8), (91, 4, 14, 8), (93, 5, 14, 9), (95, 2, 14, 4), (98, 3, 12, 11), (98, 3, 13, 5), (98, 3, 14, 8), (101, 3, 13, 5), (101, 3, 14, 8), (103, 2, 12, 7), (103, 2, 13, 4), (120, 5, 13, 9), (120, 5, 14, 12), (122, 4, 13, 8), (122, 4, 14, 11), (124, 4, 13, 8), (124, 4, 14, 11), (126, 4, 13, 8), (126, 4, 14, 11)]
def xM_H (y k ci : Nat) : Option (Option Nat) := match xM_Y y with
  | none => none
  | some Y => if (xy_h Y).all (fun q => !(decide (q.1 ≤ xe_pc Y k) && decide (xe_pc Y k < q.2.1))) then some none else (xM_Ht.find? (fun r => r.1 == y && (r.2.1 == k && r.2.2.1 == ci))).map (fun r => some r.2.2.2)
theorem xh0 (δ : xe_Dy) : xe_OKH δ xY15 16 12 18 := xo_catch ["java/lang/IllegalArgumentException"] rfl (by decide +kernel)
theorem xh1 (δ : xe_Dy) : xe_OKH δ xY83 5 14 9 := xo_catch ["java/util/NoSuchElementException"] rfl (by decide +kernel)
theorem xh2 (δ : xe_Dy) : xe_OKH δ xY88 4 14 8 := xo_catch ["java/util/NoSuchElementException"] rfl (by decide +kernel)
theorem xh3 (δ : xe_Dy) : xe_OKH δ xY91 4 14 8 := xo_catch ["java/util/NoSuchElementException"] rfl (by decide +kernel)
theorem xh4 (δ : xe_Dy) : xe_OKH δ xY93 5 14 9 := xo_catch ["java/util/NoSuchElementException"] rfl (by decide +kernel)
theorem xh5 (δ : xe_Dy) : xe_OKH δ xY95 2 14 4 := xo_catch ["java/util/NoSuchElementException"] rfl (by decide +kernel)
theorem xh6 (δ : xe_Dy) : xe_OKH δ xY98 3 12 11 := xo_catch ["java/lang/IllegalStateException", "java/util/NoSuchElementException", "java/lang/IllegalArgumentException"] rfl (by decide +kernel)
theorem xh7 (δ : xe_Dy) : xe_OKH δ xY98 3 13 5 := xo_catch ["java/lang/IllegalStateException", "java/util/NoSuchElementException", "java/lang/IllegalArgumentException"] rfl (by decide +kernel)
theorem xh8 (δ : xe_Dy) : xe_OKH δ xY98 3 14 8 := xo_catch ["java/lang/IllegalStateException", "java/util/NoSuchElementException", "java/lang/IllegalArgumentException"] rfl (by decide +kernel)
theorem xh9 (δ : xe_Dy) : xe_OKH δ xY101 3 13 5 := xo_catch ["java/lang/IllegalStateException", "java/util/NoSuchElementException"] rfl (by decide +kernel)
theorem xh10 (δ : xe_Dy) : xe_OKH δ xY101 3 14 8 := xo_catch ["java/lang/IllegalStateException", "java/util/NoSuchElementException"] rfl (by decide +kernel)
theorem xh11 (δ : xe_Dy) : xe_OKH δ xY103 2 12 7 := xo_catch ["java/lang/IllegalStateException", "java/lang/IllegalArgumentException"] rfl (by decide +kernel)
theorem xh12 (δ : xe_Dy) : xe_OKH δ xY103 2 13 4 := xo_catch ["java/lang/IllegalStateException", "java/lang/IllegalArgumentException"] rfl (by decide +kernel)
theorem xh13 (δ : xe_Dy) : xe_OKH δ xY120 5 13 9 := xo_catch ["java/lang/IllegalStateException", "java/util/NoSuchElementException"] rfl (by decide +kernel)
theorem xh14 (δ : xe_Dy) : xe_OKH δ xY120 5 14 12 := xo_catch ["java/lang/IllegalStateException", "java/util/NoSuchElementException"] rfl (by decide +kernel)
theorem xh15 (δ : xe_Dy) : xe_OKH δ xY122 4 13 8 := xo_catch ["java/lang/IllegalStateException", "java/util/NoSuchElementException"] rfl (by decide +kernel)
theorem xh16 (δ : xe_Dy) : xe_OKH δ xY122 4 14 11 := xo_catch ["java/lang/IllegalStateException", "java/util/NoSuchElementException"] rfl (by decide +kernel)
theorem xh17 (δ : xe_Dy) : xe_OKH δ xY124 4 13 8 := xo_catch ["java/lang/IllegalStateException", "java/util/NoSuchElementException"] rfl (by decide +kernel)
theorem xh18 (δ : xe_Dy) : xe_OKH δ xY124 4 14 11 := xo_catch ["java/lang/IllegalStateException", "java/util/NoSuchElementException"] rfl (by decide +kernel)
theorem xh19 (δ : xe_Dy) : xe_OKH δ xY126 4 13 8 := xo_catch ["java/lang/IllegalStateException", "java/util/NoSuchElementException"] rfl (by decide +kernel)
theorem xh20 (δ : xe_Dy) : xe_OKH δ xY126 4 14 11 := xo_catch ["java/lang/IllegalStateException", "java/util/NoSuchElementException"] rfl (by decide +kernel)
theorem xM_Ht_ok (δ : xe_Dy) : ∀ r ∈ xM_Ht, ∀ Y, xM_Y r.1 = some Y → xe_OKH δ Y r.2.1 r.2.2.1 r.2.2.2 := List.forall_mem_cons.mpr ⟨fun Y h => by cases h; exact xh0 δ, List.forall_mem_cons.mpr ⟨fun Y h => by cases h; exact xh1 δ, List.forall_mem_cons.mpr ⟨fun Y h => by cases h; exact xh2 δ, List.forall_mem_cons.mpr ⟨fun Y h => by cases h; exact xh3 δ, List.forall_mem_cons.mpr ⟨fun Y h => by cases h; exact xh4 δ, List.forall_mem_cons.mpr ⟨fun Y h => by cases h; exact xh5 δ, List.forall_mem_cons.mpr ⟨fun Y h => by cases h; exact xh6 δ, List.forall_mem_cons.mpr ⟨fun Y h => by cases h; exact xh7 δ, List.forall_mem_cons.mpr ⟨fun Y h => by cases h; exact xh8 δ, List.forall_mem_cons.mpr ⟨fun Y h => by cases h; exact xh9 δ, List.forall_mem_cons.mpr ⟨fun Y h => by cases h; exact xh10 δ, List.forall_mem_cons.mpr ⟨fun Y h => by cases h; exact xh11 δ, List.forall_mem_cons.mpr ⟨fun Y h => by cases h; exact xh12 δ, List.forall_mem_cons.mpr ⟨fun Y h => by cases h; exact xh13 δ, List.forall_mem_cons.mpr ⟨fun Y h => by cases h; exact xh14 δ, List.forall_mem_cons.mpr ⟨fun Y h => by cases h; exact xh15 δ, List.forall_mem_cons.mpr ⟨fun Y h => by cases h; exact xh16 δ, List.forall_mem_cons.mpr ⟨fun Y h => by cases h; exact xh17 δ, List.forall_mem_cons.mpr ⟨fun Y h => by cases h; exact xh18 δ, List.forall_mem_cons.mpr ⟨fun Y h => by cases h; exact xh19 δ, List.forall_mem_cons.mpr ⟨fun Y h => by cases h; exact xh20 δ, fun _ h => absurd h List.not_mem_nil⟩⟩⟩⟩⟩⟩⟩⟩⟩⟩⟩⟩⟩⟩⟩⟩⟩⟩⟩⟩⟩
def xe_AL (δ : xe_Dy) : List xe_Y → List (List xe_In) → Prop
  | [], _ => True
  | _ :: _, [] => False
  | Y :: Ys, C :: Cs => xe_All δ xM_Y xM_L Y 0 C ∧ xe_AL δ Ys Cs
theorem xe_AL_at {δ : xe_Dy} : ∀ (Ys : List xe_Y) (Cs : List (List xe_In)), xe_AL δ Ys Cs → ∀ y Y, Ys[y]? = some Y → xe_All δ xM_Y xM_L Y 0 (Cs.getD y []) := by
  intro Ys
  induction Ys with
  | nil => intro Cs _ y Y h; simp at h
  | cons Z Ys ih =>
    intro Cs h y Y hy
    cases Cs with
    | nil => exact h.elim
    | cons C Cs =>
      cases y with
      | zero => simp at hy; subst hy; simpa using h.1
      | succ y => simpa using ih Cs h.2 y Y (by simpa using hy)
theorem xM_AL (δ : xe_Dy) : xe_AL δ xM_Ys (xM_Cs δ) := ⟨xa0 δ, xa1 δ, xa2 δ, xa3 δ, xa4 δ, xa5 δ, xa6 δ, xa7 δ, xa8 δ, xa9 δ, xa10 δ, xa11 δ, xa12 δ, xa13 δ, xa14 δ, xa15 δ, xa16 δ, xa17 δ, xa18 δ, xa19 δ, xa20 δ, xa21 δ, xa22 δ, xa23 δ, xa24 δ, xa25 δ, xa26 δ, xa27 δ, xa28 δ, xa29 δ, xa30 δ, xa31 δ, xa32 δ, xa33 δ, xa34 δ, xa35 δ, xa36 δ, xa37 δ, xa38 δ, xa39 δ, xa40 δ, xa41 δ, xa42 δ, xa43 δ, xa44 δ, xa45 δ, xa46 δ, xa47 δ, xa48 δ, xa49 δ, xa50 δ, xa51 δ, xa52 δ, xa53 δ, xa54 δ, xa55 δ, xa56 δ, xa57 δ, xa58 δ, xa59 δ, xa60 δ, xa61 δ, xa62 δ, xa63 δ, xa64 δ, xa65 δ, xa66 δ, xa67 δ, xa68 δ, xa69 δ, xa70 δ, xa71 δ, xa72 δ, xa73 δ, xa74 δ, xa75 δ, xa76 δ, xa77 δ, xa78 δ, xa79 δ, xa80 δ, xa81 δ, xa82 δ, xa83 δ, xa84 δ, xa85 δ, xa86 δ, xa87 δ, xa88 δ, xa89 δ, xa90 δ, xa91 δ, xa92 δ, xa93 δ, xa94 δ, xa95 δ, xa96 δ, xa97 δ, xa98 δ, xa99 δ, xa100 δ, xa101 δ, xa102 δ, xa103 δ, xa104 δ, xa105 δ, xa106 δ, xa107 δ, xa108 δ, xa109 δ, xa110 δ, xa111 δ, xa112 δ, xa113 δ, xa114 δ, xa115 δ, xa116 δ, xa117 δ, xa118 δ, xa119 δ, xa120 δ, xa121 δ, xa122 δ, xa123 δ, xa124 δ, xa125 δ, xa126 δ, xa127 δ, xa128 δ, xa129 δ, xa130 δ, xa131 δ, xa132 δ, xa133 δ, xa134 δ, xa135 δ, xa136 δ, xa137 δ, xa138 δ, xa139 δ, xa140 δ, xa141 δ, xa142 δ, xa143 δ, xa144 δ, xa145 δ, xa146 δ, xa147 δ, xa148 δ, xa149 δ, xa150 δ, xa151 δ, xa152 δ, xa153 δ, xa154 δ, xa155 δ, xa156 δ, xa157 δ, xa158 δ, xa159 δ, xa160 δ, xa161 δ, xa162 δ, xa163 δ, xa164 δ, xa165 δ, xa166 δ, xa167 δ, xa168 δ, xa169 δ, xa170 δ, xa171 δ, xa172 δ, xa173 δ, xa174 δ, xa175 δ, xa176 δ, xa177 δ, xa178 δ, xa179 δ, xa180 δ, xa181 δ, xa182 δ, xa183 δ, xa184 δ, xa185 δ, xa186 δ, xa187 δ, xa188 δ, xa189 δ, xa190 δ, xa191 δ, xa192 δ, xa193 δ, xa194 δ, xa195 δ, xa196 δ, xa197 δ, trivial⟩
theorem xM_Tb (δ : xe_Dy) : xe_Tb δ xM_Y (xM_C δ) xM_L xM_H := by
  have hA : ∀ y Y, xM_Y y = some Y → xe_All δ xM_Y xM_L Y 0 (xM_C δ y) := fun y Y h => xe_AL_at _ _ (xM_AL δ) y Y h
  refine ⟨fun y Y k f hY h => ?_, fun y Y k q hY h => ?_, fun y Y k z hY h => ?_, fun y Y k ci h hY hh => ?_, fun y Y k ci hY hh => ?_, xg_kp, fun s t h ha hF => xg_EX_kept h ha hF⟩
  · have := hA y Y hY k _ h
    rw [Nat.zero_add] at this
    exact this
  · have := hA y Y hY k _ h
    rw [Nat.zero_add] at this
    exact this
  · have := hA y Y hY k _ h
    rw [Nat.zero_add] at this
    exact this
  · unfold xM_H at hh
    rw [hY] at hh
    dsimp only at hh
    split at hh
    · cases hh
    · cases hf : xM_Ht.find? (fun r => r.1 == y && (r.2.1 == k && r.2.2.1 == ci)) with
      | none => rw [hf] at hh; cases hh
      | some r =>
        rw [hf] at hh
        have h1 := List.find?_some hf
        simp only [Bool.and_eq_true, beq_iff_eq] at h1
        obtain ⟨rfl, rfl, rfl⟩ := h1
        have h2 : r.2.2.2 = h := Option.some.inj (Option.some.inj hh)
        subst h2
        exact xM_Ht_ok δ r (List.mem_of_find?_eq_some hf) Y hY
  · unfold xM_H at hh
    rw [hY] at hh
    dsimp only at hh
    split at hh
    · rename_i hall
      intro q hq hc
      have := List.all_eq_true.mp hall q hq
      simp [hc.1, hc.2] at this
    · cases hf : xM_Ht.find? (fun r => r.1 == y && (r.2.1 == k && r.2.2.1 == ci)) with
      | none => rw [hf] at hh; cases hh
      | some r => rw [hf] at hh; cases hh
