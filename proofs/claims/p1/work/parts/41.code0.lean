/-! instructions of the methods 0 to 0 (by wip/whole/gen/code.py) -/
/-! LogicalTimesLaw.law([I)Z -/
def xc0_0 (δ : xe_Dy) : List xe_In := [.inl (xe_new 10 8), .inl xe_dup, .inr (.inl (1, 1, 11)), .inl (xe_stA 1), .inl (xe_new 11 87), .inl xe_dup, .inr (.inl (128, 1, 12)), .inl (xe_stA 2), .inl (xe_push (.int (1))), .inl (xe_nwa 1), .inl (xe_stA 3), .inl (xe_push (.int (0))), .inl (xe_stI 4), .inl (xe_ldI 4), .inl (xe_ldA 0), .inl (xe_sln δ), .inl (xe_push (.int (6))), .inl (xe_i2 (fun x y => x - y)), .inl (xe_icgt 543), .inl (xe_ldA 0), .inl (xe_ldI 4), .inl (xe_sld δ), .inl (xe_push (.int (15))), .inl (xe_i2 (fun x y => x &&& y))]
def xc0_1 (δ : xe_Dy) : List xe_In := [.inl (xe_tsw (0) [25, 82, 99, 106, 123, 168, 203, 238, 283, 305, 337, 369, 391, 436, 471, 506] 541), .inl (xe_ldA 1), .inl (xe_ldA 0), .inl (xe_ldI 4), .inl (xe_push (.int (1))), .inl (xe_i2 (fun x y => x + y)), .inl (xe_sld δ), .inl (xe_ldA 0), .inl (xe_ldI 4), .inl (xe_push (.int (2))), .inl (xe_i2 (fun x y => x + y)), .inl (xe_sld δ), .inl (xe_ldA 0), .inl (xe_ldI 4), .inl (xe_push (.int (3))), .inl (xe_i2 (fun x y => x + y)), .inl (xe_sld δ), .inl (xe_ldA 0), .inl (xe_ldI 4), .inl (xe_push (.int (4))), .inl (xe_i2 (fun x y => x + y)), .inl (xe_sld δ), .inl (xe_ldA 0), .inl (xe_ldI 4)]
def xc0_2 (δ : xe_Dy) : List xe_In := [.inl (xe_push (.int (5))), .inl (xe_i2 (fun x y => x + y)), .inl (xe_sld δ), .inr (.inl (12, 6, 11)), .inl (xe_ldA 2), .inl (xe_ldA 0), .inl (xe_ldI 4), .inl (xe_push (.int (1))), .inl (xe_i2 (fun x y => x + y)), .inl (xe_sld δ), .inl (xe_ldA 0), .inl (xe_ldI 4), .inl (xe_push (.int (2))), .inl (xe_i2 (fun x y => x + y)), .inl (xe_sld δ), .inl (xe_ldA 0), .inl (xe_ldI 4), .inl (xe_push (.int (3))), .inl (xe_i2 (fun x y => x + y)), .inl (xe_sld δ), .inl (xe_ldA 0), .inl (xe_ldI 4), .inl (xe_push (.int (4))), .inl (xe_i2 (fun x y => x + y))]
def xc0_3 (δ : xe_Dy) : List xe_In := [.inl (xe_sld δ), .inl (xe_ldA 0), .inl (xe_ldI 4), .inl (xe_push (.int (5))), .inl (xe_i2 (fun x y => x + y)), .inl (xe_sld δ), .inr (.inl (130, 6, 12)), .inl (xe_iceq 541), .inl (xe_push (.int (0))), .inr (.inr 3), .inl (xe_ldA 1), .inl (xe_ldA 0), .inl (xe_ldI 4), .inl (xe_push (.int (1))), .inl (xe_i2 (fun x y => x + y)), .inl (xe_sld δ), .inr (.inl (14, 2, 11)), .inl (xe_ldA 2), .inl (xe_ldA 0), .inl (xe_ldI 4), .inl (xe_push (.int (1))), .inl (xe_i2 (fun x y => x + y)), .inl (xe_sld δ), .inr (.inl (131, 2, 12))]
def xc0_4 (δ : xe_Dy) : List xe_In := [.inl (xe_iceq 541), .inl (xe_push (.int (0))), .inr (.inr 3), .inl (xe_ldA 1), .inr (.inl (15, 1, 11)), .inl (xe_ldA 2), .inr (.inl (133, 1, 12)), .inl (xe_iceq 541), .inl (xe_push (.int (0))), .inr (.inr 3), .inl (xe_ldA 1), .inl (xe_ldA 0), .inl (xe_ldI 4), .inl (xe_push (.int (1))), .inl (xe_i2 (fun x y => x + y)), .inl (xe_sld δ), .inr (.inl (81, 2, 11)), .inl (xe_ldA 2), .inl (xe_ldA 0), .inl (xe_ldI 4), .inl (xe_push (.int (1))), .inl (xe_i2 (fun x y => x + y)), .inl (xe_sld δ), .inr (.inl (178, 2, 12))]
def xc0_5 (δ : xe_Dy) : List xe_In := [.inl (xe_iceq 541), .inl (xe_push (.int (0))), .inr (.inr 3), .inl (xe_ldA 1), .inl (xe_ldA 0), .inl (xe_ldI 4), .inl (xe_push (.int (1))), .inl (xe_i2 (fun x y => x + y)), .inl (xe_sld δ), .inl (xe_ldA 0), .inl (xe_ldI 4), .inl (xe_push (.int (2))), .inl (xe_i2 (fun x y => x + y)), .inl (xe_sld δ), .inl (xe_ldA 3), .inr (.inl (83, 4, 0)), .inl (xe_stI 5), .inl (xe_ldA 2), .inl (xe_ldA 0), .inl (xe_ldI 4), .inl (xe_push (.int (1))), .inl (xe_i2 (fun x y => x + y)), .inl (xe_sld δ), .inl (xe_ldA 0)]
def xc0_6 (δ : xe_Dy) : List xe_In := [.inl (xe_ldI 4), .inl (xe_push (.int (2))), .inl (xe_i2 (fun x y => x + y)), .inl (xe_sld δ), .inr (.inl (179, 3, 12)), .inl (xe_stI 6), .inl (xe_ldA 2), .inr (.inl (129, 1, 12)), .inl (xe_ldI 5), .inl (xe_iceq 156), .inl (xe_push (.int (0))), .inr (.inr 3), .inl (xe_ldI 5), .inl (xe_ifne 167), .inl (xe_ldA 3), .inl (xe_push (.int (0))), .inl xe_aldL, .inl (xe_ldI 6), .inl xe_i2l, .inl xe_lcmp, .inl (xe_ifeq 167), .inl (xe_push (.int (0))), .inr (.inr 3), .inl (xe_goto 541)]
def xc0_7 (δ : xe_Dy) : List xe_In := [.inl (xe_ldA 1), .inl (xe_ldA 0), .inl (xe_ldI 4), .inl (xe_push (.int (1))), .inl (xe_i2 (fun x y => x + y)), .inl (xe_sld δ), .inl (xe_ldA 3), .inr (.inl (88, 3, 0)), .inl (xe_stI 5), .inl (xe_ldA 2), .inl (xe_ldA 0), .inl (xe_ldI 4), .inl (xe_push (.int (1))), .inl (xe_i2 (fun x y => x + y)), .inl (xe_sld δ), .inr (.inl (181, 2, 12)), .inl (xe_stI 6), .inl (xe_ldA 2), .inr (.inl (129, 1, 12)), .inl (xe_ldI 5), .inl (xe_iceq 191), .inl (xe_push (.int (0))), .inr (.inr 3), .inl (xe_ldI 5)]
def xc0_8 (δ : xe_Dy) : List xe_In := [.inl (xe_ifne 202), .inl (xe_ldA 3), .inl (xe_push (.int (0))), .inl xe_aldL, .inl (xe_ldI 6), .inl xe_i2l, .inl xe_lcmp, .inl (xe_ifeq 202), .inl (xe_push (.int (0))), .inr (.inr 3), .inl (xe_goto 541), .inl (xe_ldA 1), .inl (xe_ldA 0), .inl (xe_ldI 4), .inl (xe_push (.int (1))), .inl (xe_i2 (fun x y => x + y)), .inl (xe_sld δ), .inl (xe_ldA 3), .inr (.inl (91, 3, 0)), .inl (xe_stI 5), .inl (xe_ldA 2), .inl (xe_ldA 0), .inl (xe_ldI 4), .inl (xe_push (.int (1)))]
def xc0_9 (δ : xe_Dy) : List xe_In := [.inl (xe_i2 (fun x y => x + y)), .inl (xe_sld δ), .inr (.inl (182, 2, 12)), .inl (xe_stI 6), .inl (xe_ldA 2), .inr (.inl (129, 1, 12)), .inl (xe_ldI 5), .inl (xe_iceq 226), .inl (xe_push (.int (0))), .inr (.inr 3), .inl (xe_ldI 5), .inl (xe_ifne 237), .inl (xe_ldA 3), .inl (xe_push (.int (0))), .inl xe_aldL, .inl (xe_ldI 6), .inl xe_i2l, .inl xe_lcmp, .inl (xe_ifeq 237), .inl (xe_push (.int (0))), .inr (.inr 3), .inl (xe_goto 541), .inl (xe_ldA 1), .inl (xe_ldA 0)]
def xc0_10 (δ : xe_Dy) : List xe_In := [.inl (xe_ldI 4), .inl (xe_push (.int (1))), .inl (xe_i2 (fun x y => x + y)), .inl (xe_sld δ), .inl (xe_ldA 0), .inl (xe_ldI 4), .inl (xe_push (.int (2))), .inl (xe_i2 (fun x y => x + y)), .inl (xe_sld δ), .inl (xe_ldA 3), .inr (.inl (93, 4, 0)), .inl (xe_stI 5), .inl (xe_ldA 2), .inl (xe_ldA 0), .inl (xe_ldI 4), .inl (xe_push (.int (1))), .inl (xe_i2 (fun x y => x + y)), .inl (xe_sld δ), .inl (xe_ldA 0), .inl (xe_ldI 4), .inl (xe_push (.int (2))), .inl (xe_i2 (fun x y => x + y)), .inl (xe_sld δ), .inr (.inl (183, 3, 12))]
def xc0_11 (δ : xe_Dy) : List xe_In := [.inl (xe_stI 6), .inl (xe_ldA 2), .inr (.inl (129, 1, 12)), .inl (xe_ldI 5), .inl (xe_iceq 271), .inl (xe_push (.int (0))), .inr (.inr 3), .inl (xe_ldI 5), .inl (xe_ifne 282), .inl (xe_ldA 3), .inl (xe_push (.int (0))), .inl xe_aldL, .inl (xe_ldI 6), .inl xe_i2l, .inl xe_lcmp, .inl (xe_ifeq 282), .inl (xe_push (.int (0))), .inr (.inr 3), .inl (xe_goto 541), .inl (xe_ldA 1), .inl (xe_ldA 0), .inl (xe_ldI 4), .inl (xe_push (.int (1))), .inl (xe_i2 (fun x y => x + y))]
def xc0_12 (δ : xe_Dy) : List xe_In := [.inl (xe_sld δ), .inr (.inl (95, 2, 0)), .inl (xe_stI 5), .inl (xe_ldA 2), .inl (xe_ldA 0), .inl (xe_ldI 4), .inl (xe_push (.int (1))), .inl (xe_i2 (fun x y => x + y)), .inl (xe_sld δ), .inr (.inl (177, 2, 12)), .inl (xe_ldA 2), .inr (.inl (129, 1, 12)), .inl (xe_ldI 5), .inl (xe_iceq 304), .inl (xe_push (.int (0))), .inr (.inr 3), .inl (xe_goto 541), .inl (xe_ldA 1), .inl (xe_ldA 0), .inl (xe_ldI 4), .inl (xe_push (.int (1))), .inl (xe_i2 (fun x y => x + y)), .inl (xe_sld δ), .inl (xe_ldA 0)]
def xc0_13 (δ : xe_Dy) : List xe_In := [.inl (xe_ldI 4), .inl (xe_push (.int (2))), .inl (xe_i2 (fun x y => x + y)), .inl (xe_sld δ), .inr (.inl (98, 3, 0)), .inl (xe_stI 5), .inl (xe_ldA 2), .inl (xe_ldA 0), .inl (xe_ldI 4), .inl (xe_push (.int (1))), .inl (xe_i2 (fun x y => x + y)), .inl (xe_sld δ), .inl (xe_ldA 0), .inl (xe_ldI 4), .inl (xe_push (.int (2))), .inl (xe_i2 (fun x y => x + y)), .inl (xe_sld δ), .inr (.inl (184, 3, 12)), .inl (xe_ldA 2), .inr (.inl (129, 1, 12)), .inl (xe_ldI 5), .inl (xe_iceq 336), .inl (xe_push (.int (0))), .inr (.inr 3)]
def xc0_14 (δ : xe_Dy) : List xe_In := [.inl (xe_goto 541), .inl (xe_ldA 1), .inl (xe_ldA 0), .inl (xe_ldI 4), .inl (xe_push (.int (1))), .inl (xe_i2 (fun x y => x + y)), .inl (xe_sld δ), .inl (xe_ldA 0), .inl (xe_ldI 4), .inl (xe_push (.int (2))), .inl (xe_i2 (fun x y => x + y)), .inl (xe_sld δ), .inr (.inl (101, 3, 0)), .inl (xe_stI 5), .inl (xe_ldA 2), .inl (xe_ldA 0), .inl (xe_ldI 4), .inl (xe_push (.int (1))), .inl (xe_i2 (fun x y => x + y)), .inl (xe_sld δ), .inl (xe_ldA 0), .inl (xe_ldI 4), .inl (xe_push (.int (2))), .inl (xe_i2 (fun x y => x + y))]
def xc0_15 (δ : xe_Dy) : List xe_In := [.inl (xe_sld δ), .inr (.inl (185, 3, 12)), .inl (xe_ldA 2), .inr (.inl (129, 1, 12)), .inl (xe_ldI 5), .inl (xe_iceq 368), .inl (xe_push (.int (0))), .inr (.inr 3), .inl (xe_goto 541), .inl (xe_ldA 1), .inl (xe_ldA 0), .inl (xe_ldI 4), .inl (xe_push (.int (1))), .inl (xe_i2 (fun x y => x + y)), .inl (xe_sld δ), .inr (.inl (103, 2, 0)), .inl (xe_stI 5), .inl (xe_ldA 2), .inl (xe_ldA 0), .inl (xe_ldI 4), .inl (xe_push (.int (1))), .inl (xe_i2 (fun x y => x + y)), .inl (xe_sld δ), .inr (.inl (186, 2, 12))]
def xc0_16 (δ : xe_Dy) : List xe_In := [.inl (xe_ldA 2), .inr (.inl (129, 1, 12)), .inl (xe_ldI 5), .inl (xe_iceq 390), .inl (xe_push (.int (0))), .inr (.inr 3), .inl (xe_goto 541), .inl (xe_ldA 1), .inl (xe_ldA 0), .inl (xe_ldI 4), .inl (xe_push (.int (1))), .inl (xe_i2 (fun x y => x + y)), .inl (xe_sld δ), .inl (xe_ldA 0), .inl (xe_ldI 4), .inl (xe_push (.int (2))), .inl (xe_i2 (fun x y => x + y)), .inl (xe_sld δ), .inl (xe_ldA 3), .inr (.inl (120, 4, 0)), .inl (xe_stI 5), .inl (xe_ldA 2), .inl (xe_ldA 0), .inl (xe_ldI 4)]
def xc0_17 (δ : xe_Dy) : List xe_In := [.inl (xe_push (.int (1))), .inl (xe_i2 (fun x y => x + y)), .inl (xe_sld δ), .inl (xe_ldA 0), .inl (xe_ldI 4), .inl (xe_push (.int (2))), .inl (xe_i2 (fun x y => x + y)), .inl (xe_sld δ), .inr (.inl (194, 3, 12)), .inl (xe_stI 6), .inl (xe_ldA 2), .inr (.inl (129, 1, 12)), .inl (xe_ldI 5), .inl (xe_iceq 424), .inl (xe_push (.int (0))), .inr (.inr 3), .inl (xe_ldI 5), .inl (xe_ifne 435), .inl (xe_ldA 3), .inl (xe_push (.int (0))), .inl xe_aldL, .inl (xe_ldI 6), .inl xe_i2l, .inl xe_lcmp]
def xc0_18 (δ : xe_Dy) : List xe_In := [.inl (xe_ifeq 435), .inl (xe_push (.int (0))), .inr (.inr 3), .inl (xe_goto 541), .inl (xe_ldA 1), .inl (xe_ldA 0), .inl (xe_ldI 4), .inl (xe_push (.int (1))), .inl (xe_i2 (fun x y => x + y)), .inl (xe_sld δ), .inl (xe_ldA 3), .inr (.inl (122, 3, 0)), .inl (xe_stI 5), .inl (xe_ldA 2), .inl (xe_ldA 0), .inl (xe_ldI 4), .inl (xe_push (.int (1))), .inl (xe_i2 (fun x y => x + y)), .inl (xe_sld δ), .inr (.inl (195, 2, 12)), .inl (xe_stI 6), .inl (xe_ldA 2), .inr (.inl (129, 1, 12)), .inl (xe_ldI 5)]
def xc0_19 (δ : xe_Dy) : List xe_In := [.inl (xe_iceq 459), .inl (xe_push (.int (0))), .inr (.inr 3), .inl (xe_ldI 5), .inl (xe_ifne 470), .inl (xe_ldA 3), .inl (xe_push (.int (0))), .inl xe_aldL, .inl (xe_ldI 6), .inl xe_i2l, .inl xe_lcmp, .inl (xe_ifeq 470), .inl (xe_push (.int (0))), .inr (.inr 3), .inl (xe_goto 541), .inl (xe_ldA 1), .inl (xe_ldA 0), .inl (xe_ldI 4), .inl (xe_push (.int (1))), .inl (xe_i2 (fun x y => x + y)), .inl (xe_sld δ), .inl (xe_ldA 3), .inr (.inl (124, 3, 0)), .inl (xe_stI 5)]
def xc0_20 (δ : xe_Dy) : List xe_In := [.inl (xe_ldA 2), .inl (xe_ldA 0), .inl (xe_ldI 4), .inl (xe_push (.int (1))), .inl (xe_i2 (fun x y => x + y)), .inl (xe_sld δ), .inr (.inl (196, 2, 12)), .inl (xe_stI 6), .inl (xe_ldA 2), .inr (.inl (129, 1, 12)), .inl (xe_ldI 5), .inl (xe_iceq 494), .inl (xe_push (.int (0))), .inr (.inr 3), .inl (xe_ldI 5), .inl (xe_ifne 505), .inl (xe_ldA 3), .inl (xe_push (.int (0))), .inl xe_aldL, .inl (xe_ldI 6), .inl xe_i2l, .inl xe_lcmp, .inl (xe_ifeq 505), .inl (xe_push (.int (0)))]
def xc0_21 (δ : xe_Dy) : List xe_In := [.inr (.inr 3), .inl (xe_goto 541), .inl (xe_ldA 1), .inl (xe_ldA 0), .inl (xe_ldI 4), .inl (xe_push (.int (1))), .inl (xe_i2 (fun x y => x + y)), .inl (xe_sld δ), .inl (xe_ldA 3), .inr (.inl (126, 3, 0)), .inl (xe_stI 5), .inl (xe_ldA 2), .inl (xe_ldA 0), .inl (xe_ldI 4), .inl (xe_push (.int (1))), .inl (xe_i2 (fun x y => x + y)), .inl (xe_sld δ), .inr (.inl (197, 2, 12)), .inl (xe_stI 6), .inl (xe_ldA 2), .inr (.inl (129, 1, 12)), .inl (xe_ldI 5), .inl (xe_iceq 529), .inl (xe_push (.int (0)))]
def xc0_22 (δ : xe_Dy) : List xe_In := [.inr (.inr 3), .inl (xe_ldI 5), .inl (xe_ifne 540), .inl (xe_ldA 3), .inl (xe_push (.int (0))), .inl xe_aldL, .inl (xe_ldI 6), .inl xe_i2l, .inl xe_lcmp, .inl (xe_ifeq 540), .inl (xe_push (.int (0))), .inr (.inr 3), .inl (xe_goto 541), .inl (xe_inc 4 (6)), .inl (xe_goto 13), .inl (xe_push (.int (1))), .inr (.inr 3)]
def xc0 (δ : xe_Dy) : List xe_In := xc0_0 δ ++ (xc0_1 δ ++ (xc0_2 δ ++ (xc0_3 δ ++ (xc0_4 δ ++ (xc0_5 δ ++ (xc0_6 δ ++ (xc0_7 δ ++ (xc0_8 δ ++ (xc0_9 δ ++ (xc0_10 δ ++ (xc0_11 δ ++ (xc0_12 δ ++ (xc0_13 δ ++ (xc0_14 δ ++ (xc0_15 δ ++ (xc0_16 δ ++ (xc0_17 δ ++ (xc0_18 δ ++ (xc0_19 δ ++ (xc0_20 δ ++ (xc0_21 δ ++ (xc0_22 δ))))))))))))))))))))))
set_option maxRecDepth 20000 in
theorem xq0_0 (δ : xe_Dy) : xe_OK δ xM_Y xM_L xY0 0 (.inl (xe_new 10 8)) := xo_new (δ := δ) (Y := xY0) (k := 0) (pc := 0) rfl rfl (ci := 10) (index := 8) (by decide) xK10 (by decide +kernel) (xg_w 29 (by decide +kernel)) (xg_w 30 (by decide +kernel)) (xg_w 1 (by decide +kernel)) (by decide +kernel)
set_option maxRecDepth 20000 in
theorem xq0_1 (δ : xe_Dy) : xe_OK δ xM_Y xM_L xY0 1 (.inl xe_dup) := xo_dup (δ := δ) (Y := xY0) (k := 1) (pc := 3) rfl rfl (by decide +kernel)
set_option maxRecDepth 20000 in
theorem xq0_2 (δ : xe_Dy) : xe_OK δ xM_Y xM_L xY0 2 (.inr (.inl (1, 1, 11))) := ⟨xY1, rfl, rfl, xm1, xc_init (δ := δ) (Y := xY0) (Z := xY1) (k := 2) (pc := 4) (index := 55) (ci := 10) (na := 0) (z := 1) (nest := none) rfl rfl (by decide +kernel) (xg_w 31 (by decide +kernel)) (xg_w 32 (by decide +kernel)) xm1.1 ⟨by decide, by decide⟩ rfl rfl⟩
set_option maxRecDepth 20000 in
theorem xq0_3 (δ : xe_Dy) : xe_OK δ xM_Y xM_L xY0 3 (.inl (xe_stA 1)) := xo_astore_n (δ := δ) (Y := xY0) (k := 3) (pc := 7) rfl rfl (q := 1) (i := 1) (by decide +kernel) rfl (by decide)
set_option maxRecDepth 20000 in
theorem xq0_4 (δ : xe_Dy) : xe_OK δ xM_Y xM_L xY0 4 (.inl (xe_new 11 87)) := xo_new (δ := δ) (Y := xY0) (k := 4) (pc := 8) rfl rfl (ci := 11) (index := 56) (by decide) xK11 (by decide +kernel) (xg_w 1151 (by decide +kernel)) (xg_w 1152 (by decide +kernel)) (xg_w 12 (by decide +kernel)) (by decide +kernel)
set_option maxRecDepth 20000 in
theorem xq0_5 (δ : xe_Dy) : xe_OK δ xM_Y xM_L xY0 5 (.inl xe_dup) := xo_dup (δ := δ) (Y := xY0) (k := 5) (pc := 11) rfl rfl (by decide +kernel)
set_option maxRecDepth 20000 in
theorem xq0_6 (δ : xe_Dy) : xe_OK δ xM_Y xM_L xY0 6 (.inr (.inl (128, 1, 12))) := ⟨xY128, rfl, rfl, xm128, xc_init (δ := δ) (Y := xY0) (Z := xY128) (k := 6) (pc := 12) (index := 58) (ci := 11) (na := 0) (z := 128) (nest := none) rfl rfl (by decide +kernel) (xg_w 1153 (by decide +kernel)) (xg_w 1154 (by decide +kernel)) xm128.1 ⟨by decide, by decide⟩ rfl rfl⟩
set_option maxRecDepth 20000 in
theorem xq0_7 (δ : xe_Dy) : xe_OK δ xM_Y xM_L xY0 7 (.inl (xe_stA 2)) := xo_astore_n (δ := δ) (Y := xY0) (k := 7) (pc := 15) rfl rfl (q := 2) (i := 2) (by decide +kernel) rfl (by decide)
set_option maxRecDepth 20000 in
theorem xq0_8 (δ : xe_Dy) : xe_OK δ xM_Y xM_L xY0 8 (.inl (xe_push (.int (1)))) := xo_iconst (δ := δ) (Y := xY0) (k := 8) (pc := 16) rfl rfl (n := 1) (by decide +kernel) (by decide)
set_option maxRecDepth 20000 in
theorem xq0_9 (δ : xe_Dy) : xe_OK δ xM_Y xM_L xY0 9 (.inl (xe_nwa 1)) := xo_nw1 (δ := δ) (Y := xY0) (k := 9) (pc := 17) rfl rfl (by decide +kernel)
set_option maxRecDepth 20000 in
theorem xq0_10 (δ : xe_Dy) : xe_OK δ xM_Y xM_L xY0 10 (.inl (xe_stA 3)) := xo_astore_n (δ := δ) (Y := xY0) (k := 10) (pc := 19) rfl rfl (q := 3) (i := 3) (by decide +kernel) rfl (by decide)
set_option maxRecDepth 20000 in
theorem xq0_11 (δ : xe_Dy) : xe_OK δ xM_Y xM_L xY0 11 (.inl (xe_push (.int (0)))) := xo_iconst (δ := δ) (Y := xY0) (k := 11) (pc := 20) rfl rfl (n := 0) (by decide +kernel) (by decide)
set_option maxRecDepth 20000 in
theorem xq0_12 (δ : xe_Dy) : xe_OK δ xM_Y xM_L xY0 12 (.inl (xe_stI 4)) := xo_istore (δ := δ) (Y := xY0) (k := 12) (pc := 21) rfl rfl (i := 4) (by decide +kernel) (by decide)
set_option maxRecDepth 20000 in
theorem xq0_13 (δ : xe_Dy) : xe_OK δ xM_Y xM_L xY0 13 (.inl (xe_ldI 4)) := xo_iload (δ := δ) (Y := xY0) (k := 13) (pc := 23) rfl rfl (i := 4) (by decide +kernel)
set_option maxRecDepth 20000 in
theorem xq0_14 (δ : xe_Dy) : xe_OK δ xM_Y xM_L xY0 14 (.inl (xe_ldA 0)) := xo_aload_n (δ := δ) (Y := xY0) (k := 14) (pc := 25) rfl rfl (q := 0) (i := 0) (by decide +kernel) rfl
set_option maxRecDepth 20000 in
theorem xq0_15 (δ : xe_Dy) : xe_OK δ xM_Y xM_L xY0 15 (.inl (xe_sln δ)) := xo_sln (δ := δ) (Y := xY0) (k := 15) (pc := 26) rfl rfl (by decide +kernel)
set_option maxRecDepth 20000 in
theorem xq0_16 (δ : xe_Dy) : xe_OK δ xM_Y xM_L xY0 16 (.inl (xe_push (.int (6)))) := xo_bipush (δ := δ) (Y := xY0) (k := 16) (pc := 27) rfl rfl (n := 6) (by decide +kernel) (by decide)
set_option maxRecDepth 20000 in
theorem xq0_17 (δ : xe_Dy) : xe_OK δ xM_Y xM_L xY0 17 (.inl (xe_i2 (fun x y => x - y))) := xo_isub (δ := δ) (Y := xY0) (k := 17) (pc := 29) rfl rfl (by decide +kernel)
set_option maxRecDepth 20000 in
theorem xq0_18 (δ : xe_Dy) : xe_OK δ xM_Y xM_L xY0 18 (.inl (xe_icgt 543)) := xo_icgt (δ := δ) (Y := xY0) (k := 18) (pc := 30) rfl rfl (b := 543) (tgt := 914) (off := 884) rfl (by decide +kernel) (by decide)
set_option maxRecDepth 20000 in
theorem xq0_19 (δ : xe_Dy) : xe_OK δ xM_Y xM_L xY0 19 (.inl (xe_ldA 0)) := xo_aload_n (δ := δ) (Y := xY0) (k := 19) (pc := 33) rfl rfl (q := 0) (i := 0) (by decide +kernel) rfl
set_option maxRecDepth 20000 in
theorem xq0_20 (δ : xe_Dy) : xe_OK δ xM_Y xM_L xY0 20 (.inl (xe_ldI 4)) := xo_iload (δ := δ) (Y := xY0) (k := 20) (pc := 34) rfl rfl (i := 4) (by decide +kernel)
set_option maxRecDepth 20000 in
theorem xq0_21 (δ : xe_Dy) : xe_OK δ xM_Y xM_L xY0 21 (.inl (xe_sld δ)) := xo_sld (δ := δ) (Y := xY0) (k := 21) (pc := 36) rfl rfl (by decide +kernel)
set_option maxRecDepth 20000 in
theorem xq0_22 (δ : xe_Dy) : xe_OK δ xM_Y xM_L xY0 22 (.inl (xe_push (.int (15)))) := xo_bipush (δ := δ) (Y := xY0) (k := 22) (pc := 37) rfl rfl (n := 15) (by decide +kernel) (by decide)
set_option maxRecDepth 20000 in
theorem xq0_23 (δ : xe_Dy) : xe_OK δ xM_Y xM_L xY0 23 (.inl (xe_i2 (fun x y => x &&& y))) := xo_iand (δ := δ) (Y := xY0) (k := 23) (pc := 39) rfl rfl (by decide +kernel)
set_option maxRecDepth 20000 in
theorem xq0_24 (δ : xe_Dy) : xe_OK δ xM_Y xM_L xY0 24 (.inl (xe_tsw (0) [25, 82, 99, 106, 123, 168, 203, 238, 283, 305, 337, 369, 391, 436, 471, 506] 541)) := xo_tsw (δ := δ) (Y := xY0) (k := 24) (pc := 40) rfl (lo := 0) (hi := 15) (off0 := 868) (offs := #[80, 153, 178, 191, 216, 284, 340, 396, 464, 500, 548, 596, 632, 700, 756, 812]) (len := 80) (bs := [25, 82, 99, 106, 123, 168, 203, 238, 283, 305, 337, 369, 391, 436, 471, 506]) (dflt := 541) (by decide +kernel) (by decide) (by decide +kernel) (by decide +kernel)
set_option maxRecDepth 20000 in
theorem xq0_25 (δ : xe_Dy) : xe_OK δ xM_Y xM_L xY0 25 (.inl (xe_ldA 1)) := xo_aload_n (δ := δ) (Y := xY0) (k := 25) (pc := 120) rfl rfl (q := 1) (i := 1) (by decide +kernel) rfl
set_option maxRecDepth 20000 in
theorem xq0_26 (δ : xe_Dy) : xe_OK δ xM_Y xM_L xY0 26 (.inl (xe_ldA 0)) := xo_aload_n (δ := δ) (Y := xY0) (k := 26) (pc := 121) rfl rfl (q := 0) (i := 0) (by decide +kernel) rfl
set_option maxRecDepth 20000 in
theorem xq0_27 (δ : xe_Dy) : xe_OK δ xM_Y xM_L xY0 27 (.inl (xe_ldI 4)) := xo_iload (δ := δ) (Y := xY0) (k := 27) (pc := 122) rfl rfl (i := 4) (by decide +kernel)
set_option maxRecDepth 20000 in
theorem xq0_28 (δ : xe_Dy) : xe_OK δ xM_Y xM_L xY0 28 (.inl (xe_push (.int (1)))) := xo_iconst (δ := δ) (Y := xY0) (k := 28) (pc := 124) rfl rfl (n := 1) (by decide +kernel) (by decide)
set_option maxRecDepth 20000 in
theorem xq0_29 (δ : xe_Dy) : xe_OK δ xM_Y xM_L xY0 29 (.inl (xe_i2 (fun x y => x + y))) := xo_iadd (δ := δ) (Y := xY0) (k := 29) (pc := 125) rfl rfl (by decide +kernel)
set_option maxRecDepth 20000 in
theorem xq0_30 (δ : xe_Dy) : xe_OK δ xM_Y xM_L xY0 30 (.inl (xe_sld δ)) := xo_sld (δ := δ) (Y := xY0) (k := 30) (pc := 126) rfl rfl (by decide +kernel)
set_option maxRecDepth 20000 in
theorem xq0_31 (δ : xe_Dy) : xe_OK δ xM_Y xM_L xY0 31 (.inl (xe_ldA 0)) := xo_aload_n (δ := δ) (Y := xY0) (k := 31) (pc := 127) rfl rfl (q := 0) (i := 0) (by decide +kernel) rfl
set_option maxRecDepth 20000 in
theorem xq0_32 (δ : xe_Dy) : xe_OK δ xM_Y xM_L xY0 32 (.inl (xe_ldI 4)) := xo_iload (δ := δ) (Y := xY0) (k := 32) (pc := 128) rfl rfl (i := 4) (by decide +kernel)
set_option maxRecDepth 20000 in
theorem xq0_33 (δ : xe_Dy) : xe_OK δ xM_Y xM_L xY0 33 (.inl (xe_push (.int (2)))) := xo_iconst (δ := δ) (Y := xY0) (k := 33) (pc := 130) rfl rfl (n := 2) (by decide +kernel) (by decide)
set_option maxRecDepth 20000 in
theorem xq0_34 (δ : xe_Dy) : xe_OK δ xM_Y xM_L xY0 34 (.inl (xe_i2 (fun x y => x + y))) := xo_iadd (δ := δ) (Y := xY0) (k := 34) (pc := 131) rfl rfl (by decide +kernel)
set_option maxRecDepth 20000 in
theorem xq0_35 (δ : xe_Dy) : xe_OK δ xM_Y xM_L xY0 35 (.inl (xe_sld δ)) := xo_sld (δ := δ) (Y := xY0) (k := 35) (pc := 132) rfl rfl (by decide +kernel)
set_option maxRecDepth 20000 in
theorem xq0_36 (δ : xe_Dy) : xe_OK δ xM_Y xM_L xY0 36 (.inl (xe_ldA 0)) := xo_aload_n (δ := δ) (Y := xY0) (k := 36) (pc := 133) rfl rfl (q := 0) (i := 0) (by decide +kernel) rfl
set_option maxRecDepth 20000 in
theorem xq0_37 (δ : xe_Dy) : xe_OK δ xM_Y xM_L xY0 37 (.inl (xe_ldI 4)) := xo_iload (δ := δ) (Y := xY0) (k := 37) (pc := 134) rfl rfl (i := 4) (by decide +kernel)
set_option maxRecDepth 20000 in
theorem xq0_38 (δ : xe_Dy) : xe_OK δ xM_Y xM_L xY0 38 (.inl (xe_push (.int (3)))) := xo_iconst (δ := δ) (Y := xY0) (k := 38) (pc := 136) rfl rfl (n := 3) (by decide +kernel) (by decide)
set_option maxRecDepth 20000 in
theorem xq0_39 (δ : xe_Dy) : xe_OK δ xM_Y xM_L xY0 39 (.inl (xe_i2 (fun x y => x + y))) := xo_iadd (δ := δ) (Y := xY0) (k := 39) (pc := 137) rfl rfl (by decide +kernel)
set_option maxRecDepth 20000 in
theorem xq0_40 (δ : xe_Dy) : xe_OK δ xM_Y xM_L xY0 40 (.inl (xe_sld δ)) := xo_sld (δ := δ) (Y := xY0) (k := 40) (pc := 138) rfl rfl (by decide +kernel)
set_option maxRecDepth 20000 in
theorem xq0_41 (δ : xe_Dy) : xe_OK δ xM_Y xM_L xY0 41 (.inl (xe_ldA 0)) := xo_aload_n (δ := δ) (Y := xY0) (k := 41) (pc := 139) rfl rfl (q := 0) (i := 0) (by decide +kernel) rfl
set_option maxRecDepth 20000 in
theorem xq0_42 (δ : xe_Dy) : xe_OK δ xM_Y xM_L xY0 42 (.inl (xe_ldI 4)) := xo_iload (δ := δ) (Y := xY0) (k := 42) (pc := 140) rfl rfl (i := 4) (by decide +kernel)
set_option maxRecDepth 20000 in
theorem xq0_43 (δ : xe_Dy) : xe_OK δ xM_Y xM_L xY0 43 (.inl (xe_push (.int (4)))) := xo_iconst (δ := δ) (Y := xY0) (k := 43) (pc := 142) rfl rfl (n := 4) (by decide +kernel) (by decide)
set_option maxRecDepth 20000 in
theorem xq0_44 (δ : xe_Dy) : xe_OK δ xM_Y xM_L xY0 44 (.inl (xe_i2 (fun x y => x + y))) := xo_iadd (δ := δ) (Y := xY0) (k := 44) (pc := 143) rfl rfl (by decide +kernel)
set_option maxRecDepth 20000 in
theorem xq0_45 (δ : xe_Dy) : xe_OK δ xM_Y xM_L xY0 45 (.inl (xe_sld δ)) := xo_sld (δ := δ) (Y := xY0) (k := 45) (pc := 144) rfl rfl (by decide +kernel)
set_option maxRecDepth 20000 in
theorem xq0_46 (δ : xe_Dy) : xe_OK δ xM_Y xM_L xY0 46 (.inl (xe_ldA 0)) := xo_aload_n (δ := δ) (Y := xY0) (k := 46) (pc := 145) rfl rfl (q := 0) (i := 0) (by decide +kernel) rfl
set_option maxRecDepth 20000 in
theorem xq0_47 (δ : xe_Dy) : xe_OK δ xM_Y xM_L xY0 47 (.inl (xe_ldI 4)) := xo_iload (δ := δ) (Y := xY0) (k := 47) (pc := 146) rfl rfl (i := 4) (by decide +kernel)
set_option maxRecDepth 20000 in
theorem xq0_48 (δ : xe_Dy) : xe_OK δ xM_Y xM_L xY0 48 (.inl (xe_push (.int (5)))) := xo_iconst (δ := δ) (Y := xY0) (k := 48) (pc := 148) rfl rfl (n := 5) (by decide +kernel) (by decide)
set_option maxRecDepth 20000 in
theorem xq0_49 (δ : xe_Dy) : xe_OK δ xM_Y xM_L xY0 49 (.inl (xe_i2 (fun x y => x + y))) := xo_iadd (δ := δ) (Y := xY0) (k := 49) (pc := 149) rfl rfl (by decide +kernel)
set_option maxRecDepth 20000 in
theorem xq0_50 (δ : xe_Dy) : xe_OK δ xM_Y xM_L xY0 50 (.inl (xe_sld δ)) := xo_sld (δ := δ) (Y := xY0) (k := 50) (pc := 150) rfl rfl (by decide +kernel)
set_option maxRecDepth 20000 in
theorem xq0_51 (δ : xe_Dy) : xe_OK δ xM_Y xM_L xY0 51 (.inr (.inl (12, 6, 11))) := ⟨xY12, rfl, rfl, xm12, xc_virtual (δ := δ) (Y := xY0) (Z := xY12) (k := 51) (pc := 151) (index := 59) (ci := 10) (na := 5) (z := 12) (nest := none) rfl rfl (by decide +kernel) rfl (xg_w 517 (by decide +kernel)) (xg_w 518 (by decide +kernel)) (xg_w 519 (by decide +kernel)) xm12.1 ⟨by decide, by decide⟩ rfl⟩
set_option maxRecDepth 20000 in
theorem xq0_52 (δ : xe_Dy) : xe_OK δ xM_Y xM_L xY0 52 (.inl (xe_ldA 2)) := xo_aload_n (δ := δ) (Y := xY0) (k := 52) (pc := 154) rfl rfl (q := 2) (i := 2) (by decide +kernel) rfl
set_option maxRecDepth 20000 in
theorem xq0_53 (δ : xe_Dy) : xe_OK δ xM_Y xM_L xY0 53 (.inl (xe_ldA 0)) := xo_aload_n (δ := δ) (Y := xY0) (k := 53) (pc := 155) rfl rfl (q := 0) (i := 0) (by decide +kernel) rfl
set_option maxRecDepth 20000 in
theorem xq0_54 (δ : xe_Dy) : xe_OK δ xM_Y xM_L xY0 54 (.inl (xe_ldI 4)) := xo_iload (δ := δ) (Y := xY0) (k := 54) (pc := 156) rfl rfl (i := 4) (by decide +kernel)
set_option maxRecDepth 20000 in
theorem xq0_55 (δ : xe_Dy) : xe_OK δ xM_Y xM_L xY0 55 (.inl (xe_push (.int (1)))) := xo_iconst (δ := δ) (Y := xY0) (k := 55) (pc := 158) rfl rfl (n := 1) (by decide +kernel) (by decide)
set_option maxRecDepth 20000 in
theorem xq0_56 (δ : xe_Dy) : xe_OK δ xM_Y xM_L xY0 56 (.inl (xe_i2 (fun x y => x + y))) := xo_iadd (δ := δ) (Y := xY0) (k := 56) (pc := 159) rfl rfl (by decide +kernel)
set_option maxRecDepth 20000 in
theorem xq0_57 (δ : xe_Dy) : xe_OK δ xM_Y xM_L xY0 57 (.inl (xe_sld δ)) := xo_sld (δ := δ) (Y := xY0) (k := 57) (pc := 160) rfl rfl (by decide +kernel)
set_option maxRecDepth 20000 in
theorem xq0_58 (δ : xe_Dy) : xe_OK δ xM_Y xM_L xY0 58 (.inl (xe_ldA 0)) := xo_aload_n (δ := δ) (Y := xY0) (k := 58) (pc := 161) rfl rfl (q := 0) (i := 0) (by decide +kernel) rfl
set_option maxRecDepth 20000 in
theorem xq0_59 (δ : xe_Dy) : xe_OK δ xM_Y xM_L xY0 59 (.inl (xe_ldI 4)) := xo_iload (δ := δ) (Y := xY0) (k := 59) (pc := 162) rfl rfl (i := 4) (by decide +kernel)
set_option maxRecDepth 20000 in
theorem xq0_60 (δ : xe_Dy) : xe_OK δ xM_Y xM_L xY0 60 (.inl (xe_push (.int (2)))) := xo_iconst (δ := δ) (Y := xY0) (k := 60) (pc := 164) rfl rfl (n := 2) (by decide +kernel) (by decide)
set_option maxRecDepth 20000 in
theorem xq0_61 (δ : xe_Dy) : xe_OK δ xM_Y xM_L xY0 61 (.inl (xe_i2 (fun x y => x + y))) := xo_iadd (δ := δ) (Y := xY0) (k := 61) (pc := 165) rfl rfl (by decide +kernel)
set_option maxRecDepth 20000 in
theorem xq0_62 (δ : xe_Dy) : xe_OK δ xM_Y xM_L xY0 62 (.inl (xe_sld δ)) := xo_sld (δ := δ) (Y := xY0) (k := 62) (pc := 166) rfl rfl (by decide +kernel)
set_option maxRecDepth 20000 in
theorem xq0_63 (δ : xe_Dy) : xe_OK δ xM_Y xM_L xY0 63 (.inl (xe_ldA 0)) := xo_aload_n (δ := δ) (Y := xY0) (k := 63) (pc := 167) rfl rfl (q := 0) (i := 0) (by decide +kernel) rfl
set_option maxRecDepth 20000 in
theorem xq0_64 (δ : xe_Dy) : xe_OK δ xM_Y xM_L xY0 64 (.inl (xe_ldI 4)) := xo_iload (δ := δ) (Y := xY0) (k := 64) (pc := 168) rfl rfl (i := 4) (by decide +kernel)
set_option maxRecDepth 20000 in
theorem xq0_65 (δ : xe_Dy) : xe_OK δ xM_Y xM_L xY0 65 (.inl (xe_push (.int (3)))) := xo_iconst (δ := δ) (Y := xY0) (k := 65) (pc := 170) rfl rfl (n := 3) (by decide +kernel) (by decide)
set_option maxRecDepth 20000 in
theorem xq0_66 (δ : xe_Dy) : xe_OK δ xM_Y xM_L xY0 66 (.inl (xe_i2 (fun x y => x + y))) := xo_iadd (δ := δ) (Y := xY0) (k := 66) (pc := 171) rfl rfl (by decide +kernel)
set_option maxRecDepth 20000 in
theorem xq0_67 (δ : xe_Dy) : xe_OK δ xM_Y xM_L xY0 67 (.inl (xe_sld δ)) := xo_sld (δ := δ) (Y := xY0) (k := 67) (pc := 172) rfl rfl (by decide +kernel)
set_option maxRecDepth 20000 in
theorem xq0_68 (δ : xe_Dy) : xe_OK δ xM_Y xM_L xY0 68 (.inl (xe_ldA 0)) := xo_aload_n (δ := δ) (Y := xY0) (k := 68) (pc := 173) rfl rfl (q := 0) (i := 0) (by decide +kernel) rfl
set_option maxRecDepth 20000 in
theorem xq0_69 (δ : xe_Dy) : xe_OK δ xM_Y xM_L xY0 69 (.inl (xe_ldI 4)) := xo_iload (δ := δ) (Y := xY0) (k := 69) (pc := 174) rfl rfl (i := 4) (by decide +kernel)
set_option maxRecDepth 20000 in
theorem xq0_70 (δ : xe_Dy) : xe_OK δ xM_Y xM_L xY0 70 (.inl (xe_push (.int (4)))) := xo_iconst (δ := δ) (Y := xY0) (k := 70) (pc := 176) rfl rfl (n := 4) (by decide +kernel) (by decide)
set_option maxRecDepth 20000 in
theorem xq0_71 (δ : xe_Dy) : xe_OK δ xM_Y xM_L xY0 71 (.inl (xe_i2 (fun x y => x + y))) := xo_iadd (δ := δ) (Y := xY0) (k := 71) (pc := 177) rfl rfl (by decide +kernel)
set_option maxRecDepth 20000 in
theorem xq0_72 (δ : xe_Dy) : xe_OK δ xM_Y xM_L xY0 72 (.inl (xe_sld δ)) := xo_sld (δ := δ) (Y := xY0) (k := 72) (pc := 178) rfl rfl (by decide +kernel)
set_option maxRecDepth 20000 in
theorem xq0_73 (δ : xe_Dy) : xe_OK δ xM_Y xM_L xY0 73 (.inl (xe_ldA 0)) := xo_aload_n (δ := δ) (Y := xY0) (k := 73) (pc := 179) rfl rfl (q := 0) (i := 0) (by decide +kernel) rfl
set_option maxRecDepth 20000 in
theorem xq0_74 (δ : xe_Dy) : xe_OK δ xM_Y xM_L xY0 74 (.inl (xe_ldI 4)) := xo_iload (δ := δ) (Y := xY0) (k := 74) (pc := 180) rfl rfl (i := 4) (by decide +kernel)
set_option maxRecDepth 20000 in
theorem xq0_75 (δ : xe_Dy) : xe_OK δ xM_Y xM_L xY0 75 (.inl (xe_push (.int (5)))) := xo_iconst (δ := δ) (Y := xY0) (k := 75) (pc := 182) rfl rfl (n := 5) (by decide +kernel) (by decide)
set_option maxRecDepth 20000 in
theorem xq0_76 (δ : xe_Dy) : xe_OK δ xM_Y xM_L xY0 76 (.inl (xe_i2 (fun x y => x + y))) := xo_iadd (δ := δ) (Y := xY0) (k := 76) (pc := 183) rfl rfl (by decide +kernel)
set_option maxRecDepth 20000 in
theorem xq0_77 (δ : xe_Dy) : xe_OK δ xM_Y xM_L xY0 77 (.inl (xe_sld δ)) := xo_sld (δ := δ) (Y := xY0) (k := 77) (pc := 184) rfl rfl (by decide +kernel)
set_option maxRecDepth 20000 in
theorem xq0_78 (δ : xe_Dy) : xe_OK δ xM_Y xM_L xY0 78 (.inr (.inl (130, 6, 12))) := ⟨xY130, rfl, rfl, xm130, xc_virtual (δ := δ) (Y := xY0) (Z := xY130) (k := 78) (pc := 185) (index := 63) (ci := 11) (na := 5) (z := 130) (nest := none) rfl rfl (by decide +kernel) rfl (xg_w 1434 (by decide +kernel)) (xg_w 1435 (by decide +kernel)) (xg_w 1436 (by decide +kernel)) xm130.1 ⟨by decide, by decide⟩ rfl⟩
set_option maxRecDepth 20000 in
theorem xq0_79 (δ : xe_Dy) : xe_OK δ xM_Y xM_L xY0 79 (.inl (xe_iceq 541)) := xo_iceq (δ := δ) (Y := xY0) (k := 79) (pc := 188) rfl rfl (b := 541) (tgt := 908) (off := 720) rfl (by decide +kernel) (by decide)
set_option maxRecDepth 20000 in
theorem xq0_80 (δ : xe_Dy) : xe_OK δ xM_Y xM_L xY0 80 (.inl (xe_push (.int (0)))) := xo_iconst (δ := δ) (Y := xY0) (k := 80) (pc := 191) rfl rfl (n := 0) (by decide +kernel) (by decide)
set_option maxRecDepth 20000 in
theorem xq0_81 (δ : xe_Dy) : xe_OK δ xM_Y xM_L xY0 81 (.inr (.inr 3)) := ⟨rfl, (by decide +kernel)⟩
set_option maxRecDepth 20000 in
theorem xq0_82 (δ : xe_Dy) : xe_OK δ xM_Y xM_L xY0 82 (.inl (xe_ldA 1)) := xo_aload_n (δ := δ) (Y := xY0) (k := 82) (pc := 193) rfl rfl (q := 1) (i := 1) (by decide +kernel) rfl
set_option maxRecDepth 20000 in
theorem xq0_83 (δ : xe_Dy) : xe_OK δ xM_Y xM_L xY0 83 (.inl (xe_ldA 0)) := xo_aload_n (δ := δ) (Y := xY0) (k := 83) (pc := 194) rfl rfl (q := 0) (i := 0) (by decide +kernel) rfl
set_option maxRecDepth 20000 in
theorem xq0_84 (δ : xe_Dy) : xe_OK δ xM_Y xM_L xY0 84 (.inl (xe_ldI 4)) := xo_iload (δ := δ) (Y := xY0) (k := 84) (pc := 195) rfl rfl (i := 4) (by decide +kernel)
set_option maxRecDepth 20000 in
theorem xq0_85 (δ : xe_Dy) : xe_OK δ xM_Y xM_L xY0 85 (.inl (xe_push (.int (1)))) := xo_iconst (δ := δ) (Y := xY0) (k := 85) (pc := 197) rfl rfl (n := 1) (by decide +kernel) (by decide)
set_option maxRecDepth 20000 in
theorem xq0_86 (δ : xe_Dy) : xe_OK δ xM_Y xM_L xY0 86 (.inl (xe_i2 (fun x y => x + y))) := xo_iadd (δ := δ) (Y := xY0) (k := 86) (pc := 198) rfl rfl (by decide +kernel)
set_option maxRecDepth 20000 in
theorem xq0_87 (δ : xe_Dy) : xe_OK δ xM_Y xM_L xY0 87 (.inl (xe_sld δ)) := xo_sld (δ := δ) (Y := xY0) (k := 87) (pc := 199) rfl rfl (by decide +kernel)
set_option maxRecDepth 20000 in
theorem xq0_88 (δ : xe_Dy) : xe_OK δ xM_Y xM_L xY0 88 (.inr (.inl (14, 2, 11))) := ⟨xY14, rfl, rfl, xm14, xc_virtual (δ := δ) (Y := xY0) (Z := xY14) (k := 88) (pc := 200) (index := 64) (ci := 10) (na := 1) (z := 14) (nest := none) rfl rfl (by decide +kernel) rfl (xg_w 525 (by decide +kernel)) (xg_w 526 (by decide +kernel)) (xg_w 527 (by decide +kernel)) xm14.1 ⟨by decide, by decide⟩ rfl⟩
set_option maxRecDepth 20000 in
theorem xq0_89 (δ : xe_Dy) : xe_OK δ xM_Y xM_L xY0 89 (.inl (xe_ldA 2)) := xo_aload_n (δ := δ) (Y := xY0) (k := 89) (pc := 203) rfl rfl (q := 2) (i := 2) (by decide +kernel) rfl
set_option maxRecDepth 20000 in
theorem xq0_90 (δ : xe_Dy) : xe_OK δ xM_Y xM_L xY0 90 (.inl (xe_ldA 0)) := xo_aload_n (δ := δ) (Y := xY0) (k := 90) (pc := 204) rfl rfl (q := 0) (i := 0) (by decide +kernel) rfl
set_option maxRecDepth 20000 in
theorem xq0_91 (δ : xe_Dy) : xe_OK δ xM_Y xM_L xY0 91 (.inl (xe_ldI 4)) := xo_iload (δ := δ) (Y := xY0) (k := 91) (pc := 205) rfl rfl (i := 4) (by decide +kernel)
set_option maxRecDepth 20000 in
theorem xq0_92 (δ : xe_Dy) : xe_OK δ xM_Y xM_L xY0 92 (.inl (xe_push (.int (1)))) := xo_iconst (δ := δ) (Y := xY0) (k := 92) (pc := 207) rfl rfl (n := 1) (by decide +kernel) (by decide)
set_option maxRecDepth 20000 in
theorem xq0_93 (δ : xe_Dy) : xe_OK δ xM_Y xM_L xY0 93 (.inl (xe_i2 (fun x y => x + y))) := xo_iadd (δ := δ) (Y := xY0) (k := 93) (pc := 208) rfl rfl (by decide +kernel)
set_option maxRecDepth 20000 in
theorem xq0_94 (δ : xe_Dy) : xe_OK δ xM_Y xM_L xY0 94 (.inl (xe_sld δ)) := xo_sld (δ := δ) (Y := xY0) (k := 94) (pc := 209) rfl rfl (by decide +kernel)
set_option maxRecDepth 20000 in
theorem xq0_95 (δ : xe_Dy) : xe_OK δ xM_Y xM_L xY0 95 (.inr (.inl (131, 2, 12))) := ⟨xY131, rfl, rfl, xm131, xc_virtual (δ := δ) (Y := xY0) (Z := xY131) (k := 95) (pc := 210) (index := 68) (ci := 11) (na := 1) (z := 131) (nest := none) rfl rfl (by decide +kernel) rfl (xg_w 1438 (by decide +kernel)) (xg_w 1439 (by decide +kernel)) (xg_w 1440 (by decide +kernel)) xm131.1 ⟨by decide, by decide⟩ rfl⟩
set_option maxRecDepth 20000 in
theorem xq0_96 (δ : xe_Dy) : xe_OK δ xM_Y xM_L xY0 96 (.inl (xe_iceq 541)) := xo_iceq (δ := δ) (Y := xY0) (k := 96) (pc := 213) rfl rfl (b := 541) (tgt := 908) (off := 695) rfl (by decide +kernel) (by decide)
set_option maxRecDepth 20000 in
theorem xq0_97 (δ : xe_Dy) : xe_OK δ xM_Y xM_L xY0 97 (.inl (xe_push (.int (0)))) := xo_iconst (δ := δ) (Y := xY0) (k := 97) (pc := 216) rfl rfl (n := 0) (by decide +kernel) (by decide)
set_option maxRecDepth 20000 in
theorem xq0_98 (δ : xe_Dy) : xe_OK δ xM_Y xM_L xY0 98 (.inr (.inr 3)) := ⟨rfl, (by decide +kernel)⟩
set_option maxRecDepth 20000 in
theorem xq0_99 (δ : xe_Dy) : xe_OK δ xM_Y xM_L xY0 99 (.inl (xe_ldA 1)) := xo_aload_n (δ := δ) (Y := xY0) (k := 99) (pc := 218) rfl rfl (q := 1) (i := 1) (by decide +kernel) rfl
set_option maxRecDepth 20000 in
theorem xq0_100 (δ : xe_Dy) : xe_OK δ xM_Y xM_L xY0 100 (.inr (.inl (15, 1, 11))) := ⟨xY15, rfl, rfl, xm15, xc_virtual (δ := δ) (Y := xY0) (Z := xY15) (k := 100) (pc := 219) (index := 69) (ci := 10) (na := 0) (z := 15) (nest := none) rfl rfl (by decide +kernel) rfl (xg_w 532 (by decide +kernel)) (xg_w 533 (by decide +kernel)) (xg_w 534 (by decide +kernel)) xm15.1 ⟨by decide, by decide⟩ rfl⟩
set_option maxRecDepth 20000 in
theorem xq0_101 (δ : xe_Dy) : xe_OK δ xM_Y xM_L xY0 101 (.inl (xe_ldA 2)) := xo_aload_n (δ := δ) (Y := xY0) (k := 101) (pc := 222) rfl rfl (q := 2) (i := 2) (by decide +kernel) rfl
set_option maxRecDepth 20000 in
theorem xq0_102 (δ : xe_Dy) : xe_OK δ xM_Y xM_L xY0 102 (.inr (.inl (133, 1, 12))) := ⟨xY133, rfl, rfl, xm133, xc_virtual (δ := δ) (Y := xY0) (Z := xY133) (k := 102) (pc := 223) (index := 73) (ci := 11) (na := 0) (z := 133) (nest := none) rfl rfl (by decide +kernel) rfl (xg_w 1445 (by decide +kernel)) (xg_w 1446 (by decide +kernel)) (xg_w 1447 (by decide +kernel)) xm133.1 ⟨by decide, by decide⟩ rfl⟩
set_option maxRecDepth 20000 in
theorem xq0_103 (δ : xe_Dy) : xe_OK δ xM_Y xM_L xY0 103 (.inl (xe_iceq 541)) := xo_iceq (δ := δ) (Y := xY0) (k := 103) (pc := 226) rfl rfl (b := 541) (tgt := 908) (off := 682) rfl (by decide +kernel) (by decide)
set_option maxRecDepth 20000 in
theorem xq0_104 (δ : xe_Dy) : xe_OK δ xM_Y xM_L xY0 104 (.inl (xe_push (.int (0)))) := xo_iconst (δ := δ) (Y := xY0) (k := 104) (pc := 229) rfl rfl (n := 0) (by decide +kernel) (by decide)
set_option maxRecDepth 20000 in
theorem xq0_105 (δ : xe_Dy) : xe_OK δ xM_Y xM_L xY0 105 (.inr (.inr 3)) := ⟨rfl, (by decide +kernel)⟩
set_option maxRecDepth 20000 in
theorem xq0_106 (δ : xe_Dy) : xe_OK δ xM_Y xM_L xY0 106 (.inl (xe_ldA 1)) := xo_aload_n (δ := δ) (Y := xY0) (k := 106) (pc := 231) rfl rfl (q := 1) (i := 1) (by decide +kernel) rfl
set_option maxRecDepth 20000 in
theorem xq0_107 (δ : xe_Dy) : xe_OK δ xM_Y xM_L xY0 107 (.inl (xe_ldA 0)) := xo_aload_n (δ := δ) (Y := xY0) (k := 107) (pc := 232) rfl rfl (q := 0) (i := 0) (by decide +kernel) rfl
set_option maxRecDepth 20000 in
theorem xq0_108 (δ : xe_Dy) : xe_OK δ xM_Y xM_L xY0 108 (.inl (xe_ldI 4)) := xo_iload (δ := δ) (Y := xY0) (k := 108) (pc := 233) rfl rfl (i := 4) (by decide +kernel)
set_option maxRecDepth 20000 in
theorem xq0_109 (δ : xe_Dy) : xe_OK δ xM_Y xM_L xY0 109 (.inl (xe_push (.int (1)))) := xo_iconst (δ := δ) (Y := xY0) (k := 109) (pc := 235) rfl rfl (n := 1) (by decide +kernel) (by decide)
set_option maxRecDepth 20000 in
theorem xq0_110 (δ : xe_Dy) : xe_OK δ xM_Y xM_L xY0 110 (.inl (xe_i2 (fun x y => x + y))) := xo_iadd (δ := δ) (Y := xY0) (k := 110) (pc := 236) rfl rfl (by decide +kernel)
set_option maxRecDepth 20000 in
theorem xq0_111 (δ : xe_Dy) : xe_OK δ xM_Y xM_L xY0 111 (.inl (xe_sld δ)) := xo_sld (δ := δ) (Y := xY0) (k := 111) (pc := 237) rfl rfl (by decide +kernel)
set_option maxRecDepth 20000 in
theorem xq0_112 (δ : xe_Dy) : xe_OK δ xM_Y xM_L xY0 112 (.inr (.inl (81, 2, 11))) := ⟨xY81, rfl, rfl, xm81, xc_virtual (δ := δ) (Y := xY0) (Z := xY81) (k := 112) (pc := 238) (index := 74) (ci := 10) (na := 1) (z := 81) (nest := none) rfl rfl (by decide +kernel) rfl (xg_w 935 (by decide +kernel)) (xg_w 936 (by decide +kernel)) (xg_w 937 (by decide +kernel)) xm81.1 ⟨by decide, by decide⟩ rfl⟩
set_option maxRecDepth 20000 in
theorem xq0_113 (δ : xe_Dy) : xe_OK δ xM_Y xM_L xY0 113 (.inl (xe_ldA 2)) := xo_aload_n (δ := δ) (Y := xY0) (k := 113) (pc := 241) rfl rfl (q := 2) (i := 2) (by decide +kernel) rfl
set_option maxRecDepth 20000 in
theorem xq0_114 (δ : xe_Dy) : xe_OK δ xM_Y xM_L xY0 114 (.inl (xe_ldA 0)) := xo_aload_n (δ := δ) (Y := xY0) (k := 114) (pc := 242) rfl rfl (q := 0) (i := 0) (by decide +kernel) rfl
set_option maxRecDepth 20000 in
theorem xq0_115 (δ : xe_Dy) : xe_OK δ xM_Y xM_L xY0 115 (.inl (xe_ldI 4)) := xo_iload (δ := δ) (Y := xY0) (k := 115) (pc := 243) rfl rfl (i := 4) (by decide +kernel)
set_option maxRecDepth 20000 in
theorem xq0_116 (δ : xe_Dy) : xe_OK δ xM_Y xM_L xY0 116 (.inl (xe_push (.int (1)))) := xo_iconst (δ := δ) (Y := xY0) (k := 116) (pc := 245) rfl rfl (n := 1) (by decide +kernel) (by decide)
set_option maxRecDepth 20000 in
theorem xq0_117 (δ : xe_Dy) : xe_OK δ xM_Y xM_L xY0 117 (.inl (xe_i2 (fun x y => x + y))) := xo_iadd (δ := δ) (Y := xY0) (k := 117) (pc := 246) rfl rfl (by decide +kernel)
set_option maxRecDepth 20000 in
theorem xq0_118 (δ : xe_Dy) : xe_OK δ xM_Y xM_L xY0 118 (.inl (xe_sld δ)) := xo_sld (δ := δ) (Y := xY0) (k := 118) (pc := 247) rfl rfl (by decide +kernel)
set_option maxRecDepth 20000 in
theorem xq0_119 (δ : xe_Dy) : xe_OK δ xM_Y xM_L xY0 119 (.inr (.inl (178, 2, 12))) := ⟨xY178, rfl, rfl, xm178, xc_virtual (δ := δ) (Y := xY0) (Z := xY178) (k := 119) (pc := 248) (index := 77) (ci := 11) (na := 1) (z := 178) (nest := none) rfl rfl (by decide +kernel) rfl (xg_w 1632 (by decide +kernel)) (xg_w 1633 (by decide +kernel)) (xg_w 1634 (by decide +kernel)) xm178.1 ⟨by decide, by decide⟩ rfl⟩
set_option maxRecDepth 20000 in
theorem xq0_120 (δ : xe_Dy) : xe_OK δ xM_Y xM_L xY0 120 (.inl (xe_iceq 541)) := xo_iceq (δ := δ) (Y := xY0) (k := 120) (pc := 251) rfl rfl (b := 541) (tgt := 908) (off := 657) rfl (by decide +kernel) (by decide)
set_option maxRecDepth 20000 in
theorem xq0_121 (δ : xe_Dy) : xe_OK δ xM_Y xM_L xY0 121 (.inl (xe_push (.int (0)))) := xo_iconst (δ := δ) (Y := xY0) (k := 121) (pc := 254) rfl rfl (n := 0) (by decide +kernel) (by decide)
set_option maxRecDepth 20000 in
theorem xq0_122 (δ : xe_Dy) : xe_OK δ xM_Y xM_L xY0 122 (.inr (.inr 3)) := ⟨rfl, (by decide +kernel)⟩
set_option maxRecDepth 20000 in
theorem xq0_123 (δ : xe_Dy) : xe_OK δ xM_Y xM_L xY0 123 (.inl (xe_ldA 1)) := xo_aload_n (δ := δ) (Y := xY0) (k := 123) (pc := 256) rfl rfl (q := 1) (i := 1) (by decide +kernel) rfl
set_option maxRecDepth 20000 in
theorem xq0_124 (δ : xe_Dy) : xe_OK δ xM_Y xM_L xY0 124 (.inl (xe_ldA 0)) := xo_aload_n (δ := δ) (Y := xY0) (k := 124) (pc := 257) rfl rfl (q := 0) (i := 0) (by decide +kernel) rfl
set_option maxRecDepth 20000 in
theorem xq0_125 (δ : xe_Dy) : xe_OK δ xM_Y xM_L xY0 125 (.inl (xe_ldI 4)) := xo_iload (δ := δ) (Y := xY0) (k := 125) (pc := 258) rfl rfl (i := 4) (by decide +kernel)
set_option maxRecDepth 20000 in
theorem xq0_126 (δ : xe_Dy) : xe_OK δ xM_Y xM_L xY0 126 (.inl (xe_push (.int (1)))) := xo_iconst (δ := δ) (Y := xY0) (k := 126) (pc := 260) rfl rfl (n := 1) (by decide +kernel) (by decide)
set_option maxRecDepth 20000 in
theorem xq0_127 (δ : xe_Dy) : xe_OK δ xM_Y xM_L xY0 127 (.inl (xe_i2 (fun x y => x + y))) := xo_iadd (δ := δ) (Y := xY0) (k := 127) (pc := 261) rfl rfl (by decide +kernel)
set_option maxRecDepth 20000 in
theorem xq0_128 (δ : xe_Dy) : xe_OK δ xM_Y xM_L xY0 128 (.inl (xe_sld δ)) := xo_sld (δ := δ) (Y := xY0) (k := 128) (pc := 262) rfl rfl (by decide +kernel)
set_option maxRecDepth 20000 in
theorem xq0_129 (δ : xe_Dy) : xe_OK δ xM_Y xM_L xY0 129 (.inl (xe_ldA 0)) := xo_aload_n (δ := δ) (Y := xY0) (k := 129) (pc := 263) rfl rfl (q := 0) (i := 0) (by decide +kernel) rfl
set_option maxRecDepth 20000 in
theorem xq0_130 (δ : xe_Dy) : xe_OK δ xM_Y xM_L xY0 130 (.inl (xe_ldI 4)) := xo_iload (δ := δ) (Y := xY0) (k := 130) (pc := 264) rfl rfl (i := 4) (by decide +kernel)
set_option maxRecDepth 20000 in
theorem xq0_131 (δ : xe_Dy) : xe_OK δ xM_Y xM_L xY0 131 (.inl (xe_push (.int (2)))) := xo_iconst (δ := δ) (Y := xY0) (k := 131) (pc := 266) rfl rfl (n := 2) (by decide +kernel) (by decide)
set_option maxRecDepth 20000 in
theorem xq0_132 (δ : xe_Dy) : xe_OK δ xM_Y xM_L xY0 132 (.inl (xe_i2 (fun x y => x + y))) := xo_iadd (δ := δ) (Y := xY0) (k := 132) (pc := 267) rfl rfl (by decide +kernel)
set_option maxRecDepth 20000 in
theorem xq0_133 (δ : xe_Dy) : xe_OK δ xM_Y xM_L xY0 133 (.inl (xe_sld δ)) := xo_sld (δ := δ) (Y := xY0) (k := 133) (pc := 268) rfl rfl (by decide +kernel)
set_option maxRecDepth 20000 in
theorem xq0_134 (δ : xe_Dy) : xe_OK δ xM_Y xM_L xY0 134 (.inl (xe_ldA 3)) := xo_aload_n (δ := δ) (Y := xY0) (k := 134) (pc := 269) rfl rfl (q := 3) (i := 3) (by decide +kernel) rfl
set_option maxRecDepth 20000 in
theorem xq0_135 (δ : xe_Dy) : xe_OK δ xM_Y xM_L xY0 135 (.inr (.inl (83, 4, 0))) := ⟨xY83, rfl, rfl, xm83, xc_static (δ := δ) (Y := xY0) (Z := xY83) (k := 135) (pc := 270) (index := 78) (na := 4) (z := 83) (nest := none) rfl rfl (by decide +kernel) (xg_w 943 (by decide +kernel)) (xg_w 944 (by decide +kernel)) xm83.2.1 xm83.1 ⟨by decide, by decide⟩ rfl⟩
set_option maxRecDepth 20000 in
theorem xq0_136 (δ : xe_Dy) : xe_OK δ xM_Y xM_L xY0 136 (.inl (xe_stI 5)) := xo_istore (δ := δ) (Y := xY0) (k := 136) (pc := 273) rfl rfl (i := 5) (by decide +kernel) (by decide)
set_option maxRecDepth 20000 in
theorem xq0_137 (δ : xe_Dy) : xe_OK δ xM_Y xM_L xY0 137 (.inl (xe_ldA 2)) := xo_aload_n (δ := δ) (Y := xY0) (k := 137) (pc := 275) rfl rfl (q := 2) (i := 2) (by decide +kernel) rfl
set_option maxRecDepth 20000 in
theorem xq0_138 (δ : xe_Dy) : xe_OK δ xM_Y xM_L xY0 138 (.inl (xe_ldA 0)) := xo_aload_n (δ := δ) (Y := xY0) (k := 138) (pc := 276) rfl rfl (q := 0) (i := 0) (by decide +kernel) rfl
set_option maxRecDepth 20000 in
theorem xq0_139 (δ : xe_Dy) : xe_OK δ xM_Y xM_L xY0 139 (.inl (xe_ldI 4)) := xo_iload (δ := δ) (Y := xY0) (k := 139) (pc := 277) rfl rfl (i := 4) (by decide +kernel)
set_option maxRecDepth 20000 in
theorem xq0_140 (δ : xe_Dy) : xe_OK δ xM_Y xM_L xY0 140 (.inl (xe_push (.int (1)))) := xo_iconst (δ := δ) (Y := xY0) (k := 140) (pc := 279) rfl rfl (n := 1) (by decide +kernel) (by decide)
set_option maxRecDepth 20000 in
theorem xq0_141 (δ : xe_Dy) : xe_OK δ xM_Y xM_L xY0 141 (.inl (xe_i2 (fun x y => x + y))) := xo_iadd (δ := δ) (Y := xY0) (k := 141) (pc := 280) rfl rfl (by decide +kernel)
set_option maxRecDepth 20000 in
theorem xq0_142 (δ : xe_Dy) : xe_OK δ xM_Y xM_L xY0 142 (.inl (xe_sld δ)) := xo_sld (δ := δ) (Y := xY0) (k := 142) (pc := 281) rfl rfl (by decide +kernel)
set_option maxRecDepth 20000 in
theorem xq0_143 (δ : xe_Dy) : xe_OK δ xM_Y xM_L xY0 143 (.inl (xe_ldA 0)) := xo_aload_n (δ := δ) (Y := xY0) (k := 143) (pc := 282) rfl rfl (q := 0) (i := 0) (by decide +kernel) rfl
set_option maxRecDepth 20000 in
theorem xq0_144 (δ : xe_Dy) : xe_OK δ xM_Y xM_L xY0 144 (.inl (xe_ldI 4)) := xo_iload (δ := δ) (Y := xY0) (k := 144) (pc := 283) rfl rfl (i := 4) (by decide +kernel)
set_option maxRecDepth 20000 in
theorem xq0_145 (δ : xe_Dy) : xe_OK δ xM_Y xM_L xY0 145 (.inl (xe_push (.int (2)))) := xo_iconst (δ := δ) (Y := xY0) (k := 145) (pc := 285) rfl rfl (n := 2) (by decide +kernel) (by decide)
set_option maxRecDepth 20000 in
theorem xq0_146 (δ : xe_Dy) : xe_OK δ xM_Y xM_L xY0 146 (.inl (xe_i2 (fun x y => x + y))) := xo_iadd (δ := δ) (Y := xY0) (k := 146) (pc := 286) rfl rfl (by decide +kernel)
set_option maxRecDepth 20000 in
theorem xq0_147 (δ : xe_Dy) : xe_OK δ xM_Y xM_L xY0 147 (.inl (xe_sld δ)) := xo_sld (δ := δ) (Y := xY0) (k := 147) (pc := 287) rfl rfl (by decide +kernel)
set_option maxRecDepth 20000 in
theorem xq0_148 (δ : xe_Dy) : xe_OK δ xM_Y xM_L xY0 148 (.inr (.inl (179, 3, 12))) := ⟨xY179, rfl, rfl, xm179, xc_virtual (δ := δ) (Y := xY0) (Z := xY179) (k := 148) (pc := 288) (index := 83) (ci := 11) (na := 2) (z := 179) (nest := none) rfl rfl (by decide +kernel) rfl (xg_w 1636 (by decide +kernel)) (xg_w 1637 (by decide +kernel)) (xg_w 1638 (by decide +kernel)) xm179.1 ⟨by decide, by decide⟩ rfl⟩
set_option maxRecDepth 20000 in
theorem xq0_149 (δ : xe_Dy) : xe_OK δ xM_Y xM_L xY0 149 (.inl (xe_stI 6)) := xo_istore (δ := δ) (Y := xY0) (k := 149) (pc := 291) rfl rfl (i := 6) (by decide +kernel) (by decide)
set_option maxRecDepth 20000 in
theorem xq0_150 (δ : xe_Dy) : xe_OK δ xM_Y xM_L xY0 150 (.inl (xe_ldA 2)) := xo_aload_n (δ := δ) (Y := xY0) (k := 150) (pc := 293) rfl rfl (q := 2) (i := 2) (by decide +kernel) rfl
set_option maxRecDepth 20000 in
theorem xq0_151 (δ : xe_Dy) : xe_OK δ xM_Y xM_L xY0 151 (.inr (.inl (129, 1, 12))) := ⟨xY129, rfl, rfl, xm129, xc_virtual (δ := δ) (Y := xY0) (Z := xY129) (k := 151) (pc := 294) (index := 84) (ci := 11) (na := 0) (z := 129) (nest := none) rfl rfl (by decide +kernel) rfl (xg_w 1430 (by decide +kernel)) (xg_w 1431 (by decide +kernel)) (xg_w 1432 (by decide +kernel)) xm129.1 ⟨by decide, by decide⟩ rfl⟩
set_option maxRecDepth 20000 in
theorem xq0_152 (δ : xe_Dy) : xe_OK δ xM_Y xM_L xY0 152 (.inl (xe_ldI 5)) := xo_iload (δ := δ) (Y := xY0) (k := 152) (pc := 297) rfl rfl (i := 5) (by decide +kernel)
set_option maxRecDepth 20000 in
theorem xq0_153 (δ : xe_Dy) : xe_OK δ xM_Y xM_L xY0 153 (.inl (xe_iceq 156)) := xo_iceq (δ := δ) (Y := xY0) (k := 153) (pc := 299) rfl rfl (b := 156) (tgt := 304) (off := 5) rfl (by decide +kernel) (by decide)
set_option maxRecDepth 20000 in
theorem xq0_154 (δ : xe_Dy) : xe_OK δ xM_Y xM_L xY0 154 (.inl (xe_push (.int (0)))) := xo_iconst (δ := δ) (Y := xY0) (k := 154) (pc := 302) rfl rfl (n := 0) (by decide +kernel) (by decide)
set_option maxRecDepth 20000 in
theorem xq0_155 (δ : xe_Dy) : xe_OK δ xM_Y xM_L xY0 155 (.inr (.inr 3)) := ⟨rfl, (by decide +kernel)⟩
set_option maxRecDepth 20000 in
theorem xq0_156 (δ : xe_Dy) : xe_OK δ xM_Y xM_L xY0 156 (.inl (xe_ldI 5)) := xo_iload (δ := δ) (Y := xY0) (k := 156) (pc := 304) rfl rfl (i := 5) (by decide +kernel)
set_option maxRecDepth 20000 in
theorem xq0_157 (δ : xe_Dy) : xe_OK δ xM_Y xM_L xY0 157 (.inl (xe_ifne 167)) := xo_ifne (δ := δ) (Y := xY0) (k := 157) (pc := 306) rfl rfl (b := 167) (tgt := 321) (off := 15) rfl (by decide +kernel) (by decide)
set_option maxRecDepth 20000 in
theorem xq0_158 (δ : xe_Dy) : xe_OK δ xM_Y xM_L xY0 158 (.inl (xe_ldA 3)) := xo_aload_n (δ := δ) (Y := xY0) (k := 158) (pc := 309) rfl rfl (q := 3) (i := 3) (by decide +kernel) rfl
set_option maxRecDepth 20000 in
theorem xq0_159 (δ : xe_Dy) : xe_OK δ xM_Y xM_L xY0 159 (.inl (xe_push (.int (0)))) := xo_iconst (δ := δ) (Y := xY0) (k := 159) (pc := 310) rfl rfl (n := 0) (by decide +kernel) (by decide)
set_option maxRecDepth 20000 in
theorem xq0_160 (δ : xe_Dy) : xe_OK δ xM_Y xM_L xY0 160 (.inl xe_aldL) := xo_laload (δ := δ) (Y := xY0) (k := 160) (pc := 311) rfl rfl rfl (by decide +kernel)
set_option maxRecDepth 20000 in
theorem xq0_161 (δ : xe_Dy) : xe_OK δ xM_Y xM_L xY0 161 (.inl (xe_ldI 6)) := xo_iload (δ := δ) (Y := xY0) (k := 161) (pc := 312) rfl rfl (i := 6) (by decide +kernel)
set_option maxRecDepth 20000 in
theorem xq0_162 (δ : xe_Dy) : xe_OK δ xM_Y xM_L xY0 162 (.inl xe_i2l) := xo_i2l (δ := δ) (Y := xY0) (k := 162) (pc := 314) rfl rfl (by decide +kernel)
set_option maxRecDepth 20000 in
theorem xq0_163 (δ : xe_Dy) : xe_OK δ xM_Y xM_L xY0 163 (.inl xe_lcmp) := xo_lcmp (δ := δ) (Y := xY0) (k := 163) (pc := 315) rfl rfl (by decide +kernel)
set_option maxRecDepth 20000 in
theorem xq0_164 (δ : xe_Dy) : xe_OK δ xM_Y xM_L xY0 164 (.inl (xe_ifeq 167)) := xo_ifeq (δ := δ) (Y := xY0) (k := 164) (pc := 316) rfl rfl (b := 167) (tgt := 321) (off := 5) rfl (by decide +kernel) (by decide)
set_option maxRecDepth 20000 in
theorem xq0_165 (δ : xe_Dy) : xe_OK δ xM_Y xM_L xY0 165 (.inl (xe_push (.int (0)))) := xo_iconst (δ := δ) (Y := xY0) (k := 165) (pc := 319) rfl rfl (n := 0) (by decide +kernel) (by decide)
set_option maxRecDepth 20000 in
theorem xq0_166 (δ : xe_Dy) : xe_OK δ xM_Y xM_L xY0 166 (.inr (.inr 3)) := ⟨rfl, (by decide +kernel)⟩
set_option maxRecDepth 20000 in
theorem xq0_167 (δ : xe_Dy) : xe_OK δ xM_Y xM_L xY0 167 (.inl (xe_goto 541)) := xo_goto (δ := δ) (Y := xY0) (k := 167) (pc := 321) rfl (b := 541) (tgt := 908) (off := 587) rfl (by decide +kernel) (by decide)
set_option maxRecDepth 20000 in
theorem xq0_168 (δ : xe_Dy) : xe_OK δ xM_Y xM_L xY0 168 (.inl (xe_ldA 1)) := xo_aload_n (δ := δ) (Y := xY0) (k := 168) (pc := 324) rfl rfl (q := 1) (i := 1) (by decide +kernel) rfl
set_option maxRecDepth 20000 in
theorem xq0_169 (δ : xe_Dy) : xe_OK δ xM_Y xM_L xY0 169 (.inl (xe_ldA 0)) := xo_aload_n (δ := δ) (Y := xY0) (k := 169) (pc := 325) rfl rfl (q := 0) (i := 0) (by decide +kernel) rfl
set_option maxRecDepth 20000 in
theorem xq0_170 (δ : xe_Dy) : xe_OK δ xM_Y xM_L xY0 170 (.inl (xe_ldI 4)) := xo_iload (δ := δ) (Y := xY0) (k := 170) (pc := 326) rfl rfl (i := 4) (by decide +kernel)
set_option maxRecDepth 20000 in
theorem xq0_171 (δ : xe_Dy) : xe_OK δ xM_Y xM_L xY0 171 (.inl (xe_push (.int (1)))) := xo_iconst (δ := δ) (Y := xY0) (k := 171) (pc := 328) rfl rfl (n := 1) (by decide +kernel) (by decide)
set_option maxRecDepth 20000 in
theorem xq0_172 (δ : xe_Dy) : xe_OK δ xM_Y xM_L xY0 172 (.inl (xe_i2 (fun x y => x + y))) := xo_iadd (δ := δ) (Y := xY0) (k := 172) (pc := 329) rfl rfl (by decide +kernel)
set_option maxRecDepth 20000 in
theorem xq0_173 (δ : xe_Dy) : xe_OK δ xM_Y xM_L xY0 173 (.inl (xe_sld δ)) := xo_sld (δ := δ) (Y := xY0) (k := 173) (pc := 330) rfl rfl (by decide +kernel)
set_option maxRecDepth 20000 in
theorem xq0_174 (δ : xe_Dy) : xe_OK δ xM_Y xM_L xY0 174 (.inl (xe_ldA 3)) := xo_aload_n (δ := δ) (Y := xY0) (k := 174) (pc := 331) rfl rfl (q := 3) (i := 3) (by decide +kernel) rfl
set_option maxRecDepth 20000 in
theorem xq0_175 (δ : xe_Dy) : xe_OK δ xM_Y xM_L xY0 175 (.inr (.inl (88, 3, 0))) := ⟨xY88, rfl, rfl, xm88, xc_static (δ := δ) (Y := xY0) (Z := xY88) (k := 175) (pc := 332) (index := 87) (na := 3) (z := 88) (nest := none) rfl rfl (by decide +kernel) (xg_w 979 (by decide +kernel)) (xg_w 980 (by decide +kernel)) xm88.2.1 xm88.1 ⟨by decide, by decide⟩ rfl⟩
set_option maxRecDepth 20000 in
theorem xq0_176 (δ : xe_Dy) : xe_OK δ xM_Y xM_L xY0 176 (.inl (xe_stI 5)) := xo_istore (δ := δ) (Y := xY0) (k := 176) (pc := 335) rfl rfl (i := 5) (by decide +kernel) (by decide)
set_option maxRecDepth 20000 in
theorem xq0_177 (δ : xe_Dy) : xe_OK δ xM_Y xM_L xY0 177 (.inl (xe_ldA 2)) := xo_aload_n (δ := δ) (Y := xY0) (k := 177) (pc := 337) rfl rfl (q := 2) (i := 2) (by decide +kernel) rfl
set_option maxRecDepth 20000 in
theorem xq0_178 (δ : xe_Dy) : xe_OK δ xM_Y xM_L xY0 178 (.inl (xe_ldA 0)) := xo_aload_n (δ := δ) (Y := xY0) (k := 178) (pc := 338) rfl rfl (q := 0) (i := 0) (by decide +kernel) rfl
set_option maxRecDepth 20000 in
theorem xq0_179 (δ : xe_Dy) : xe_OK δ xM_Y xM_L xY0 179 (.inl (xe_ldI 4)) := xo_iload (δ := δ) (Y := xY0) (k := 179) (pc := 339) rfl rfl (i := 4) (by decide +kernel)
set_option maxRecDepth 20000 in
theorem xq0_180 (δ : xe_Dy) : xe_OK δ xM_Y xM_L xY0 180 (.inl (xe_push (.int (1)))) := xo_iconst (δ := δ) (Y := xY0) (k := 180) (pc := 341) rfl rfl (n := 1) (by decide +kernel) (by decide)
set_option maxRecDepth 20000 in
theorem xq0_181 (δ : xe_Dy) : xe_OK δ xM_Y xM_L xY0 181 (.inl (xe_i2 (fun x y => x + y))) := xo_iadd (δ := δ) (Y := xY0) (k := 181) (pc := 342) rfl rfl (by decide +kernel)
set_option maxRecDepth 20000 in
theorem xq0_182 (δ : xe_Dy) : xe_OK δ xM_Y xM_L xY0 182 (.inl (xe_sld δ)) := xo_sld (δ := δ) (Y := xY0) (k := 182) (pc := 343) rfl rfl (by decide +kernel)
set_option maxRecDepth 20000 in
theorem xq0_183 (δ : xe_Dy) : xe_OK δ xM_Y xM_L xY0 183 (.inr (.inl (181, 2, 12))) := ⟨xY181, rfl, rfl, xm181, xc_virtual (δ := δ) (Y := xY0) (Z := xY181) (k := 183) (pc := 344) (index := 90) (ci := 11) (na := 1) (z := 181) (nest := none) rfl rfl (by decide +kernel) rfl (xg_w 1645 (by decide +kernel)) (xg_w 1646 (by decide +kernel)) (xg_w 1647 (by decide +kernel)) xm181.1 ⟨by decide, by decide⟩ rfl⟩
set_option maxRecDepth 20000 in
theorem xq0_184 (δ : xe_Dy) : xe_OK δ xM_Y xM_L xY0 184 (.inl (xe_stI 6)) := xo_istore (δ := δ) (Y := xY0) (k := 184) (pc := 347) rfl rfl (i := 6) (by decide +kernel) (by decide)
set_option maxRecDepth 20000 in
theorem xq0_185 (δ : xe_Dy) : xe_OK δ xM_Y xM_L xY0 185 (.inl (xe_ldA 2)) := xo_aload_n (δ := δ) (Y := xY0) (k := 185) (pc := 349) rfl rfl (q := 2) (i := 2) (by decide +kernel) rfl
set_option maxRecDepth 20000 in
theorem xq0_186 (δ : xe_Dy) : xe_OK δ xM_Y xM_L xY0 186 (.inr (.inl (129, 1, 12))) := ⟨xY129, rfl, rfl, xm129, xc_virtual (δ := δ) (Y := xY0) (Z := xY129) (k := 186) (pc := 350) (index := 84) (ci := 11) (na := 0) (z := 129) (nest := none) rfl rfl (by decide +kernel) rfl (xg_w 1430 (by decide +kernel)) (xg_w 1431 (by decide +kernel)) (xg_w 1432 (by decide +kernel)) xm129.1 ⟨by decide, by decide⟩ rfl⟩
set_option maxRecDepth 20000 in
theorem xq0_187 (δ : xe_Dy) : xe_OK δ xM_Y xM_L xY0 187 (.inl (xe_ldI 5)) := xo_iload (δ := δ) (Y := xY0) (k := 187) (pc := 353) rfl rfl (i := 5) (by decide +kernel)
set_option maxRecDepth 20000 in
theorem xq0_188 (δ : xe_Dy) : xe_OK δ xM_Y xM_L xY0 188 (.inl (xe_iceq 191)) := xo_iceq (δ := δ) (Y := xY0) (k := 188) (pc := 355) rfl rfl (b := 191) (tgt := 360) (off := 5) rfl (by decide +kernel) (by decide)
set_option maxRecDepth 20000 in
theorem xq0_189 (δ : xe_Dy) : xe_OK δ xM_Y xM_L xY0 189 (.inl (xe_push (.int (0)))) := xo_iconst (δ := δ) (Y := xY0) (k := 189) (pc := 358) rfl rfl (n := 0) (by decide +kernel) (by decide)
set_option maxRecDepth 20000 in
theorem xq0_190 (δ : xe_Dy) : xe_OK δ xM_Y xM_L xY0 190 (.inr (.inr 3)) := ⟨rfl, (by decide +kernel)⟩
set_option maxRecDepth 20000 in
theorem xq0_191 (δ : xe_Dy) : xe_OK δ xM_Y xM_L xY0 191 (.inl (xe_ldI 5)) := xo_iload (δ := δ) (Y := xY0) (k := 191) (pc := 360) rfl rfl (i := 5) (by decide +kernel)
set_option maxRecDepth 20000 in
theorem xq0_192 (δ : xe_Dy) : xe_OK δ xM_Y xM_L xY0 192 (.inl (xe_ifne 202)) := xo_ifne (δ := δ) (Y := xY0) (k := 192) (pc := 362) rfl rfl (b := 202) (tgt := 377) (off := 15) rfl (by decide +kernel) (by decide)
set_option maxRecDepth 20000 in
theorem xq0_193 (δ : xe_Dy) : xe_OK δ xM_Y xM_L xY0 193 (.inl (xe_ldA 3)) := xo_aload_n (δ := δ) (Y := xY0) (k := 193) (pc := 365) rfl rfl (q := 3) (i := 3) (by decide +kernel) rfl
set_option maxRecDepth 20000 in
theorem xq0_194 (δ : xe_Dy) : xe_OK δ xM_Y xM_L xY0 194 (.inl (xe_push (.int (0)))) := xo_iconst (δ := δ) (Y := xY0) (k := 194) (pc := 366) rfl rfl (n := 0) (by decide +kernel) (by decide)
set_option maxRecDepth 20000 in
theorem xq0_195 (δ : xe_Dy) : xe_OK δ xM_Y xM_L xY0 195 (.inl xe_aldL) := xo_laload (δ := δ) (Y := xY0) (k := 195) (pc := 367) rfl rfl rfl (by decide +kernel)
set_option maxRecDepth 20000 in
theorem xq0_196 (δ : xe_Dy) : xe_OK δ xM_Y xM_L xY0 196 (.inl (xe_ldI 6)) := xo_iload (δ := δ) (Y := xY0) (k := 196) (pc := 368) rfl rfl (i := 6) (by decide +kernel)
set_option maxRecDepth 20000 in
theorem xq0_197 (δ : xe_Dy) : xe_OK δ xM_Y xM_L xY0 197 (.inl xe_i2l) := xo_i2l (δ := δ) (Y := xY0) (k := 197) (pc := 370) rfl rfl (by decide +kernel)
set_option maxRecDepth 20000 in
theorem xq0_198 (δ : xe_Dy) : xe_OK δ xM_Y xM_L xY0 198 (.inl xe_lcmp) := xo_lcmp (δ := δ) (Y := xY0) (k := 198) (pc := 371) rfl rfl (by decide +kernel)
set_option maxRecDepth 20000 in
theorem xq0_199 (δ : xe_Dy) : xe_OK δ xM_Y xM_L xY0 199 (.inl (xe_ifeq 202)) := xo_ifeq (δ := δ) (Y := xY0) (k := 199) (pc := 372) rfl rfl (b := 202) (tgt := 377) (off := 5) rfl (by decide +kernel) (by decide)
set_option maxRecDepth 20000 in
theorem xq0_200 (δ : xe_Dy) : xe_OK δ xM_Y xM_L xY0 200 (.inl (xe_push (.int (0)))) := xo_iconst (δ := δ) (Y := xY0) (k := 200) (pc := 375) rfl rfl (n := 0) (by decide +kernel) (by decide)
set_option maxRecDepth 20000 in
theorem xq0_201 (δ : xe_Dy) : xe_OK δ xM_Y xM_L xY0 201 (.inr (.inr 3)) := ⟨rfl, (by decide +kernel)⟩
set_option maxRecDepth 20000 in
theorem xq0_202 (δ : xe_Dy) : xe_OK δ xM_Y xM_L xY0 202 (.inl (xe_goto 541)) := xo_goto (δ := δ) (Y := xY0) (k := 202) (pc := 377) rfl (b := 541) (tgt := 908) (off := 531) rfl (by decide +kernel) (by decide)
set_option maxRecDepth 20000 in
theorem xq0_203 (δ : xe_Dy) : xe_OK δ xM_Y xM_L xY0 203 (.inl (xe_ldA 1)) := xo_aload_n (δ := δ) (Y := xY0) (k := 203) (pc := 380) rfl rfl (q := 1) (i := 1) (by decide +kernel) rfl
set_option maxRecDepth 20000 in
theorem xq0_204 (δ : xe_Dy) : xe_OK δ xM_Y xM_L xY0 204 (.inl (xe_ldA 0)) := xo_aload_n (δ := δ) (Y := xY0) (k := 204) (pc := 381) rfl rfl (q := 0) (i := 0) (by decide +kernel) rfl
set_option maxRecDepth 20000 in
theorem xq0_205 (δ : xe_Dy) : xe_OK δ xM_Y xM_L xY0 205 (.inl (xe_ldI 4)) := xo_iload (δ := δ) (Y := xY0) (k := 205) (pc := 382) rfl rfl (i := 4) (by decide +kernel)
set_option maxRecDepth 20000 in
theorem xq0_206 (δ : xe_Dy) : xe_OK δ xM_Y xM_L xY0 206 (.inl (xe_push (.int (1)))) := xo_iconst (δ := δ) (Y := xY0) (k := 206) (pc := 384) rfl rfl (n := 1) (by decide +kernel) (by decide)
set_option maxRecDepth 20000 in
theorem xq0_207 (δ : xe_Dy) : xe_OK δ xM_Y xM_L xY0 207 (.inl (xe_i2 (fun x y => x + y))) := xo_iadd (δ := δ) (Y := xY0) (k := 207) (pc := 385) rfl rfl (by decide +kernel)
set_option maxRecDepth 20000 in
theorem xq0_208 (δ : xe_Dy) : xe_OK δ xM_Y xM_L xY0 208 (.inl (xe_sld δ)) := xo_sld (δ := δ) (Y := xY0) (k := 208) (pc := 386) rfl rfl (by decide +kernel)
set_option maxRecDepth 20000 in
theorem xq0_209 (δ : xe_Dy) : xe_OK δ xM_Y xM_L xY0 209 (.inl (xe_ldA 3)) := xo_aload_n (δ := δ) (Y := xY0) (k := 209) (pc := 387) rfl rfl (q := 3) (i := 3) (by decide +kernel) rfl
set_option maxRecDepth 20000 in
theorem xq0_210 (δ : xe_Dy) : xe_OK δ xM_Y xM_L xY0 210 (.inr (.inl (91, 3, 0))) := ⟨xY91, rfl, rfl, xm91, xc_static (δ := δ) (Y := xY0) (Z := xY91) (k := 210) (pc := 388) (index := 91) (na := 3) (z := 91) (nest := none) rfl rfl (by decide +kernel) (xg_w 990 (by decide +kernel)) (xg_w 991 (by decide +kernel)) xm91.2.1 xm91.1 ⟨by decide, by decide⟩ rfl⟩
set_option maxRecDepth 20000 in
theorem xq0_211 (δ : xe_Dy) : xe_OK δ xM_Y xM_L xY0 211 (.inl (xe_stI 5)) := xo_istore (δ := δ) (Y := xY0) (k := 211) (pc := 391) rfl rfl (i := 5) (by decide +kernel) (by decide)
set_option maxRecDepth 20000 in
theorem xq0_212 (δ : xe_Dy) : xe_OK δ xM_Y xM_L xY0 212 (.inl (xe_ldA 2)) := xo_aload_n (δ := δ) (Y := xY0) (k := 212) (pc := 393) rfl rfl (q := 2) (i := 2) (by decide +kernel) rfl
set_option maxRecDepth 20000 in
theorem xq0_213 (δ : xe_Dy) : xe_OK δ xM_Y xM_L xY0 213 (.inl (xe_ldA 0)) := xo_aload_n (δ := δ) (Y := xY0) (k := 213) (pc := 394) rfl rfl (q := 0) (i := 0) (by decide +kernel) rfl
set_option maxRecDepth 20000 in
theorem xq0_214 (δ : xe_Dy) : xe_OK δ xM_Y xM_L xY0 214 (.inl (xe_ldI 4)) := xo_iload (δ := δ) (Y := xY0) (k := 214) (pc := 395) rfl rfl (i := 4) (by decide +kernel)
set_option maxRecDepth 20000 in
theorem xq0_215 (δ : xe_Dy) : xe_OK δ xM_Y xM_L xY0 215 (.inl (xe_push (.int (1)))) := xo_iconst (δ := δ) (Y := xY0) (k := 215) (pc := 397) rfl rfl (n := 1) (by decide +kernel) (by decide)
set_option maxRecDepth 20000 in
theorem xq0_216 (δ : xe_Dy) : xe_OK δ xM_Y xM_L xY0 216 (.inl (xe_i2 (fun x y => x + y))) := xo_iadd (δ := δ) (Y := xY0) (k := 216) (pc := 398) rfl rfl (by decide +kernel)
set_option maxRecDepth 20000 in
theorem xq0_217 (δ : xe_Dy) : xe_OK δ xM_Y xM_L xY0 217 (.inl (xe_sld δ)) := xo_sld (δ := δ) (Y := xY0) (k := 217) (pc := 399) rfl rfl (by decide +kernel)
set_option maxRecDepth 20000 in
theorem xq0_218 (δ : xe_Dy) : xe_OK δ xM_Y xM_L xY0 218 (.inr (.inl (182, 2, 12))) := ⟨xY182, rfl, rfl, xm182, xc_virtual (δ := δ) (Y := xY0) (Z := xY182) (k := 218) (pc := 400) (index := 93) (ci := 11) (na := 1) (z := 182) (nest := none) rfl rfl (by decide +kernel) rfl (xg_w 1649 (by decide +kernel)) (xg_w 1650 (by decide +kernel)) (xg_w 1651 (by decide +kernel)) xm182.1 ⟨by decide, by decide⟩ rfl⟩
set_option maxRecDepth 20000 in
theorem xq0_219 (δ : xe_Dy) : xe_OK δ xM_Y xM_L xY0 219 (.inl (xe_stI 6)) := xo_istore (δ := δ) (Y := xY0) (k := 219) (pc := 403) rfl rfl (i := 6) (by decide +kernel) (by decide)
set_option maxRecDepth 20000 in
theorem xq0_220 (δ : xe_Dy) : xe_OK δ xM_Y xM_L xY0 220 (.inl (xe_ldA 2)) := xo_aload_n (δ := δ) (Y := xY0) (k := 220) (pc := 405) rfl rfl (q := 2) (i := 2) (by decide +kernel) rfl
set_option maxRecDepth 20000 in
theorem xq0_221 (δ : xe_Dy) : xe_OK δ xM_Y xM_L xY0 221 (.inr (.inl (129, 1, 12))) := ⟨xY129, rfl, rfl, xm129, xc_virtual (δ := δ) (Y := xY0) (Z := xY129) (k := 221) (pc := 406) (index := 84) (ci := 11) (na := 0) (z := 129) (nest := none) rfl rfl (by decide +kernel) rfl (xg_w 1430 (by decide +kernel)) (xg_w 1431 (by decide +kernel)) (xg_w 1432 (by decide +kernel)) xm129.1 ⟨by decide, by decide⟩ rfl⟩
set_option maxRecDepth 20000 in
theorem xq0_222 (δ : xe_Dy) : xe_OK δ xM_Y xM_L xY0 222 (.inl (xe_ldI 5)) := xo_iload (δ := δ) (Y := xY0) (k := 222) (pc := 409) rfl rfl (i := 5) (by decide +kernel)
set_option maxRecDepth 20000 in
theorem xq0_223 (δ : xe_Dy) : xe_OK δ xM_Y xM_L xY0 223 (.inl (xe_iceq 226)) := xo_iceq (δ := δ) (Y := xY0) (k := 223) (pc := 411) rfl rfl (b := 226) (tgt := 416) (off := 5) rfl (by decide +kernel) (by decide)
set_option maxRecDepth 20000 in
theorem xq0_224 (δ : xe_Dy) : xe_OK δ xM_Y xM_L xY0 224 (.inl (xe_push (.int (0)))) := xo_iconst (δ := δ) (Y := xY0) (k := 224) (pc := 414) rfl rfl (n := 0) (by decide +kernel) (by decide)
set_option maxRecDepth 20000 in
theorem xq0_225 (δ : xe_Dy) : xe_OK δ xM_Y xM_L xY0 225 (.inr (.inr 3)) := ⟨rfl, (by decide +kernel)⟩
set_option maxRecDepth 20000 in
theorem xq0_226 (δ : xe_Dy) : xe_OK δ xM_Y xM_L xY0 226 (.inl (xe_ldI 5)) := xo_iload (δ := δ) (Y := xY0) (k := 226) (pc := 416) rfl rfl (i := 5) (by decide +kernel)
set_option maxRecDepth 20000 in
theorem xq0_227 (δ : xe_Dy) : xe_OK δ xM_Y xM_L xY0 227 (.inl (xe_ifne 237)) := xo_ifne (δ := δ) (Y := xY0) (k := 227) (pc := 418) rfl rfl (b := 237) (tgt := 433) (off := 15) rfl (by decide +kernel) (by decide)
set_option maxRecDepth 20000 in
theorem xq0_228 (δ : xe_Dy) : xe_OK δ xM_Y xM_L xY0 228 (.inl (xe_ldA 3)) := xo_aload_n (δ := δ) (Y := xY0) (k := 228) (pc := 421) rfl rfl (q := 3) (i := 3) (by decide +kernel) rfl
set_option maxRecDepth 20000 in
theorem xq0_229 (δ : xe_Dy) : xe_OK δ xM_Y xM_L xY0 229 (.inl (xe_push (.int (0)))) := xo_iconst (δ := δ) (Y := xY0) (k := 229) (pc := 422) rfl rfl (n := 0) (by decide +kernel) (by decide)
set_option maxRecDepth 20000 in
theorem xq0_230 (δ : xe_Dy) : xe_OK δ xM_Y xM_L xY0 230 (.inl xe_aldL) := xo_laload (δ := δ) (Y := xY0) (k := 230) (pc := 423) rfl rfl rfl (by decide +kernel)
set_option maxRecDepth 20000 in
theorem xq0_231 (δ : xe_Dy) : xe_OK δ xM_Y xM_L xY0 231 (.inl (xe_ldI 6)) := xo_iload (δ := δ) (Y := xY0) (k := 231) (pc := 424) rfl rfl (i := 6) (by decide +kernel)
set_option maxRecDepth 20000 in
theorem xq0_232 (δ : xe_Dy) : xe_OK δ xM_Y xM_L xY0 232 (.inl xe_i2l) := xo_i2l (δ := δ) (Y := xY0) (k := 232) (pc := 426) rfl rfl (by decide +kernel)
set_option maxRecDepth 20000 in
theorem xq0_233 (δ : xe_Dy) : xe_OK δ xM_Y xM_L xY0 233 (.inl xe_lcmp) := xo_lcmp (δ := δ) (Y := xY0) (k := 233) (pc := 427) rfl rfl (by decide +kernel)
set_option maxRecDepth 20000 in
theorem xq0_234 (δ : xe_Dy) : xe_OK δ xM_Y xM_L xY0 234 (.inl (xe_ifeq 237)) := xo_ifeq (δ := δ) (Y := xY0) (k := 234) (pc := 428) rfl rfl (b := 237) (tgt := 433) (off := 5) rfl (by decide +kernel) (by decide)
set_option maxRecDepth 20000 in
theorem xq0_235 (δ : xe_Dy) : xe_OK δ xM_Y xM_L xY0 235 (.inl (xe_push (.int (0)))) := xo_iconst (δ := δ) (Y := xY0) (k := 235) (pc := 431) rfl rfl (n := 0) (by decide +kernel) (by decide)
set_option maxRecDepth 20000 in
theorem xq0_236 (δ : xe_Dy) : xe_OK δ xM_Y xM_L xY0 236 (.inr (.inr 3)) := ⟨rfl, (by decide +kernel)⟩
set_option maxRecDepth 20000 in
theorem xq0_237 (δ : xe_Dy) : xe_OK δ xM_Y xM_L xY0 237 (.inl (xe_goto 541)) := xo_goto (δ := δ) (Y := xY0) (k := 237) (pc := 433) rfl (b := 541) (tgt := 908) (off := 475) rfl (by decide +kernel) (by decide)
set_option maxRecDepth 20000 in
theorem xq0_238 (δ : xe_Dy) : xe_OK δ xM_Y xM_L xY0 238 (.inl (xe_ldA 1)) := xo_aload_n (δ := δ) (Y := xY0) (k := 238) (pc := 436) rfl rfl (q := 1) (i := 1) (by decide +kernel) rfl
set_option maxRecDepth 20000 in
theorem xq0_239 (δ : xe_Dy) : xe_OK δ xM_Y xM_L xY0 239 (.inl (xe_ldA 0)) := xo_aload_n (δ := δ) (Y := xY0) (k := 239) (pc := 437) rfl rfl (q := 0) (i := 0) (by decide +kernel) rfl
set_option maxRecDepth 20000 in
theorem xq0_240 (δ : xe_Dy) : xe_OK δ xM_Y xM_L xY0 240 (.inl (xe_ldI 4)) := xo_iload (δ := δ) (Y := xY0) (k := 240) (pc := 438) rfl rfl (i := 4) (by decide +kernel)
set_option maxRecDepth 20000 in
theorem xq0_241 (δ : xe_Dy) : xe_OK δ xM_Y xM_L xY0 241 (.inl (xe_push (.int (1)))) := xo_iconst (δ := δ) (Y := xY0) (k := 241) (pc := 440) rfl rfl (n := 1) (by decide +kernel) (by decide)
set_option maxRecDepth 20000 in
theorem xq0_242 (δ : xe_Dy) : xe_OK δ xM_Y xM_L xY0 242 (.inl (xe_i2 (fun x y => x + y))) := xo_iadd (δ := δ) (Y := xY0) (k := 242) (pc := 441) rfl rfl (by decide +kernel)
set_option maxRecDepth 20000 in
theorem xq0_243 (δ : xe_Dy) : xe_OK δ xM_Y xM_L xY0 243 (.inl (xe_sld δ)) := xo_sld (δ := δ) (Y := xY0) (k := 243) (pc := 442) rfl rfl (by decide +kernel)
set_option maxRecDepth 20000 in
theorem xq0_244 (δ : xe_Dy) : xe_OK δ xM_Y xM_L xY0 244 (.inl (xe_ldA 0)) := xo_aload_n (δ := δ) (Y := xY0) (k := 244) (pc := 443) rfl rfl (q := 0) (i := 0) (by decide +kernel) rfl
set_option maxRecDepth 20000 in
theorem xq0_245 (δ : xe_Dy) : xe_OK δ xM_Y xM_L xY0 245 (.inl (xe_ldI 4)) := xo_iload (δ := δ) (Y := xY0) (k := 245) (pc := 444) rfl rfl (i := 4) (by decide +kernel)
set_option maxRecDepth 20000 in
theorem xq0_246 (δ : xe_Dy) : xe_OK δ xM_Y xM_L xY0 246 (.inl (xe_push (.int (2)))) := xo_iconst (δ := δ) (Y := xY0) (k := 246) (pc := 446) rfl rfl (n := 2) (by decide +kernel) (by decide)
set_option maxRecDepth 20000 in
theorem xq0_247 (δ : xe_Dy) : xe_OK δ xM_Y xM_L xY0 247 (.inl (xe_i2 (fun x y => x + y))) := xo_iadd (δ := δ) (Y := xY0) (k := 247) (pc := 447) rfl rfl (by decide +kernel)
set_option maxRecDepth 20000 in
theorem xq0_248 (δ : xe_Dy) : xe_OK δ xM_Y xM_L xY0 248 (.inl (xe_sld δ)) := xo_sld (δ := δ) (Y := xY0) (k := 248) (pc := 448) rfl rfl (by decide +kernel)
set_option maxRecDepth 20000 in
theorem xq0_249 (δ : xe_Dy) : xe_OK δ xM_Y xM_L xY0 249 (.inl (xe_ldA 3)) := xo_aload_n (δ := δ) (Y := xY0) (k := 249) (pc := 449) rfl rfl (q := 3) (i := 3) (by decide +kernel) rfl
set_option maxRecDepth 20000 in
theorem xq0_250 (δ : xe_Dy) : xe_OK δ xM_Y xM_L xY0 250 (.inr (.inl (93, 4, 0))) := ⟨xY93, rfl, rfl, xm93, xc_static (δ := δ) (Y := xY0) (Z := xY93) (k := 250) (pc := 450) (index := 94) (na := 4) (z := 93) (nest := none) rfl rfl (by decide +kernel) (xg_w 997 (by decide +kernel)) (xg_w 998 (by decide +kernel)) xm93.2.1 xm93.1 ⟨by decide, by decide⟩ rfl⟩
set_option maxRecDepth 20000 in
theorem xq0_251 (δ : xe_Dy) : xe_OK δ xM_Y xM_L xY0 251 (.inl (xe_stI 5)) := xo_istore (δ := δ) (Y := xY0) (k := 251) (pc := 453) rfl rfl (i := 5) (by decide +kernel) (by decide)
set_option maxRecDepth 20000 in
theorem xq0_252 (δ : xe_Dy) : xe_OK δ xM_Y xM_L xY0 252 (.inl (xe_ldA 2)) := xo_aload_n (δ := δ) (Y := xY0) (k := 252) (pc := 455) rfl rfl (q := 2) (i := 2) (by decide +kernel) rfl
set_option maxRecDepth 20000 in
theorem xq0_253 (δ : xe_Dy) : xe_OK δ xM_Y xM_L xY0 253 (.inl (xe_ldA 0)) := xo_aload_n (δ := δ) (Y := xY0) (k := 253) (pc := 456) rfl rfl (q := 0) (i := 0) (by decide +kernel) rfl
set_option maxRecDepth 20000 in
theorem xq0_254 (δ : xe_Dy) : xe_OK δ xM_Y xM_L xY0 254 (.inl (xe_ldI 4)) := xo_iload (δ := δ) (Y := xY0) (k := 254) (pc := 457) rfl rfl (i := 4) (by decide +kernel)
set_option maxRecDepth 20000 in
theorem xq0_255 (δ : xe_Dy) : xe_OK δ xM_Y xM_L xY0 255 (.inl (xe_push (.int (1)))) := xo_iconst (δ := δ) (Y := xY0) (k := 255) (pc := 459) rfl rfl (n := 1) (by decide +kernel) (by decide)
set_option maxRecDepth 20000 in
theorem xq0_256 (δ : xe_Dy) : xe_OK δ xM_Y xM_L xY0 256 (.inl (xe_i2 (fun x y => x + y))) := xo_iadd (δ := δ) (Y := xY0) (k := 256) (pc := 460) rfl rfl (by decide +kernel)
set_option maxRecDepth 20000 in
theorem xq0_257 (δ : xe_Dy) : xe_OK δ xM_Y xM_L xY0 257 (.inl (xe_sld δ)) := xo_sld (δ := δ) (Y := xY0) (k := 257) (pc := 461) rfl rfl (by decide +kernel)
set_option maxRecDepth 20000 in
theorem xq0_258 (δ : xe_Dy) : xe_OK δ xM_Y xM_L xY0 258 (.inl (xe_ldA 0)) := xo_aload_n (δ := δ) (Y := xY0) (k := 258) (pc := 462) rfl rfl (q := 0) (i := 0) (by decide +kernel) rfl
set_option maxRecDepth 20000 in
theorem xq0_259 (δ : xe_Dy) : xe_OK δ xM_Y xM_L xY0 259 (.inl (xe_ldI 4)) := xo_iload (δ := δ) (Y := xY0) (k := 259) (pc := 463) rfl rfl (i := 4) (by decide +kernel)
set_option maxRecDepth 20000 in
theorem xq0_260 (δ : xe_Dy) : xe_OK δ xM_Y xM_L xY0 260 (.inl (xe_push (.int (2)))) := xo_iconst (δ := δ) (Y := xY0) (k := 260) (pc := 465) rfl rfl (n := 2) (by decide +kernel) (by decide)
set_option maxRecDepth 20000 in
theorem xq0_261 (δ : xe_Dy) : xe_OK δ xM_Y xM_L xY0 261 (.inl (xe_i2 (fun x y => x + y))) := xo_iadd (δ := δ) (Y := xY0) (k := 261) (pc := 466) rfl rfl (by decide +kernel)
set_option maxRecDepth 20000 in
theorem xq0_262 (δ : xe_Dy) : xe_OK δ xM_Y xM_L xY0 262 (.inl (xe_sld δ)) := xo_sld (δ := δ) (Y := xY0) (k := 262) (pc := 467) rfl rfl (by decide +kernel)
set_option maxRecDepth 20000 in
theorem xq0_263 (δ : xe_Dy) : xe_OK δ xM_Y xM_L xY0 263 (.inr (.inl (183, 3, 12))) := ⟨xY183, rfl, rfl, xm183, xc_virtual (δ := δ) (Y := xY0) (Z := xY183) (k := 263) (pc := 468) (index := 96) (ci := 11) (na := 2) (z := 183) (nest := none) rfl rfl (by decide +kernel) rfl (xg_w 1653 (by decide +kernel)) (xg_w 1654 (by decide +kernel)) (xg_w 1655 (by decide +kernel)) xm183.1 ⟨by decide, by decide⟩ rfl⟩
set_option maxRecDepth 20000 in
theorem xq0_264 (δ : xe_Dy) : xe_OK δ xM_Y xM_L xY0 264 (.inl (xe_stI 6)) := xo_istore (δ := δ) (Y := xY0) (k := 264) (pc := 471) rfl rfl (i := 6) (by decide +kernel) (by decide)
set_option maxRecDepth 20000 in
theorem xq0_265 (δ : xe_Dy) : xe_OK δ xM_Y xM_L xY0 265 (.inl (xe_ldA 2)) := xo_aload_n (δ := δ) (Y := xY0) (k := 265) (pc := 473) rfl rfl (q := 2) (i := 2) (by decide +kernel) rfl
set_option maxRecDepth 20000 in
theorem xq0_266 (δ : xe_Dy) : xe_OK δ xM_Y xM_L xY0 266 (.inr (.inl (129, 1, 12))) := ⟨xY129, rfl, rfl, xm129, xc_virtual (δ := δ) (Y := xY0) (Z := xY129) (k := 266) (pc := 474) (index := 84) (ci := 11) (na := 0) (z := 129) (nest := none) rfl rfl (by decide +kernel) rfl (xg_w 1430 (by decide +kernel)) (xg_w 1431 (by decide +kernel)) (xg_w 1432 (by decide +kernel)) xm129.1 ⟨by decide, by decide⟩ rfl⟩
set_option maxRecDepth 20000 in
theorem xq0_267 (δ : xe_Dy) : xe_OK δ xM_Y xM_L xY0 267 (.inl (xe_ldI 5)) := xo_iload (δ := δ) (Y := xY0) (k := 267) (pc := 477) rfl rfl (i := 5) (by decide +kernel)
set_option maxRecDepth 20000 in
theorem xq0_268 (δ : xe_Dy) : xe_OK δ xM_Y xM_L xY0 268 (.inl (xe_iceq 271)) := xo_iceq (δ := δ) (Y := xY0) (k := 268) (pc := 479) rfl rfl (b := 271) (tgt := 484) (off := 5) rfl (by decide +kernel) (by decide)
set_option maxRecDepth 20000 in
theorem xq0_269 (δ : xe_Dy) : xe_OK δ xM_Y xM_L xY0 269 (.inl (xe_push (.int (0)))) := xo_iconst (δ := δ) (Y := xY0) (k := 269) (pc := 482) rfl rfl (n := 0) (by decide +kernel) (by decide)
set_option maxRecDepth 20000 in
theorem xq0_270 (δ : xe_Dy) : xe_OK δ xM_Y xM_L xY0 270 (.inr (.inr 3)) := ⟨rfl, (by decide +kernel)⟩
set_option maxRecDepth 20000 in
theorem xq0_271 (δ : xe_Dy) : xe_OK δ xM_Y xM_L xY0 271 (.inl (xe_ldI 5)) := xo_iload (δ := δ) (Y := xY0) (k := 271) (pc := 484) rfl rfl (i := 5) (by decide +kernel)
set_option maxRecDepth 20000 in
theorem xq0_272 (δ : xe_Dy) : xe_OK δ xM_Y xM_L xY0 272 (.inl (xe_ifne 282)) := xo_ifne (δ := δ) (Y := xY0) (k := 272) (pc := 486) rfl rfl (b := 282) (tgt := 501) (off := 15) rfl (by decide +kernel) (by decide)
set_option maxRecDepth 20000 in
theorem xq0_273 (δ : xe_Dy) : xe_OK δ xM_Y xM_L xY0 273 (.inl (xe_ldA 3)) := xo_aload_n (δ := δ) (Y := xY0) (k := 273) (pc := 489) rfl rfl (q := 3) (i := 3) (by decide +kernel) rfl
set_option maxRecDepth 20000 in
theorem xq0_274 (δ : xe_Dy) : xe_OK δ xM_Y xM_L xY0 274 (.inl (xe_push (.int (0)))) := xo_iconst (δ := δ) (Y := xY0) (k := 274) (pc := 490) rfl rfl (n := 0) (by decide +kernel) (by decide)
set_option maxRecDepth 20000 in
theorem xq0_275 (δ : xe_Dy) : xe_OK δ xM_Y xM_L xY0 275 (.inl xe_aldL) := xo_laload (δ := δ) (Y := xY0) (k := 275) (pc := 491) rfl rfl rfl (by decide +kernel)
set_option maxRecDepth 20000 in
theorem xq0_276 (δ : xe_Dy) : xe_OK δ xM_Y xM_L xY0 276 (.inl (xe_ldI 6)) := xo_iload (δ := δ) (Y := xY0) (k := 276) (pc := 492) rfl rfl (i := 6) (by decide +kernel)
set_option maxRecDepth 20000 in
theorem xq0_277 (δ : xe_Dy) : xe_OK δ xM_Y xM_L xY0 277 (.inl xe_i2l) := xo_i2l (δ := δ) (Y := xY0) (k := 277) (pc := 494) rfl rfl (by decide +kernel)
set_option maxRecDepth 20000 in
theorem xq0_278 (δ : xe_Dy) : xe_OK δ xM_Y xM_L xY0 278 (.inl xe_lcmp) := xo_lcmp (δ := δ) (Y := xY0) (k := 278) (pc := 495) rfl rfl (by decide +kernel)
set_option maxRecDepth 20000 in
theorem xq0_279 (δ : xe_Dy) : xe_OK δ xM_Y xM_L xY0 279 (.inl (xe_ifeq 282)) := xo_ifeq (δ := δ) (Y := xY0) (k := 279) (pc := 496) rfl rfl (b := 282) (tgt := 501) (off := 5) rfl (by decide +kernel) (by decide)
set_option maxRecDepth 20000 in
theorem xq0_280 (δ : xe_Dy) : xe_OK δ xM_Y xM_L xY0 280 (.inl (xe_push (.int (0)))) := xo_iconst (δ := δ) (Y := xY0) (k := 280) (pc := 499) rfl rfl (n := 0) (by decide +kernel) (by decide)
set_option maxRecDepth 20000 in
theorem xq0_281 (δ : xe_Dy) : xe_OK δ xM_Y xM_L xY0 281 (.inr (.inr 3)) := ⟨rfl, (by decide +kernel)⟩
set_option maxRecDepth 20000 in
theorem xq0_282 (δ : xe_Dy) : xe_OK δ xM_Y xM_L xY0 282 (.inl (xe_goto 541)) := xo_goto (δ := δ) (Y := xY0) (k := 282) (pc := 501) rfl (b := 541) (tgt := 908) (off := 407) rfl (by decide +kernel) (by decide)
set_option maxRecDepth 20000 in
theorem xq0_283 (δ : xe_Dy) : xe_OK δ xM_Y xM_L xY0 283 (.inl (xe_ldA 1)) := xo_aload_n (δ := δ) (Y := xY0) (k := 283) (pc := 504) rfl rfl (q := 1) (i := 1) (by decide +kernel) rfl
set_option maxRecDepth 20000 in
theorem xq0_284 (δ : xe_Dy) : xe_OK δ xM_Y xM_L xY0 284 (.inl (xe_ldA 0)) := xo_aload_n (δ := δ) (Y := xY0) (k := 284) (pc := 505) rfl rfl (q := 0) (i := 0) (by decide +kernel) rfl
set_option maxRecDepth 20000 in
theorem xq0_285 (δ : xe_Dy) : xe_OK δ xM_Y xM_L xY0 285 (.inl (xe_ldI 4)) := xo_iload (δ := δ) (Y := xY0) (k := 285) (pc := 506) rfl rfl (i := 4) (by decide +kernel)
set_option maxRecDepth 20000 in
theorem xq0_286 (δ : xe_Dy) : xe_OK δ xM_Y xM_L xY0 286 (.inl (xe_push (.int (1)))) := xo_iconst (δ := δ) (Y := xY0) (k := 286) (pc := 508) rfl rfl (n := 1) (by decide +kernel) (by decide)
set_option maxRecDepth 20000 in
theorem xq0_287 (δ : xe_Dy) : xe_OK δ xM_Y xM_L xY0 287 (.inl (xe_i2 (fun x y => x + y))) := xo_iadd (δ := δ) (Y := xY0) (k := 287) (pc := 509) rfl rfl (by decide +kernel)
set_option maxRecDepth 20000 in
theorem xq0_288 (δ : xe_Dy) : xe_OK δ xM_Y xM_L xY0 288 (.inl (xe_sld δ)) := xo_sld (δ := δ) (Y := xY0) (k := 288) (pc := 510) rfl rfl (by decide +kernel)
set_option maxRecDepth 20000 in
theorem xq0_289 (δ : xe_Dy) : xe_OK δ xM_Y xM_L xY0 289 (.inr (.inl (95, 2, 0))) := ⟨xY95, rfl, rfl, xm95, xc_static (δ := δ) (Y := xY0) (Z := xY95) (k := 289) (pc := 511) (index := 97) (na := 2) (z := 95) (nest := none) rfl rfl (by decide +kernel) (xg_w 1004 (by decide +kernel)) (xg_w 1005 (by decide +kernel)) xm95.2.1 xm95.1 ⟨by decide, by decide⟩ rfl⟩
set_option maxRecDepth 20000 in
theorem xq0_290 (δ : xe_Dy) : xe_OK δ xM_Y xM_L xY0 290 (.inl (xe_stI 5)) := xo_istore (δ := δ) (Y := xY0) (k := 290) (pc := 514) rfl rfl (i := 5) (by decide +kernel) (by decide)
set_option maxRecDepth 20000 in
theorem xq0_291 (δ : xe_Dy) : xe_OK δ xM_Y xM_L xY0 291 (.inl (xe_ldA 2)) := xo_aload_n (δ := δ) (Y := xY0) (k := 291) (pc := 516) rfl rfl (q := 2) (i := 2) (by decide +kernel) rfl
set_option maxRecDepth 20000 in
theorem xq0_292 (δ : xe_Dy) : xe_OK δ xM_Y xM_L xY0 292 (.inl (xe_ldA 0)) := xo_aload_n (δ := δ) (Y := xY0) (k := 292) (pc := 517) rfl rfl (q := 0) (i := 0) (by decide +kernel) rfl
set_option maxRecDepth 20000 in
theorem xq0_293 (δ : xe_Dy) : xe_OK δ xM_Y xM_L xY0 293 (.inl (xe_ldI 4)) := xo_iload (δ := δ) (Y := xY0) (k := 293) (pc := 518) rfl rfl (i := 4) (by decide +kernel)
set_option maxRecDepth 20000 in
theorem xq0_294 (δ : xe_Dy) : xe_OK δ xM_Y xM_L xY0 294 (.inl (xe_push (.int (1)))) := xo_iconst (δ := δ) (Y := xY0) (k := 294) (pc := 520) rfl rfl (n := 1) (by decide +kernel) (by decide)
set_option maxRecDepth 20000 in
theorem xq0_295 (δ : xe_Dy) : xe_OK δ xM_Y xM_L xY0 295 (.inl (xe_i2 (fun x y => x + y))) := xo_iadd (δ := δ) (Y := xY0) (k := 295) (pc := 521) rfl rfl (by decide +kernel)
set_option maxRecDepth 20000 in
theorem xq0_296 (δ : xe_Dy) : xe_OK δ xM_Y xM_L xY0 296 (.inl (xe_sld δ)) := xo_sld (δ := δ) (Y := xY0) (k := 296) (pc := 522) rfl rfl (by decide +kernel)
set_option maxRecDepth 20000 in
theorem xq0_297 (δ : xe_Dy) : xe_OK δ xM_Y xM_L xY0 297 (.inr (.inl (177, 2, 12))) := ⟨xY177, rfl, rfl, xm177, xc_virtual (δ := δ) (Y := xY0) (Z := xY177) (k := 297) (pc := 523) (index := 100) (ci := 11) (na := 1) (z := 177) (nest := none) rfl rfl (by decide +kernel) rfl (xg_w 1628 (by decide +kernel)) (xg_w 1629 (by decide +kernel)) (xg_w 1630 (by decide +kernel)) xm177.1 ⟨by decide, by decide⟩ rfl⟩
set_option maxRecDepth 20000 in
theorem xq0_298 (δ : xe_Dy) : xe_OK δ xM_Y xM_L xY0 298 (.inl (xe_ldA 2)) := xo_aload_n (δ := δ) (Y := xY0) (k := 298) (pc := 526) rfl rfl (q := 2) (i := 2) (by decide +kernel) rfl
set_option maxRecDepth 20000 in
theorem xq0_299 (δ : xe_Dy) : xe_OK δ xM_Y xM_L xY0 299 (.inr (.inl (129, 1, 12))) := ⟨xY129, rfl, rfl, xm129, xc_virtual (δ := δ) (Y := xY0) (Z := xY129) (k := 299) (pc := 527) (index := 84) (ci := 11) (na := 0) (z := 129) (nest := none) rfl rfl (by decide +kernel) rfl (xg_w 1430 (by decide +kernel)) (xg_w 1431 (by decide +kernel)) (xg_w 1432 (by decide +kernel)) xm129.1 ⟨by decide, by decide⟩ rfl⟩
set_option maxRecDepth 20000 in
theorem xq0_300 (δ : xe_Dy) : xe_OK δ xM_Y xM_L xY0 300 (.inl (xe_ldI 5)) := xo_iload (δ := δ) (Y := xY0) (k := 300) (pc := 530) rfl rfl (i := 5) (by decide +kernel)
set_option maxRecDepth 20000 in
theorem xq0_301 (δ : xe_Dy) : xe_OK δ xM_Y xM_L xY0 301 (.inl (xe_iceq 304)) := xo_iceq (δ := δ) (Y := xY0) (k := 301) (pc := 532) rfl rfl (b := 304) (tgt := 537) (off := 5) rfl (by decide +kernel) (by decide)
set_option maxRecDepth 20000 in
theorem xq0_302 (δ : xe_Dy) : xe_OK δ xM_Y xM_L xY0 302 (.inl (xe_push (.int (0)))) := xo_iconst (δ := δ) (Y := xY0) (k := 302) (pc := 535) rfl rfl (n := 0) (by decide +kernel) (by decide)
set_option maxRecDepth 20000 in
theorem xq0_303 (δ : xe_Dy) : xe_OK δ xM_Y xM_L xY0 303 (.inr (.inr 3)) := ⟨rfl, (by decide +kernel)⟩
set_option maxRecDepth 20000 in
theorem xq0_304 (δ : xe_Dy) : xe_OK δ xM_Y xM_L xY0 304 (.inl (xe_goto 541)) := xo_goto (δ := δ) (Y := xY0) (k := 304) (pc := 537) rfl (b := 541) (tgt := 908) (off := 371) rfl (by decide +kernel) (by decide)
set_option maxRecDepth 20000 in
theorem xq0_305 (δ : xe_Dy) : xe_OK δ xM_Y xM_L xY0 305 (.inl (xe_ldA 1)) := xo_aload_n (δ := δ) (Y := xY0) (k := 305) (pc := 540) rfl rfl (q := 1) (i := 1) (by decide +kernel) rfl
set_option maxRecDepth 20000 in
theorem xq0_306 (δ : xe_Dy) : xe_OK δ xM_Y xM_L xY0 306 (.inl (xe_ldA 0)) := xo_aload_n (δ := δ) (Y := xY0) (k := 306) (pc := 541) rfl rfl (q := 0) (i := 0) (by decide +kernel) rfl
set_option maxRecDepth 20000 in
theorem xq0_307 (δ : xe_Dy) : xe_OK δ xM_Y xM_L xY0 307 (.inl (xe_ldI 4)) := xo_iload (δ := δ) (Y := xY0) (k := 307) (pc := 542) rfl rfl (i := 4) (by decide +kernel)
set_option maxRecDepth 20000 in
theorem xq0_308 (δ : xe_Dy) : xe_OK δ xM_Y xM_L xY0 308 (.inl (xe_push (.int (1)))) := xo_iconst (δ := δ) (Y := xY0) (k := 308) (pc := 544) rfl rfl (n := 1) (by decide +kernel) (by decide)
set_option maxRecDepth 20000 in
theorem xq0_309 (δ : xe_Dy) : xe_OK δ xM_Y xM_L xY0 309 (.inl (xe_i2 (fun x y => x + y))) := xo_iadd (δ := δ) (Y := xY0) (k := 309) (pc := 545) rfl rfl (by decide +kernel)
set_option maxRecDepth 20000 in
theorem xq0_310 (δ : xe_Dy) : xe_OK δ xM_Y xM_L xY0 310 (.inl (xe_sld δ)) := xo_sld (δ := δ) (Y := xY0) (k := 310) (pc := 546) rfl rfl (by decide +kernel)
set_option maxRecDepth 20000 in
theorem xq0_311 (δ : xe_Dy) : xe_OK δ xM_Y xM_L xY0 311 (.inl (xe_ldA 0)) := xo_aload_n (δ := δ) (Y := xY0) (k := 311) (pc := 547) rfl rfl (q := 0) (i := 0) (by decide +kernel) rfl
set_option maxRecDepth 20000 in
theorem xq0_312 (δ : xe_Dy) : xe_OK δ xM_Y xM_L xY0 312 (.inl (xe_ldI 4)) := xo_iload (δ := δ) (Y := xY0) (k := 312) (pc := 548) rfl rfl (i := 4) (by decide +kernel)
set_option maxRecDepth 20000 in
theorem xq0_313 (δ : xe_Dy) : xe_OK δ xM_Y xM_L xY0 313 (.inl (xe_push (.int (2)))) := xo_iconst (δ := δ) (Y := xY0) (k := 313) (pc := 550) rfl rfl (n := 2) (by decide +kernel) (by decide)
set_option maxRecDepth 20000 in
theorem xq0_314 (δ : xe_Dy) : xe_OK δ xM_Y xM_L xY0 314 (.inl (xe_i2 (fun x y => x + y))) := xo_iadd (δ := δ) (Y := xY0) (k := 314) (pc := 551) rfl rfl (by decide +kernel)
set_option maxRecDepth 20000 in
theorem xq0_315 (δ : xe_Dy) : xe_OK δ xM_Y xM_L xY0 315 (.inl (xe_sld δ)) := xo_sld (δ := δ) (Y := xY0) (k := 315) (pc := 552) rfl rfl (by decide +kernel)
set_option maxRecDepth 20000 in
theorem xq0_316 (δ : xe_Dy) : xe_OK δ xM_Y xM_L xY0 316 (.inr (.inl (98, 3, 0))) := ⟨xY98, rfl, rfl, xm98, xc_static (δ := δ) (Y := xY0) (Z := xY98) (k := 316) (pc := 553) (index := 101) (na := 3) (z := 98) (nest := none) rfl rfl (by decide +kernel) (xg_w 1017 (by decide +kernel)) (xg_w 1018 (by decide +kernel)) xm98.2.1 xm98.1 ⟨by decide, by decide⟩ rfl⟩
set_option maxRecDepth 20000 in
theorem xq0_317 (δ : xe_Dy) : xe_OK δ xM_Y xM_L xY0 317 (.inl (xe_stI 5)) := xo_istore (δ := δ) (Y := xY0) (k := 317) (pc := 556) rfl rfl (i := 5) (by decide +kernel) (by decide)
set_option maxRecDepth 20000 in
theorem xq0_318 (δ : xe_Dy) : xe_OK δ xM_Y xM_L xY0 318 (.inl (xe_ldA 2)) := xo_aload_n (δ := δ) (Y := xY0) (k := 318) (pc := 558) rfl rfl (q := 2) (i := 2) (by decide +kernel) rfl
set_option maxRecDepth 20000 in
theorem xq0_319 (δ : xe_Dy) : xe_OK δ xM_Y xM_L xY0 319 (.inl (xe_ldA 0)) := xo_aload_n (δ := δ) (Y := xY0) (k := 319) (pc := 559) rfl rfl (q := 0) (i := 0) (by decide +kernel) rfl
set_option maxRecDepth 20000 in
theorem xq0_320 (δ : xe_Dy) : xe_OK δ xM_Y xM_L xY0 320 (.inl (xe_ldI 4)) := xo_iload (δ := δ) (Y := xY0) (k := 320) (pc := 560) rfl rfl (i := 4) (by decide +kernel)
set_option maxRecDepth 20000 in
theorem xq0_321 (δ : xe_Dy) : xe_OK δ xM_Y xM_L xY0 321 (.inl (xe_push (.int (1)))) := xo_iconst (δ := δ) (Y := xY0) (k := 321) (pc := 562) rfl rfl (n := 1) (by decide +kernel) (by decide)
set_option maxRecDepth 20000 in
theorem xq0_322 (δ : xe_Dy) : xe_OK δ xM_Y xM_L xY0 322 (.inl (xe_i2 (fun x y => x + y))) := xo_iadd (δ := δ) (Y := xY0) (k := 322) (pc := 563) rfl rfl (by decide +kernel)
set_option maxRecDepth 20000 in
theorem xq0_323 (δ : xe_Dy) : xe_OK δ xM_Y xM_L xY0 323 (.inl (xe_sld δ)) := xo_sld (δ := δ) (Y := xY0) (k := 323) (pc := 564) rfl rfl (by decide +kernel)
set_option maxRecDepth 20000 in
theorem xq0_324 (δ : xe_Dy) : xe_OK δ xM_Y xM_L xY0 324 (.inl (xe_ldA 0)) := xo_aload_n (δ := δ) (Y := xY0) (k := 324) (pc := 565) rfl rfl (q := 0) (i := 0) (by decide +kernel) rfl
set_option maxRecDepth 20000 in
theorem xq0_325 (δ : xe_Dy) : xe_OK δ xM_Y xM_L xY0 325 (.inl (xe_ldI 4)) := xo_iload (δ := δ) (Y := xY0) (k := 325) (pc := 566) rfl rfl (i := 4) (by decide +kernel)
set_option maxRecDepth 20000 in
theorem xq0_326 (δ : xe_Dy) : xe_OK δ xM_Y xM_L xY0 326 (.inl (xe_push (.int (2)))) := xo_iconst (δ := δ) (Y := xY0) (k := 326) (pc := 568) rfl rfl (n := 2) (by decide +kernel) (by decide)
set_option maxRecDepth 20000 in
theorem xq0_327 (δ : xe_Dy) : xe_OK δ xM_Y xM_L xY0 327 (.inl (xe_i2 (fun x y => x + y))) := xo_iadd (δ := δ) (Y := xY0) (k := 327) (pc := 569) rfl rfl (by decide +kernel)
set_option maxRecDepth 20000 in
theorem xq0_328 (δ : xe_Dy) : xe_OK δ xM_Y xM_L xY0 328 (.inl (xe_sld δ)) := xo_sld (δ := δ) (Y := xY0) (k := 328) (pc := 570) rfl rfl (by decide +kernel)
set_option maxRecDepth 20000 in
theorem xq0_329 (δ : xe_Dy) : xe_OK δ xM_Y xM_L xY0 329 (.inr (.inl (184, 3, 12))) := ⟨xY184, rfl, rfl, xm184, xc_virtual (δ := δ) (Y := xY0) (Z := xY184) (k := 329) (pc := 571) (index := 104) (ci := 11) (na := 2) (z := 184) (nest := none) rfl rfl (by decide +kernel) rfl (xg_w 1657 (by decide +kernel)) (xg_w 1658 (by decide +kernel)) (xg_w 1659 (by decide +kernel)) xm184.1 ⟨by decide, by decide⟩ rfl⟩
set_option maxRecDepth 20000 in
theorem xq0_330 (δ : xe_Dy) : xe_OK δ xM_Y xM_L xY0 330 (.inl (xe_ldA 2)) := xo_aload_n (δ := δ) (Y := xY0) (k := 330) (pc := 574) rfl rfl (q := 2) (i := 2) (by decide +kernel) rfl
set_option maxRecDepth 20000 in
theorem xq0_331 (δ : xe_Dy) : xe_OK δ xM_Y xM_L xY0 331 (.inr (.inl (129, 1, 12))) := ⟨xY129, rfl, rfl, xm129, xc_virtual (δ := δ) (Y := xY0) (Z := xY129) (k := 331) (pc := 575) (index := 84) (ci := 11) (na := 0) (z := 129) (nest := none) rfl rfl (by decide +kernel) rfl (xg_w 1430 (by decide +kernel)) (xg_w 1431 (by decide +kernel)) (xg_w 1432 (by decide +kernel)) xm129.1 ⟨by decide, by decide⟩ rfl⟩
set_option maxRecDepth 20000 in
theorem xq0_332 (δ : xe_Dy) : xe_OK δ xM_Y xM_L xY0 332 (.inl (xe_ldI 5)) := xo_iload (δ := δ) (Y := xY0) (k := 332) (pc := 578) rfl rfl (i := 5) (by decide +kernel)
set_option maxRecDepth 20000 in
theorem xq0_333 (δ : xe_Dy) : xe_OK δ xM_Y xM_L xY0 333 (.inl (xe_iceq 336)) := xo_iceq (δ := δ) (Y := xY0) (k := 333) (pc := 580) rfl rfl (b := 336) (tgt := 585) (off := 5) rfl (by decide +kernel) (by decide)
set_option maxRecDepth 20000 in
theorem xq0_334 (δ : xe_Dy) : xe_OK δ xM_Y xM_L xY0 334 (.inl (xe_push (.int (0)))) := xo_iconst (δ := δ) (Y := xY0) (k := 334) (pc := 583) rfl rfl (n := 0) (by decide +kernel) (by decide)
set_option maxRecDepth 20000 in
theorem xq0_335 (δ : xe_Dy) : xe_OK δ xM_Y xM_L xY0 335 (.inr (.inr 3)) := ⟨rfl, (by decide +kernel)⟩
set_option maxRecDepth 20000 in
theorem xq0_336 (δ : xe_Dy) : xe_OK δ xM_Y xM_L xY0 336 (.inl (xe_goto 541)) := xo_goto (δ := δ) (Y := xY0) (k := 336) (pc := 585) rfl (b := 541) (tgt := 908) (off := 323) rfl (by decide +kernel) (by decide)
set_option maxRecDepth 20000 in
theorem xq0_337 (δ : xe_Dy) : xe_OK δ xM_Y xM_L xY0 337 (.inl (xe_ldA 1)) := xo_aload_n (δ := δ) (Y := xY0) (k := 337) (pc := 588) rfl rfl (q := 1) (i := 1) (by decide +kernel) rfl
set_option maxRecDepth 20000 in
theorem xq0_338 (δ : xe_Dy) : xe_OK δ xM_Y xM_L xY0 338 (.inl (xe_ldA 0)) := xo_aload_n (δ := δ) (Y := xY0) (k := 338) (pc := 589) rfl rfl (q := 0) (i := 0) (by decide +kernel) rfl
set_option maxRecDepth 20000 in
theorem xq0_339 (δ : xe_Dy) : xe_OK δ xM_Y xM_L xY0 339 (.inl (xe_ldI 4)) := xo_iload (δ := δ) (Y := xY0) (k := 339) (pc := 590) rfl rfl (i := 4) (by decide +kernel)
set_option maxRecDepth 20000 in
theorem xq0_340 (δ : xe_Dy) : xe_OK δ xM_Y xM_L xY0 340 (.inl (xe_push (.int (1)))) := xo_iconst (δ := δ) (Y := xY0) (k := 340) (pc := 592) rfl rfl (n := 1) (by decide +kernel) (by decide)
set_option maxRecDepth 20000 in
theorem xq0_341 (δ : xe_Dy) : xe_OK δ xM_Y xM_L xY0 341 (.inl (xe_i2 (fun x y => x + y))) := xo_iadd (δ := δ) (Y := xY0) (k := 341) (pc := 593) rfl rfl (by decide +kernel)
set_option maxRecDepth 20000 in
theorem xq0_342 (δ : xe_Dy) : xe_OK δ xM_Y xM_L xY0 342 (.inl (xe_sld δ)) := xo_sld (δ := δ) (Y := xY0) (k := 342) (pc := 594) rfl rfl (by decide +kernel)
set_option maxRecDepth 20000 in
theorem xq0_343 (δ : xe_Dy) : xe_OK δ xM_Y xM_L xY0 343 (.inl (xe_ldA 0)) := xo_aload_n (δ := δ) (Y := xY0) (k := 343) (pc := 595) rfl rfl (q := 0) (i := 0) (by decide +kernel) rfl
set_option maxRecDepth 20000 in
theorem xq0_344 (δ : xe_Dy) : xe_OK δ xM_Y xM_L xY0 344 (.inl (xe_ldI 4)) := xo_iload (δ := δ) (Y := xY0) (k := 344) (pc := 596) rfl rfl (i := 4) (by decide +kernel)
set_option maxRecDepth 20000 in
theorem xq0_345 (δ : xe_Dy) : xe_OK δ xM_Y xM_L xY0 345 (.inl (xe_push (.int (2)))) := xo_iconst (δ := δ) (Y := xY0) (k := 345) (pc := 598) rfl rfl (n := 2) (by decide +kernel) (by decide)
set_option maxRecDepth 20000 in
theorem xq0_346 (δ : xe_Dy) : xe_OK δ xM_Y xM_L xY0 346 (.inl (xe_i2 (fun x y => x + y))) := xo_iadd (δ := δ) (Y := xY0) (k := 346) (pc := 599) rfl rfl (by decide +kernel)
set_option maxRecDepth 20000 in
theorem xq0_347 (δ : xe_Dy) : xe_OK δ xM_Y xM_L xY0 347 (.inl (xe_sld δ)) := xo_sld (δ := δ) (Y := xY0) (k := 347) (pc := 600) rfl rfl (by decide +kernel)
set_option maxRecDepth 20000 in
theorem xq0_348 (δ : xe_Dy) : xe_OK δ xM_Y xM_L xY0 348 (.inr (.inl (101, 3, 0))) := ⟨xY101, rfl, rfl, xm101, xc_static (δ := δ) (Y := xY0) (Z := xY101) (k := 348) (pc := 601) (index := 105) (na := 3) (z := 101) (nest := none) rfl rfl (by decide +kernel) (xg_w 1046 (by decide +kernel)) (xg_w 1047 (by decide +kernel)) xm101.2.1 xm101.1 ⟨by decide, by decide⟩ rfl⟩
set_option maxRecDepth 20000 in
theorem xq0_349 (δ : xe_Dy) : xe_OK δ xM_Y xM_L xY0 349 (.inl (xe_stI 5)) := xo_istore (δ := δ) (Y := xY0) (k := 349) (pc := 604) rfl rfl (i := 5) (by decide +kernel) (by decide)
set_option maxRecDepth 20000 in
theorem xq0_350 (δ : xe_Dy) : xe_OK δ xM_Y xM_L xY0 350 (.inl (xe_ldA 2)) := xo_aload_n (δ := δ) (Y := xY0) (k := 350) (pc := 606) rfl rfl (q := 2) (i := 2) (by decide +kernel) rfl
set_option maxRecDepth 20000 in
theorem xq0_351 (δ : xe_Dy) : xe_OK δ xM_Y xM_L xY0 351 (.inl (xe_ldA 0)) := xo_aload_n (δ := δ) (Y := xY0) (k := 351) (pc := 607) rfl rfl (q := 0) (i := 0) (by decide +kernel) rfl
set_option maxRecDepth 20000 in
theorem xq0_352 (δ : xe_Dy) : xe_OK δ xM_Y xM_L xY0 352 (.inl (xe_ldI 4)) := xo_iload (δ := δ) (Y := xY0) (k := 352) (pc := 608) rfl rfl (i := 4) (by decide +kernel)
set_option maxRecDepth 20000 in
theorem xq0_353 (δ : xe_Dy) : xe_OK δ xM_Y xM_L xY0 353 (.inl (xe_push (.int (1)))) := xo_iconst (δ := δ) (Y := xY0) (k := 353) (pc := 610) rfl rfl (n := 1) (by decide +kernel) (by decide)
set_option maxRecDepth 20000 in
theorem xq0_354 (δ : xe_Dy) : xe_OK δ xM_Y xM_L xY0 354 (.inl (xe_i2 (fun x y => x + y))) := xo_iadd (δ := δ) (Y := xY0) (k := 354) (pc := 611) rfl rfl (by decide +kernel)
set_option maxRecDepth 20000 in
theorem xq0_355 (δ : xe_Dy) : xe_OK δ xM_Y xM_L xY0 355 (.inl (xe_sld δ)) := xo_sld (δ := δ) (Y := xY0) (k := 355) (pc := 612) rfl rfl (by decide +kernel)
set_option maxRecDepth 20000 in
theorem xq0_356 (δ : xe_Dy) : xe_OK δ xM_Y xM_L xY0 356 (.inl (xe_ldA 0)) := xo_aload_n (δ := δ) (Y := xY0) (k := 356) (pc := 613) rfl rfl (q := 0) (i := 0) (by decide +kernel) rfl
set_option maxRecDepth 20000 in
theorem xq0_357 (δ : xe_Dy) : xe_OK δ xM_Y xM_L xY0 357 (.inl (xe_ldI 4)) := xo_iload (δ := δ) (Y := xY0) (k := 357) (pc := 614) rfl rfl (i := 4) (by decide +kernel)
set_option maxRecDepth 20000 in
theorem xq0_358 (δ : xe_Dy) : xe_OK δ xM_Y xM_L xY0 358 (.inl (xe_push (.int (2)))) := xo_iconst (δ := δ) (Y := xY0) (k := 358) (pc := 616) rfl rfl (n := 2) (by decide +kernel) (by decide)
set_option maxRecDepth 20000 in
theorem xq0_359 (δ : xe_Dy) : xe_OK δ xM_Y xM_L xY0 359 (.inl (xe_i2 (fun x y => x + y))) := xo_iadd (δ := δ) (Y := xY0) (k := 359) (pc := 617) rfl rfl (by decide +kernel)
set_option maxRecDepth 20000 in
theorem xq0_360 (δ : xe_Dy) : xe_OK δ xM_Y xM_L xY0 360 (.inl (xe_sld δ)) := xo_sld (δ := δ) (Y := xY0) (k := 360) (pc := 618) rfl rfl (by decide +kernel)
set_option maxRecDepth 20000 in
theorem xq0_361 (δ : xe_Dy) : xe_OK δ xM_Y xM_L xY0 361 (.inr (.inl (185, 3, 12))) := ⟨xY185, rfl, rfl, xm185, xc_virtual (δ := δ) (Y := xY0) (Z := xY185) (k := 361) (pc := 619) (index := 107) (ci := 11) (na := 2) (z := 185) (nest := none) rfl rfl (by decide +kernel) rfl (xg_w 1661 (by decide +kernel)) (xg_w 1662 (by decide +kernel)) (xg_w 1663 (by decide +kernel)) xm185.1 ⟨by decide, by decide⟩ rfl⟩
set_option maxRecDepth 20000 in
theorem xq0_362 (δ : xe_Dy) : xe_OK δ xM_Y xM_L xY0 362 (.inl (xe_ldA 2)) := xo_aload_n (δ := δ) (Y := xY0) (k := 362) (pc := 622) rfl rfl (q := 2) (i := 2) (by decide +kernel) rfl
set_option maxRecDepth 20000 in
theorem xq0_363 (δ : xe_Dy) : xe_OK δ xM_Y xM_L xY0 363 (.inr (.inl (129, 1, 12))) := ⟨xY129, rfl, rfl, xm129, xc_virtual (δ := δ) (Y := xY0) (Z := xY129) (k := 363) (pc := 623) (index := 84) (ci := 11) (na := 0) (z := 129) (nest := none) rfl rfl (by decide +kernel) rfl (xg_w 1430 (by decide +kernel)) (xg_w 1431 (by decide +kernel)) (xg_w 1432 (by decide +kernel)) xm129.1 ⟨by decide, by decide⟩ rfl⟩
set_option maxRecDepth 20000 in
theorem xq0_364 (δ : xe_Dy) : xe_OK δ xM_Y xM_L xY0 364 (.inl (xe_ldI 5)) := xo_iload (δ := δ) (Y := xY0) (k := 364) (pc := 626) rfl rfl (i := 5) (by decide +kernel)
set_option maxRecDepth 20000 in
theorem xq0_365 (δ : xe_Dy) : xe_OK δ xM_Y xM_L xY0 365 (.inl (xe_iceq 368)) := xo_iceq (δ := δ) (Y := xY0) (k := 365) (pc := 628) rfl rfl (b := 368) (tgt := 633) (off := 5) rfl (by decide +kernel) (by decide)
set_option maxRecDepth 20000 in
theorem xq0_366 (δ : xe_Dy) : xe_OK δ xM_Y xM_L xY0 366 (.inl (xe_push (.int (0)))) := xo_iconst (δ := δ) (Y := xY0) (k := 366) (pc := 631) rfl rfl (n := 0) (by decide +kernel) (by decide)
set_option maxRecDepth 20000 in
theorem xq0_367 (δ : xe_Dy) : xe_OK δ xM_Y xM_L xY0 367 (.inr (.inr 3)) := ⟨rfl, (by decide +kernel)⟩
set_option maxRecDepth 20000 in
theorem xq0_368 (δ : xe_Dy) : xe_OK δ xM_Y xM_L xY0 368 (.inl (xe_goto 541)) := xo_goto (δ := δ) (Y := xY0) (k := 368) (pc := 633) rfl (b := 541) (tgt := 908) (off := 275) rfl (by decide +kernel) (by decide)
set_option maxRecDepth 20000 in
theorem xq0_369 (δ : xe_Dy) : xe_OK δ xM_Y xM_L xY0 369 (.inl (xe_ldA 1)) := xo_aload_n (δ := δ) (Y := xY0) (k := 369) (pc := 636) rfl rfl (q := 1) (i := 1) (by decide +kernel) rfl
set_option maxRecDepth 20000 in
theorem xq0_370 (δ : xe_Dy) : xe_OK δ xM_Y xM_L xY0 370 (.inl (xe_ldA 0)) := xo_aload_n (δ := δ) (Y := xY0) (k := 370) (pc := 637) rfl rfl (q := 0) (i := 0) (by decide +kernel) rfl
set_option maxRecDepth 20000 in
theorem xq0_371 (δ : xe_Dy) : xe_OK δ xM_Y xM_L xY0 371 (.inl (xe_ldI 4)) := xo_iload (δ := δ) (Y := xY0) (k := 371) (pc := 638) rfl rfl (i := 4) (by decide +kernel)
set_option maxRecDepth 20000 in
theorem xq0_372 (δ : xe_Dy) : xe_OK δ xM_Y xM_L xY0 372 (.inl (xe_push (.int (1)))) := xo_iconst (δ := δ) (Y := xY0) (k := 372) (pc := 640) rfl rfl (n := 1) (by decide +kernel) (by decide)
set_option maxRecDepth 20000 in
theorem xq0_373 (δ : xe_Dy) : xe_OK δ xM_Y xM_L xY0 373 (.inl (xe_i2 (fun x y => x + y))) := xo_iadd (δ := δ) (Y := xY0) (k := 373) (pc := 641) rfl rfl (by decide +kernel)
set_option maxRecDepth 20000 in
theorem xq0_374 (δ : xe_Dy) : xe_OK δ xM_Y xM_L xY0 374 (.inl (xe_sld δ)) := xo_sld (δ := δ) (Y := xY0) (k := 374) (pc := 642) rfl rfl (by decide +kernel)
set_option maxRecDepth 20000 in
theorem xq0_375 (δ : xe_Dy) : xe_OK δ xM_Y xM_L xY0 375 (.inr (.inl (103, 2, 0))) := ⟨xY103, rfl, rfl, xm103, xc_static (δ := δ) (Y := xY0) (Z := xY103) (k := 375) (pc := 643) (index := 108) (na := 2) (z := 103) (nest := none) rfl rfl (by decide +kernel) (xg_w 1053 (by decide +kernel)) (xg_w 1054 (by decide +kernel)) xm103.2.1 xm103.1 ⟨by decide, by decide⟩ rfl⟩
set_option maxRecDepth 20000 in
theorem xq0_376 (δ : xe_Dy) : xe_OK δ xM_Y xM_L xY0 376 (.inl (xe_stI 5)) := xo_istore (δ := δ) (Y := xY0) (k := 376) (pc := 646) rfl rfl (i := 5) (by decide +kernel) (by decide)
set_option maxRecDepth 20000 in
theorem xq0_377 (δ : xe_Dy) : xe_OK δ xM_Y xM_L xY0 377 (.inl (xe_ldA 2)) := xo_aload_n (δ := δ) (Y := xY0) (k := 377) (pc := 648) rfl rfl (q := 2) (i := 2) (by decide +kernel) rfl
set_option maxRecDepth 20000 in
theorem xq0_378 (δ : xe_Dy) : xe_OK δ xM_Y xM_L xY0 378 (.inl (xe_ldA 0)) := xo_aload_n (δ := δ) (Y := xY0) (k := 378) (pc := 649) rfl rfl (q := 0) (i := 0) (by decide +kernel) rfl
set_option maxRecDepth 20000 in
theorem xq0_379 (δ : xe_Dy) : xe_OK δ xM_Y xM_L xY0 379 (.inl (xe_ldI 4)) := xo_iload (δ := δ) (Y := xY0) (k := 379) (pc := 650) rfl rfl (i := 4) (by decide +kernel)
set_option maxRecDepth 20000 in
theorem xq0_380 (δ : xe_Dy) : xe_OK δ xM_Y xM_L xY0 380 (.inl (xe_push (.int (1)))) := xo_iconst (δ := δ) (Y := xY0) (k := 380) (pc := 652) rfl rfl (n := 1) (by decide +kernel) (by decide)
set_option maxRecDepth 20000 in
theorem xq0_381 (δ : xe_Dy) : xe_OK δ xM_Y xM_L xY0 381 (.inl (xe_i2 (fun x y => x + y))) := xo_iadd (δ := δ) (Y := xY0) (k := 381) (pc := 653) rfl rfl (by decide +kernel)
set_option maxRecDepth 20000 in
theorem xq0_382 (δ : xe_Dy) : xe_OK δ xM_Y xM_L xY0 382 (.inl (xe_sld δ)) := xo_sld (δ := δ) (Y := xY0) (k := 382) (pc := 654) rfl rfl (by decide +kernel)
set_option maxRecDepth 20000 in
theorem xq0_383 (δ : xe_Dy) : xe_OK δ xM_Y xM_L xY0 383 (.inr (.inl (186, 2, 12))) := ⟨xY186, rfl, rfl, xm186, xc_virtual (δ := δ) (Y := xY0) (Z := xY186) (k := 383) (pc := 655) (index := 110) (ci := 11) (na := 1) (z := 186) (nest := none) rfl rfl (by decide +kernel) rfl (xg_w 1665 (by decide +kernel)) (xg_w 1666 (by decide +kernel)) (xg_w 1667 (by decide +kernel)) xm186.1 ⟨by decide, by decide⟩ rfl⟩
set_option maxRecDepth 20000 in
theorem xq0_384 (δ : xe_Dy) : xe_OK δ xM_Y xM_L xY0 384 (.inl (xe_ldA 2)) := xo_aload_n (δ := δ) (Y := xY0) (k := 384) (pc := 658) rfl rfl (q := 2) (i := 2) (by decide +kernel) rfl
set_option maxRecDepth 20000 in
theorem xq0_385 (δ : xe_Dy) : xe_OK δ xM_Y xM_L xY0 385 (.inr (.inl (129, 1, 12))) := ⟨xY129, rfl, rfl, xm129, xc_virtual (δ := δ) (Y := xY0) (Z := xY129) (k := 385) (pc := 659) (index := 84) (ci := 11) (na := 0) (z := 129) (nest := none) rfl rfl (by decide +kernel) rfl (xg_w 1430 (by decide +kernel)) (xg_w 1431 (by decide +kernel)) (xg_w 1432 (by decide +kernel)) xm129.1 ⟨by decide, by decide⟩ rfl⟩
set_option maxRecDepth 20000 in
theorem xq0_386 (δ : xe_Dy) : xe_OK δ xM_Y xM_L xY0 386 (.inl (xe_ldI 5)) := xo_iload (δ := δ) (Y := xY0) (k := 386) (pc := 662) rfl rfl (i := 5) (by decide +kernel)
set_option maxRecDepth 20000 in
theorem xq0_387 (δ : xe_Dy) : xe_OK δ xM_Y xM_L xY0 387 (.inl (xe_iceq 390)) := xo_iceq (δ := δ) (Y := xY0) (k := 387) (pc := 664) rfl rfl (b := 390) (tgt := 669) (off := 5) rfl (by decide +kernel) (by decide)
set_option maxRecDepth 20000 in
theorem xq0_388 (δ : xe_Dy) : xe_OK δ xM_Y xM_L xY0 388 (.inl (xe_push (.int (0)))) := xo_iconst (δ := δ) (Y := xY0) (k := 388) (pc := 667) rfl rfl (n := 0) (by decide +kernel) (by decide)
set_option maxRecDepth 20000 in
theorem xq0_389 (δ : xe_Dy) : xe_OK δ xM_Y xM_L xY0 389 (.inr (.inr 3)) := ⟨rfl, (by decide +kernel)⟩
set_option maxRecDepth 20000 in
theorem xq0_390 (δ : xe_Dy) : xe_OK δ xM_Y xM_L xY0 390 (.inl (xe_goto 541)) := xo_goto (δ := δ) (Y := xY0) (k := 390) (pc := 669) rfl (b := 541) (tgt := 908) (off := 239) rfl (by decide +kernel) (by decide)
set_option maxRecDepth 20000 in
theorem xq0_391 (δ : xe_Dy) : xe_OK δ xM_Y xM_L xY0 391 (.inl (xe_ldA 1)) := xo_aload_n (δ := δ) (Y := xY0) (k := 391) (pc := 672) rfl rfl (q := 1) (i := 1) (by decide +kernel) rfl
set_option maxRecDepth 20000 in
theorem xq0_392 (δ : xe_Dy) : xe_OK δ xM_Y xM_L xY0 392 (.inl (xe_ldA 0)) := xo_aload_n (δ := δ) (Y := xY0) (k := 392) (pc := 673) rfl rfl (q := 0) (i := 0) (by decide +kernel) rfl
set_option maxRecDepth 20000 in
theorem xq0_393 (δ : xe_Dy) : xe_OK δ xM_Y xM_L xY0 393 (.inl (xe_ldI 4)) := xo_iload (δ := δ) (Y := xY0) (k := 393) (pc := 674) rfl rfl (i := 4) (by decide +kernel)
set_option maxRecDepth 20000 in
theorem xq0_394 (δ : xe_Dy) : xe_OK δ xM_Y xM_L xY0 394 (.inl (xe_push (.int (1)))) := xo_iconst (δ := δ) (Y := xY0) (k := 394) (pc := 676) rfl rfl (n := 1) (by decide +kernel) (by decide)
set_option maxRecDepth 20000 in
theorem xq0_395 (δ : xe_Dy) : xe_OK δ xM_Y xM_L xY0 395 (.inl (xe_i2 (fun x y => x + y))) := xo_iadd (δ := δ) (Y := xY0) (k := 395) (pc := 677) rfl rfl (by decide +kernel)
set_option maxRecDepth 20000 in
theorem xq0_396 (δ : xe_Dy) : xe_OK δ xM_Y xM_L xY0 396 (.inl (xe_sld δ)) := xo_sld (δ := δ) (Y := xY0) (k := 396) (pc := 678) rfl rfl (by decide +kernel)
set_option maxRecDepth 20000 in
theorem xq0_397 (δ : xe_Dy) : xe_OK δ xM_Y xM_L xY0 397 (.inl (xe_ldA 0)) := xo_aload_n (δ := δ) (Y := xY0) (k := 397) (pc := 679) rfl rfl (q := 0) (i := 0) (by decide +kernel) rfl
set_option maxRecDepth 20000 in
theorem xq0_398 (δ : xe_Dy) : xe_OK δ xM_Y xM_L xY0 398 (.inl (xe_ldI 4)) := xo_iload (δ := δ) (Y := xY0) (k := 398) (pc := 680) rfl rfl (i := 4) (by decide +kernel)
set_option maxRecDepth 20000 in
theorem xq0_399 (δ : xe_Dy) : xe_OK δ xM_Y xM_L xY0 399 (.inl (xe_push (.int (2)))) := xo_iconst (δ := δ) (Y := xY0) (k := 399) (pc := 682) rfl rfl (n := 2) (by decide +kernel) (by decide)
set_option maxRecDepth 20000 in
theorem xq0_400 (δ : xe_Dy) : xe_OK δ xM_Y xM_L xY0 400 (.inl (xe_i2 (fun x y => x + y))) := xo_iadd (δ := δ) (Y := xY0) (k := 400) (pc := 683) rfl rfl (by decide +kernel)
set_option maxRecDepth 20000 in
theorem xq0_401 (δ : xe_Dy) : xe_OK δ xM_Y xM_L xY0 401 (.inl (xe_sld δ)) := xo_sld (δ := δ) (Y := xY0) (k := 401) (pc := 684) rfl rfl (by decide +kernel)
set_option maxRecDepth 20000 in
theorem xq0_402 (δ : xe_Dy) : xe_OK δ xM_Y xM_L xY0 402 (.inl (xe_ldA 3)) := xo_aload_n (δ := δ) (Y := xY0) (k := 402) (pc := 685) rfl rfl (q := 3) (i := 3) (by decide +kernel) rfl
set_option maxRecDepth 20000 in
theorem xq0_403 (δ : xe_Dy) : xe_OK δ xM_Y xM_L xY0 403 (.inr (.inl (120, 4, 0))) := ⟨xY120, rfl, rfl, xm120, xc_static (δ := δ) (Y := xY0) (Z := xY120) (k := 403) (pc := 686) (index := 111) (na := 4) (z := 120) (nest := none) rfl rfl (by decide +kernel) (xg_w 1123 (by decide +kernel)) (xg_w 1124 (by decide +kernel)) xm120.2.1 xm120.1 ⟨by decide, by decide⟩ rfl⟩
set_option maxRecDepth 20000 in
theorem xq0_404 (δ : xe_Dy) : xe_OK δ xM_Y xM_L xY0 404 (.inl (xe_stI 5)) := xo_istore (δ := δ) (Y := xY0) (k := 404) (pc := 689) rfl rfl (i := 5) (by decide +kernel) (by decide)
set_option maxRecDepth 20000 in
theorem xq0_405 (δ : xe_Dy) : xe_OK δ xM_Y xM_L xY0 405 (.inl (xe_ldA 2)) := xo_aload_n (δ := δ) (Y := xY0) (k := 405) (pc := 691) rfl rfl (q := 2) (i := 2) (by decide +kernel) rfl
set_option maxRecDepth 20000 in
theorem xq0_406 (δ : xe_Dy) : xe_OK δ xM_Y xM_L xY0 406 (.inl (xe_ldA 0)) := xo_aload_n (δ := δ) (Y := xY0) (k := 406) (pc := 692) rfl rfl (q := 0) (i := 0) (by decide +kernel) rfl
set_option maxRecDepth 20000 in
theorem xq0_407 (δ : xe_Dy) : xe_OK δ xM_Y xM_L xY0 407 (.inl (xe_ldI 4)) := xo_iload (δ := δ) (Y := xY0) (k := 407) (pc := 693) rfl rfl (i := 4) (by decide +kernel)
set_option maxRecDepth 20000 in
theorem xq0_408 (δ : xe_Dy) : xe_OK δ xM_Y xM_L xY0 408 (.inl (xe_push (.int (1)))) := xo_iconst (δ := δ) (Y := xY0) (k := 408) (pc := 695) rfl rfl (n := 1) (by decide +kernel) (by decide)
set_option maxRecDepth 20000 in
theorem xq0_409 (δ : xe_Dy) : xe_OK δ xM_Y xM_L xY0 409 (.inl (xe_i2 (fun x y => x + y))) := xo_iadd (δ := δ) (Y := xY0) (k := 409) (pc := 696) rfl rfl (by decide +kernel)
set_option maxRecDepth 20000 in
theorem xq0_410 (δ : xe_Dy) : xe_OK δ xM_Y xM_L xY0 410 (.inl (xe_sld δ)) := xo_sld (δ := δ) (Y := xY0) (k := 410) (pc := 697) rfl rfl (by decide +kernel)
set_option maxRecDepth 20000 in
theorem xq0_411 (δ : xe_Dy) : xe_OK δ xM_Y xM_L xY0 411 (.inl (xe_ldA 0)) := xo_aload_n (δ := δ) (Y := xY0) (k := 411) (pc := 698) rfl rfl (q := 0) (i := 0) (by decide +kernel) rfl
set_option maxRecDepth 20000 in
theorem xq0_412 (δ : xe_Dy) : xe_OK δ xM_Y xM_L xY0 412 (.inl (xe_ldI 4)) := xo_iload (δ := δ) (Y := xY0) (k := 412) (pc := 699) rfl rfl (i := 4) (by decide +kernel)
set_option maxRecDepth 20000 in
theorem xq0_413 (δ : xe_Dy) : xe_OK δ xM_Y xM_L xY0 413 (.inl (xe_push (.int (2)))) := xo_iconst (δ := δ) (Y := xY0) (k := 413) (pc := 701) rfl rfl (n := 2) (by decide +kernel) (by decide)
set_option maxRecDepth 20000 in
theorem xq0_414 (δ : xe_Dy) : xe_OK δ xM_Y xM_L xY0 414 (.inl (xe_i2 (fun x y => x + y))) := xo_iadd (δ := δ) (Y := xY0) (k := 414) (pc := 702) rfl rfl (by decide +kernel)
set_option maxRecDepth 20000 in
theorem xq0_415 (δ : xe_Dy) : xe_OK δ xM_Y xM_L xY0 415 (.inl (xe_sld δ)) := xo_sld (δ := δ) (Y := xY0) (k := 415) (pc := 703) rfl rfl (by decide +kernel)
set_option maxRecDepth 20000 in
theorem xq0_416 (δ : xe_Dy) : xe_OK δ xM_Y xM_L xY0 416 (.inr (.inl (194, 3, 12))) := ⟨xY194, rfl, rfl, xm194, xc_virtual (δ := δ) (Y := xY0) (Z := xY194) (k := 416) (pc := 704) (index := 113) (ci := 11) (na := 2) (z := 194) (nest := none) rfl rfl (by decide +kernel) rfl (xg_w 1697 (by decide +kernel)) (xg_w 1698 (by decide +kernel)) (xg_w 1699 (by decide +kernel)) xm194.1 ⟨by decide, by decide⟩ rfl⟩
set_option maxRecDepth 20000 in
theorem xq0_417 (δ : xe_Dy) : xe_OK δ xM_Y xM_L xY0 417 (.inl (xe_stI 6)) := xo_istore (δ := δ) (Y := xY0) (k := 417) (pc := 707) rfl rfl (i := 6) (by decide +kernel) (by decide)
set_option maxRecDepth 20000 in
theorem xq0_418 (δ : xe_Dy) : xe_OK δ xM_Y xM_L xY0 418 (.inl (xe_ldA 2)) := xo_aload_n (δ := δ) (Y := xY0) (k := 418) (pc := 709) rfl rfl (q := 2) (i := 2) (by decide +kernel) rfl
set_option maxRecDepth 20000 in
theorem xq0_419 (δ : xe_Dy) : xe_OK δ xM_Y xM_L xY0 419 (.inr (.inl (129, 1, 12))) := ⟨xY129, rfl, rfl, xm129, xc_virtual (δ := δ) (Y := xY0) (Z := xY129) (k := 419) (pc := 710) (index := 84) (ci := 11) (na := 0) (z := 129) (nest := none) rfl rfl (by decide +kernel) rfl (xg_w 1430 (by decide +kernel)) (xg_w 1431 (by decide +kernel)) (xg_w 1432 (by decide +kernel)) xm129.1 ⟨by decide, by decide⟩ rfl⟩
set_option maxRecDepth 20000 in
theorem xq0_420 (δ : xe_Dy) : xe_OK δ xM_Y xM_L xY0 420 (.inl (xe_ldI 5)) := xo_iload (δ := δ) (Y := xY0) (k := 420) (pc := 713) rfl rfl (i := 5) (by decide +kernel)
set_option maxRecDepth 20000 in
theorem xq0_421 (δ : xe_Dy) : xe_OK δ xM_Y xM_L xY0 421 (.inl (xe_iceq 424)) := xo_iceq (δ := δ) (Y := xY0) (k := 421) (pc := 715) rfl rfl (b := 424) (tgt := 720) (off := 5) rfl (by decide +kernel) (by decide)
set_option maxRecDepth 20000 in
theorem xq0_422 (δ : xe_Dy) : xe_OK δ xM_Y xM_L xY0 422 (.inl (xe_push (.int (0)))) := xo_iconst (δ := δ) (Y := xY0) (k := 422) (pc := 718) rfl rfl (n := 0) (by decide +kernel) (by decide)
set_option maxRecDepth 20000 in
theorem xq0_423 (δ : xe_Dy) : xe_OK δ xM_Y xM_L xY0 423 (.inr (.inr 3)) := ⟨rfl, (by decide +kernel)⟩
set_option maxRecDepth 20000 in
theorem xq0_424 (δ : xe_Dy) : xe_OK δ xM_Y xM_L xY0 424 (.inl (xe_ldI 5)) := xo_iload (δ := δ) (Y := xY0) (k := 424) (pc := 720) rfl rfl (i := 5) (by decide +kernel)
set_option maxRecDepth 20000 in
theorem xq0_425 (δ : xe_Dy) : xe_OK δ xM_Y xM_L xY0 425 (.inl (xe_ifne 435)) := xo_ifne (δ := δ) (Y := xY0) (k := 425) (pc := 722) rfl rfl (b := 435) (tgt := 737) (off := 15) rfl (by decide +kernel) (by decide)
set_option maxRecDepth 20000 in
theorem xq0_426 (δ : xe_Dy) : xe_OK δ xM_Y xM_L xY0 426 (.inl (xe_ldA 3)) := xo_aload_n (δ := δ) (Y := xY0) (k := 426) (pc := 725) rfl rfl (q := 3) (i := 3) (by decide +kernel) rfl
set_option maxRecDepth 20000 in
theorem xq0_427 (δ : xe_Dy) : xe_OK δ xM_Y xM_L xY0 427 (.inl (xe_push (.int (0)))) := xo_iconst (δ := δ) (Y := xY0) (k := 427) (pc := 726) rfl rfl (n := 0) (by decide +kernel) (by decide)
set_option maxRecDepth 20000 in
theorem xq0_428 (δ : xe_Dy) : xe_OK δ xM_Y xM_L xY0 428 (.inl xe_aldL) := xo_laload (δ := δ) (Y := xY0) (k := 428) (pc := 727) rfl rfl rfl (by decide +kernel)
set_option maxRecDepth 20000 in
theorem xq0_429 (δ : xe_Dy) : xe_OK δ xM_Y xM_L xY0 429 (.inl (xe_ldI 6)) := xo_iload (δ := δ) (Y := xY0) (k := 429) (pc := 728) rfl rfl (i := 6) (by decide +kernel)
set_option maxRecDepth 20000 in
theorem xq0_430 (δ : xe_Dy) : xe_OK δ xM_Y xM_L xY0 430 (.inl xe_i2l) := xo_i2l (δ := δ) (Y := xY0) (k := 430) (pc := 730) rfl rfl (by decide +kernel)
set_option maxRecDepth 20000 in
theorem xq0_431 (δ : xe_Dy) : xe_OK δ xM_Y xM_L xY0 431 (.inl xe_lcmp) := xo_lcmp (δ := δ) (Y := xY0) (k := 431) (pc := 731) rfl rfl (by decide +kernel)
set_option maxRecDepth 20000 in
theorem xq0_432 (δ : xe_Dy) : xe_OK δ xM_Y xM_L xY0 432 (.inl (xe_ifeq 435)) := xo_ifeq (δ := δ) (Y := xY0) (k := 432) (pc := 732) rfl rfl (b := 435) (tgt := 737) (off := 5) rfl (by decide +kernel) (by decide)
set_option maxRecDepth 20000 in
theorem xq0_433 (δ : xe_Dy) : xe_OK δ xM_Y xM_L xY0 433 (.inl (xe_push (.int (0)))) := xo_iconst (δ := δ) (Y := xY0) (k := 433) (pc := 735) rfl rfl (n := 0) (by decide +kernel) (by decide)
set_option maxRecDepth 20000 in
theorem xq0_434 (δ : xe_Dy) : xe_OK δ xM_Y xM_L xY0 434 (.inr (.inr 3)) := ⟨rfl, (by decide +kernel)⟩
set_option maxRecDepth 20000 in
theorem xq0_435 (δ : xe_Dy) : xe_OK δ xM_Y xM_L xY0 435 (.inl (xe_goto 541)) := xo_goto (δ := δ) (Y := xY0) (k := 435) (pc := 737) rfl (b := 541) (tgt := 908) (off := 171) rfl (by decide +kernel) (by decide)
set_option maxRecDepth 20000 in
theorem xq0_436 (δ : xe_Dy) : xe_OK δ xM_Y xM_L xY0 436 (.inl (xe_ldA 1)) := xo_aload_n (δ := δ) (Y := xY0) (k := 436) (pc := 740) rfl rfl (q := 1) (i := 1) (by decide +kernel) rfl
set_option maxRecDepth 20000 in
theorem xq0_437 (δ : xe_Dy) : xe_OK δ xM_Y xM_L xY0 437 (.inl (xe_ldA 0)) := xo_aload_n (δ := δ) (Y := xY0) (k := 437) (pc := 741) rfl rfl (q := 0) (i := 0) (by decide +kernel) rfl
set_option maxRecDepth 20000 in
theorem xq0_438 (δ : xe_Dy) : xe_OK δ xM_Y xM_L xY0 438 (.inl (xe_ldI 4)) := xo_iload (δ := δ) (Y := xY0) (k := 438) (pc := 742) rfl rfl (i := 4) (by decide +kernel)
set_option maxRecDepth 20000 in
theorem xq0_439 (δ : xe_Dy) : xe_OK δ xM_Y xM_L xY0 439 (.inl (xe_push (.int (1)))) := xo_iconst (δ := δ) (Y := xY0) (k := 439) (pc := 744) rfl rfl (n := 1) (by decide +kernel) (by decide)
set_option maxRecDepth 20000 in
theorem xq0_440 (δ : xe_Dy) : xe_OK δ xM_Y xM_L xY0 440 (.inl (xe_i2 (fun x y => x + y))) := xo_iadd (δ := δ) (Y := xY0) (k := 440) (pc := 745) rfl rfl (by decide +kernel)
set_option maxRecDepth 20000 in
theorem xq0_441 (δ : xe_Dy) : xe_OK δ xM_Y xM_L xY0 441 (.inl (xe_sld δ)) := xo_sld (δ := δ) (Y := xY0) (k := 441) (pc := 746) rfl rfl (by decide +kernel)
set_option maxRecDepth 20000 in
theorem xq0_442 (δ : xe_Dy) : xe_OK δ xM_Y xM_L xY0 442 (.inl (xe_ldA 3)) := xo_aload_n (δ := δ) (Y := xY0) (k := 442) (pc := 747) rfl rfl (q := 3) (i := 3) (by decide +kernel) rfl
set_option maxRecDepth 20000 in
theorem xq0_443 (δ : xe_Dy) : xe_OK δ xM_Y xM_L xY0 443 (.inr (.inl (122, 3, 0))) := ⟨xY122, rfl, rfl, xm122, xc_static (δ := δ) (Y := xY0) (Z := xY122) (k := 443) (pc := 748) (index := 114) (na := 3) (z := 122) (nest := none) rfl rfl (by decide +kernel) (xg_w 1130 (by decide +kernel)) (xg_w 1131 (by decide +kernel)) xm122.2.1 xm122.1 ⟨by decide, by decide⟩ rfl⟩
set_option maxRecDepth 20000 in
theorem xq0_444 (δ : xe_Dy) : xe_OK δ xM_Y xM_L xY0 444 (.inl (xe_stI 5)) := xo_istore (δ := δ) (Y := xY0) (k := 444) (pc := 751) rfl rfl (i := 5) (by decide +kernel) (by decide)
set_option maxRecDepth 20000 in
theorem xq0_445 (δ : xe_Dy) : xe_OK δ xM_Y xM_L xY0 445 (.inl (xe_ldA 2)) := xo_aload_n (δ := δ) (Y := xY0) (k := 445) (pc := 753) rfl rfl (q := 2) (i := 2) (by decide +kernel) rfl
set_option maxRecDepth 20000 in
theorem xq0_446 (δ : xe_Dy) : xe_OK δ xM_Y xM_L xY0 446 (.inl (xe_ldA 0)) := xo_aload_n (δ := δ) (Y := xY0) (k := 446) (pc := 754) rfl rfl (q := 0) (i := 0) (by decide +kernel) rfl
set_option maxRecDepth 20000 in
theorem xq0_447 (δ : xe_Dy) : xe_OK δ xM_Y xM_L xY0 447 (.inl (xe_ldI 4)) := xo_iload (δ := δ) (Y := xY0) (k := 447) (pc := 755) rfl rfl (i := 4) (by decide +kernel)
set_option maxRecDepth 20000 in
theorem xq0_448 (δ : xe_Dy) : xe_OK δ xM_Y xM_L xY0 448 (.inl (xe_push (.int (1)))) := xo_iconst (δ := δ) (Y := xY0) (k := 448) (pc := 757) rfl rfl (n := 1) (by decide +kernel) (by decide)
set_option maxRecDepth 20000 in
theorem xq0_449 (δ : xe_Dy) : xe_OK δ xM_Y xM_L xY0 449 (.inl (xe_i2 (fun x y => x + y))) := xo_iadd (δ := δ) (Y := xY0) (k := 449) (pc := 758) rfl rfl (by decide +kernel)
set_option maxRecDepth 20000 in
theorem xq0_450 (δ : xe_Dy) : xe_OK δ xM_Y xM_L xY0 450 (.inl (xe_sld δ)) := xo_sld (δ := δ) (Y := xY0) (k := 450) (pc := 759) rfl rfl (by decide +kernel)
set_option maxRecDepth 20000 in
theorem xq0_451 (δ : xe_Dy) : xe_OK δ xM_Y xM_L xY0 451 (.inr (.inl (195, 2, 12))) := ⟨xY195, rfl, rfl, xm195, xc_virtual (δ := δ) (Y := xY0) (Z := xY195) (k := 451) (pc := 760) (index := 116) (ci := 11) (na := 1) (z := 195) (nest := none) rfl rfl (by decide +kernel) rfl (xg_w 1701 (by decide +kernel)) (xg_w 1702 (by decide +kernel)) (xg_w 1703 (by decide +kernel)) xm195.1 ⟨by decide, by decide⟩ rfl⟩
set_option maxRecDepth 20000 in
theorem xq0_452 (δ : xe_Dy) : xe_OK δ xM_Y xM_L xY0 452 (.inl (xe_stI 6)) := xo_istore (δ := δ) (Y := xY0) (k := 452) (pc := 763) rfl rfl (i := 6) (by decide +kernel) (by decide)
set_option maxRecDepth 20000 in
theorem xq0_453 (δ : xe_Dy) : xe_OK δ xM_Y xM_L xY0 453 (.inl (xe_ldA 2)) := xo_aload_n (δ := δ) (Y := xY0) (k := 453) (pc := 765) rfl rfl (q := 2) (i := 2) (by decide +kernel) rfl
set_option maxRecDepth 20000 in
theorem xq0_454 (δ : xe_Dy) : xe_OK δ xM_Y xM_L xY0 454 (.inr (.inl (129, 1, 12))) := ⟨xY129, rfl, rfl, xm129, xc_virtual (δ := δ) (Y := xY0) (Z := xY129) (k := 454) (pc := 766) (index := 84) (ci := 11) (na := 0) (z := 129) (nest := none) rfl rfl (by decide +kernel) rfl (xg_w 1430 (by decide +kernel)) (xg_w 1431 (by decide +kernel)) (xg_w 1432 (by decide +kernel)) xm129.1 ⟨by decide, by decide⟩ rfl⟩
set_option maxRecDepth 20000 in
theorem xq0_455 (δ : xe_Dy) : xe_OK δ xM_Y xM_L xY0 455 (.inl (xe_ldI 5)) := xo_iload (δ := δ) (Y := xY0) (k := 455) (pc := 769) rfl rfl (i := 5) (by decide +kernel)
set_option maxRecDepth 20000 in
theorem xq0_456 (δ : xe_Dy) : xe_OK δ xM_Y xM_L xY0 456 (.inl (xe_iceq 459)) := xo_iceq (δ := δ) (Y := xY0) (k := 456) (pc := 771) rfl rfl (b := 459) (tgt := 776) (off := 5) rfl (by decide +kernel) (by decide)
set_option maxRecDepth 20000 in
theorem xq0_457 (δ : xe_Dy) : xe_OK δ xM_Y xM_L xY0 457 (.inl (xe_push (.int (0)))) := xo_iconst (δ := δ) (Y := xY0) (k := 457) (pc := 774) rfl rfl (n := 0) (by decide +kernel) (by decide)
set_option maxRecDepth 20000 in
theorem xq0_458 (δ : xe_Dy) : xe_OK δ xM_Y xM_L xY0 458 (.inr (.inr 3)) := ⟨rfl, (by decide +kernel)⟩
set_option maxRecDepth 20000 in
theorem xq0_459 (δ : xe_Dy) : xe_OK δ xM_Y xM_L xY0 459 (.inl (xe_ldI 5)) := xo_iload (δ := δ) (Y := xY0) (k := 459) (pc := 776) rfl rfl (i := 5) (by decide +kernel)
set_option maxRecDepth 20000 in
theorem xq0_460 (δ : xe_Dy) : xe_OK δ xM_Y xM_L xY0 460 (.inl (xe_ifne 470)) := xo_ifne (δ := δ) (Y := xY0) (k := 460) (pc := 778) rfl rfl (b := 470) (tgt := 793) (off := 15) rfl (by decide +kernel) (by decide)
set_option maxRecDepth 20000 in
theorem xq0_461 (δ : xe_Dy) : xe_OK δ xM_Y xM_L xY0 461 (.inl (xe_ldA 3)) := xo_aload_n (δ := δ) (Y := xY0) (k := 461) (pc := 781) rfl rfl (q := 3) (i := 3) (by decide +kernel) rfl
set_option maxRecDepth 20000 in
theorem xq0_462 (δ : xe_Dy) : xe_OK δ xM_Y xM_L xY0 462 (.inl (xe_push (.int (0)))) := xo_iconst (δ := δ) (Y := xY0) (k := 462) (pc := 782) rfl rfl (n := 0) (by decide +kernel) (by decide)
set_option maxRecDepth 20000 in
theorem xq0_463 (δ : xe_Dy) : xe_OK δ xM_Y xM_L xY0 463 (.inl xe_aldL) := xo_laload (δ := δ) (Y := xY0) (k := 463) (pc := 783) rfl rfl rfl (by decide +kernel)
set_option maxRecDepth 20000 in
theorem xq0_464 (δ : xe_Dy) : xe_OK δ xM_Y xM_L xY0 464 (.inl (xe_ldI 6)) := xo_iload (δ := δ) (Y := xY0) (k := 464) (pc := 784) rfl rfl (i := 6) (by decide +kernel)
set_option maxRecDepth 20000 in
theorem xq0_465 (δ : xe_Dy) : xe_OK δ xM_Y xM_L xY0 465 (.inl xe_i2l) := xo_i2l (δ := δ) (Y := xY0) (k := 465) (pc := 786) rfl rfl (by decide +kernel)
set_option maxRecDepth 20000 in
theorem xq0_466 (δ : xe_Dy) : xe_OK δ xM_Y xM_L xY0 466 (.inl xe_lcmp) := xo_lcmp (δ := δ) (Y := xY0) (k := 466) (pc := 787) rfl rfl (by decide +kernel)
set_option maxRecDepth 20000 in
theorem xq0_467 (δ : xe_Dy) : xe_OK δ xM_Y xM_L xY0 467 (.inl (xe_ifeq 470)) := xo_ifeq (δ := δ) (Y := xY0) (k := 467) (pc := 788) rfl rfl (b := 470) (tgt := 793) (off := 5) rfl (by decide +kernel) (by decide)
set_option maxRecDepth 20000 in
theorem xq0_468 (δ : xe_Dy) : xe_OK δ xM_Y xM_L xY0 468 (.inl (xe_push (.int (0)))) := xo_iconst (δ := δ) (Y := xY0) (k := 468) (pc := 791) rfl rfl (n := 0) (by decide +kernel) (by decide)
set_option maxRecDepth 20000 in
theorem xq0_469 (δ : xe_Dy) : xe_OK δ xM_Y xM_L xY0 469 (.inr (.inr 3)) := ⟨rfl, (by decide +kernel)⟩
set_option maxRecDepth 20000 in
theorem xq0_470 (δ : xe_Dy) : xe_OK δ xM_Y xM_L xY0 470 (.inl (xe_goto 541)) := xo_goto (δ := δ) (Y := xY0) (k := 470) (pc := 793) rfl (b := 541) (tgt := 908) (off := 115) rfl (by decide +kernel) (by decide)
set_option maxRecDepth 20000 in
theorem xq0_471 (δ : xe_Dy) : xe_OK δ xM_Y xM_L xY0 471 (.inl (xe_ldA 1)) := xo_aload_n (δ := δ) (Y := xY0) (k := 471) (pc := 796) rfl rfl (q := 1) (i := 1) (by decide +kernel) rfl
set_option maxRecDepth 20000 in
theorem xq0_472 (δ : xe_Dy) : xe_OK δ xM_Y xM_L xY0 472 (.inl (xe_ldA 0)) := xo_aload_n (δ := δ) (Y := xY0) (k := 472) (pc := 797) rfl rfl (q := 0) (i := 0) (by decide +kernel) rfl
set_option maxRecDepth 20000 in
theorem xq0_473 (δ : xe_Dy) : xe_OK δ xM_Y xM_L xY0 473 (.inl (xe_ldI 4)) := xo_iload (δ := δ) (Y := xY0) (k := 473) (pc := 798) rfl rfl (i := 4) (by decide +kernel)
set_option maxRecDepth 20000 in
theorem xq0_474 (δ : xe_Dy) : xe_OK δ xM_Y xM_L xY0 474 (.inl (xe_push (.int (1)))) := xo_iconst (δ := δ) (Y := xY0) (k := 474) (pc := 800) rfl rfl (n := 1) (by decide +kernel) (by decide)
set_option maxRecDepth 20000 in
theorem xq0_475 (δ : xe_Dy) : xe_OK δ xM_Y xM_L xY0 475 (.inl (xe_i2 (fun x y => x + y))) := xo_iadd (δ := δ) (Y := xY0) (k := 475) (pc := 801) rfl rfl (by decide +kernel)
set_option maxRecDepth 20000 in
theorem xq0_476 (δ : xe_Dy) : xe_OK δ xM_Y xM_L xY0 476 (.inl (xe_sld δ)) := xo_sld (δ := δ) (Y := xY0) (k := 476) (pc := 802) rfl rfl (by decide +kernel)
set_option maxRecDepth 20000 in
theorem xq0_477 (δ : xe_Dy) : xe_OK δ xM_Y xM_L xY0 477 (.inl (xe_ldA 3)) := xo_aload_n (δ := δ) (Y := xY0) (k := 477) (pc := 803) rfl rfl (q := 3) (i := 3) (by decide +kernel) rfl
set_option maxRecDepth 20000 in
theorem xq0_478 (δ : xe_Dy) : xe_OK δ xM_Y xM_L xY0 478 (.inr (.inl (124, 3, 0))) := ⟨xY124, rfl, rfl, xm124, xc_static (δ := δ) (Y := xY0) (Z := xY124) (k := 478) (pc := 804) (index := 117) (na := 3) (z := 124) (nest := none) rfl rfl (by decide +kernel) (xg_w 1137 (by decide +kernel)) (xg_w 1138 (by decide +kernel)) xm124.2.1 xm124.1 ⟨by decide, by decide⟩ rfl⟩
set_option maxRecDepth 20000 in
theorem xq0_479 (δ : xe_Dy) : xe_OK δ xM_Y xM_L xY0 479 (.inl (xe_stI 5)) := xo_istore (δ := δ) (Y := xY0) (k := 479) (pc := 807) rfl rfl (i := 5) (by decide +kernel) (by decide)
set_option maxRecDepth 20000 in
theorem xq0_480 (δ : xe_Dy) : xe_OK δ xM_Y xM_L xY0 480 (.inl (xe_ldA 2)) := xo_aload_n (δ := δ) (Y := xY0) (k := 480) (pc := 809) rfl rfl (q := 2) (i := 2) (by decide +kernel) rfl
set_option maxRecDepth 20000 in
theorem xq0_481 (δ : xe_Dy) : xe_OK δ xM_Y xM_L xY0 481 (.inl (xe_ldA 0)) := xo_aload_n (δ := δ) (Y := xY0) (k := 481) (pc := 810) rfl rfl (q := 0) (i := 0) (by decide +kernel) rfl
set_option maxRecDepth 20000 in
theorem xq0_482 (δ : xe_Dy) : xe_OK δ xM_Y xM_L xY0 482 (.inl (xe_ldI 4)) := xo_iload (δ := δ) (Y := xY0) (k := 482) (pc := 811) rfl rfl (i := 4) (by decide +kernel)
set_option maxRecDepth 20000 in
theorem xq0_483 (δ : xe_Dy) : xe_OK δ xM_Y xM_L xY0 483 (.inl (xe_push (.int (1)))) := xo_iconst (δ := δ) (Y := xY0) (k := 483) (pc := 813) rfl rfl (n := 1) (by decide +kernel) (by decide)
set_option maxRecDepth 20000 in
theorem xq0_484 (δ : xe_Dy) : xe_OK δ xM_Y xM_L xY0 484 (.inl (xe_i2 (fun x y => x + y))) := xo_iadd (δ := δ) (Y := xY0) (k := 484) (pc := 814) rfl rfl (by decide +kernel)
set_option maxRecDepth 20000 in
theorem xq0_485 (δ : xe_Dy) : xe_OK δ xM_Y xM_L xY0 485 (.inl (xe_sld δ)) := xo_sld (δ := δ) (Y := xY0) (k := 485) (pc := 815) rfl rfl (by decide +kernel)
set_option maxRecDepth 20000 in
theorem xq0_486 (δ : xe_Dy) : xe_OK δ xM_Y xM_L xY0 486 (.inr (.inl (196, 2, 12))) := ⟨xY196, rfl, rfl, xm196, xc_virtual (δ := δ) (Y := xY0) (Z := xY196) (k := 486) (pc := 816) (index := 119) (ci := 11) (na := 1) (z := 196) (nest := none) rfl rfl (by decide +kernel) rfl (xg_w 1705 (by decide +kernel)) (xg_w 1706 (by decide +kernel)) (xg_w 1707 (by decide +kernel)) xm196.1 ⟨by decide, by decide⟩ rfl⟩
set_option maxRecDepth 20000 in
theorem xq0_487 (δ : xe_Dy) : xe_OK δ xM_Y xM_L xY0 487 (.inl (xe_stI 6)) := xo_istore (δ := δ) (Y := xY0) (k := 487) (pc := 819) rfl rfl (i := 6) (by decide +kernel) (by decide)
set_option maxRecDepth 20000 in
theorem xq0_488 (δ : xe_Dy) : xe_OK δ xM_Y xM_L xY0 488 (.inl (xe_ldA 2)) := xo_aload_n (δ := δ) (Y := xY0) (k := 488) (pc := 821) rfl rfl (q := 2) (i := 2) (by decide +kernel) rfl
set_option maxRecDepth 20000 in
theorem xq0_489 (δ : xe_Dy) : xe_OK δ xM_Y xM_L xY0 489 (.inr (.inl (129, 1, 12))) := ⟨xY129, rfl, rfl, xm129, xc_virtual (δ := δ) (Y := xY0) (Z := xY129) (k := 489) (pc := 822) (index := 84) (ci := 11) (na := 0) (z := 129) (nest := none) rfl rfl (by decide +kernel) rfl (xg_w 1430 (by decide +kernel)) (xg_w 1431 (by decide +kernel)) (xg_w 1432 (by decide +kernel)) xm129.1 ⟨by decide, by decide⟩ rfl⟩
set_option maxRecDepth 20000 in
theorem xq0_490 (δ : xe_Dy) : xe_OK δ xM_Y xM_L xY0 490 (.inl (xe_ldI 5)) := xo_iload (δ := δ) (Y := xY0) (k := 490) (pc := 825) rfl rfl (i := 5) (by decide +kernel)
set_option maxRecDepth 20000 in
theorem xq0_491 (δ : xe_Dy) : xe_OK δ xM_Y xM_L xY0 491 (.inl (xe_iceq 494)) := xo_iceq (δ := δ) (Y := xY0) (k := 491) (pc := 827) rfl rfl (b := 494) (tgt := 832) (off := 5) rfl (by decide +kernel) (by decide)
set_option maxRecDepth 20000 in
theorem xq0_492 (δ : xe_Dy) : xe_OK δ xM_Y xM_L xY0 492 (.inl (xe_push (.int (0)))) := xo_iconst (δ := δ) (Y := xY0) (k := 492) (pc := 830) rfl rfl (n := 0) (by decide +kernel) (by decide)
set_option maxRecDepth 20000 in
theorem xq0_493 (δ : xe_Dy) : xe_OK δ xM_Y xM_L xY0 493 (.inr (.inr 3)) := ⟨rfl, (by decide +kernel)⟩
set_option maxRecDepth 20000 in
theorem xq0_494 (δ : xe_Dy) : xe_OK δ xM_Y xM_L xY0 494 (.inl (xe_ldI 5)) := xo_iload (δ := δ) (Y := xY0) (k := 494) (pc := 832) rfl rfl (i := 5) (by decide +kernel)
set_option maxRecDepth 20000 in
theorem xq0_495 (δ : xe_Dy) : xe_OK δ xM_Y xM_L xY0 495 (.inl (xe_ifne 505)) := xo_ifne (δ := δ) (Y := xY0) (k := 495) (pc := 834) rfl rfl (b := 505) (tgt := 849) (off := 15) rfl (by decide +kernel) (by decide)
set_option maxRecDepth 20000 in
theorem xq0_496 (δ : xe_Dy) : xe_OK δ xM_Y xM_L xY0 496 (.inl (xe_ldA 3)) := xo_aload_n (δ := δ) (Y := xY0) (k := 496) (pc := 837) rfl rfl (q := 3) (i := 3) (by decide +kernel) rfl
set_option maxRecDepth 20000 in
theorem xq0_497 (δ : xe_Dy) : xe_OK δ xM_Y xM_L xY0 497 (.inl (xe_push (.int (0)))) := xo_iconst (δ := δ) (Y := xY0) (k := 497) (pc := 838) rfl rfl (n := 0) (by decide +kernel) (by decide)
set_option maxRecDepth 20000 in
theorem xq0_498 (δ : xe_Dy) : xe_OK δ xM_Y xM_L xY0 498 (.inl xe_aldL) := xo_laload (δ := δ) (Y := xY0) (k := 498) (pc := 839) rfl rfl rfl (by decide +kernel)
set_option maxRecDepth 20000 in
theorem xq0_499 (δ : xe_Dy) : xe_OK δ xM_Y xM_L xY0 499 (.inl (xe_ldI 6)) := xo_iload (δ := δ) (Y := xY0) (k := 499) (pc := 840) rfl rfl (i := 6) (by decide +kernel)
set_option maxRecDepth 20000 in
theorem xq0_500 (δ : xe_Dy) : xe_OK δ xM_Y xM_L xY0 500 (.inl xe_i2l) := xo_i2l (δ := δ) (Y := xY0) (k := 500) (pc := 842) rfl rfl (by decide +kernel)
set_option maxRecDepth 20000 in
theorem xq0_501 (δ : xe_Dy) : xe_OK δ xM_Y xM_L xY0 501 (.inl xe_lcmp) := xo_lcmp (δ := δ) (Y := xY0) (k := 501) (pc := 843) rfl rfl (by decide +kernel)
set_option maxRecDepth 20000 in
theorem xq0_502 (δ : xe_Dy) : xe_OK δ xM_Y xM_L xY0 502 (.inl (xe_ifeq 505)) := xo_ifeq (δ := δ) (Y := xY0) (k := 502) (pc := 844) rfl rfl (b := 505) (tgt := 849) (off := 5) rfl (by decide +kernel) (by decide)
set_option maxRecDepth 20000 in
theorem xq0_503 (δ : xe_Dy) : xe_OK δ xM_Y xM_L xY0 503 (.inl (xe_push (.int (0)))) := xo_iconst (δ := δ) (Y := xY0) (k := 503) (pc := 847) rfl rfl (n := 0) (by decide +kernel) (by decide)
set_option maxRecDepth 20000 in
theorem xq0_504 (δ : xe_Dy) : xe_OK δ xM_Y xM_L xY0 504 (.inr (.inr 3)) := ⟨rfl, (by decide +kernel)⟩
set_option maxRecDepth 20000 in
theorem xq0_505 (δ : xe_Dy) : xe_OK δ xM_Y xM_L xY0 505 (.inl (xe_goto 541)) := xo_goto (δ := δ) (Y := xY0) (k := 505) (pc := 849) rfl (b := 541) (tgt := 908) (off := 59) rfl (by decide +kernel) (by decide)
set_option maxRecDepth 20000 in
theorem xq0_506 (δ : xe_Dy) : xe_OK δ xM_Y xM_L xY0 506 (.inl (xe_ldA 1)) := xo_aload_n (δ := δ) (Y := xY0) (k := 506) (pc := 852) rfl rfl (q := 1) (i := 1) (by decide +kernel) rfl
set_option maxRecDepth 20000 in
theorem xq0_507 (δ : xe_Dy) : xe_OK δ xM_Y xM_L xY0 507 (.inl (xe_ldA 0)) := xo_aload_n (δ := δ) (Y := xY0) (k := 507) (pc := 853) rfl rfl (q := 0) (i := 0) (by decide +kernel) rfl
set_option maxRecDepth 20000 in
theorem xq0_508 (δ : xe_Dy) : xe_OK δ xM_Y xM_L xY0 508 (.inl (xe_ldI 4)) := xo_iload (δ := δ) (Y := xY0) (k := 508) (pc := 854) rfl rfl (i := 4) (by decide +kernel)
set_option maxRecDepth 20000 in
theorem xq0_509 (δ : xe_Dy) : xe_OK δ xM_Y xM_L xY0 509 (.inl (xe_push (.int (1)))) := xo_iconst (δ := δ) (Y := xY0) (k := 509) (pc := 856) rfl rfl (n := 1) (by decide +kernel) (by decide)
set_option maxRecDepth 20000 in
theorem xq0_510 (δ : xe_Dy) : xe_OK δ xM_Y xM_L xY0 510 (.inl (xe_i2 (fun x y => x + y))) := xo_iadd (δ := δ) (Y := xY0) (k := 510) (pc := 857) rfl rfl (by decide +kernel)
set_option maxRecDepth 20000 in
theorem xq0_511 (δ : xe_Dy) : xe_OK δ xM_Y xM_L xY0 511 (.inl (xe_sld δ)) := xo_sld (δ := δ) (Y := xY0) (k := 511) (pc := 858) rfl rfl (by decide +kernel)
set_option maxRecDepth 20000 in
theorem xq0_512 (δ : xe_Dy) : xe_OK δ xM_Y xM_L xY0 512 (.inl (xe_ldA 3)) := xo_aload_n (δ := δ) (Y := xY0) (k := 512) (pc := 859) rfl rfl (q := 3) (i := 3) (by decide +kernel) rfl
set_option maxRecDepth 20000 in
theorem xq0_513 (δ : xe_Dy) : xe_OK δ xM_Y xM_L xY0 513 (.inr (.inl (126, 3, 0))) := ⟨xY126, rfl, rfl, xm126, xc_static (δ := δ) (Y := xY0) (Z := xY126) (k := 513) (pc := 860) (index := 120) (na := 3) (z := 126) (nest := none) rfl rfl (by decide +kernel) (xg_w 1144 (by decide +kernel)) (xg_w 1145 (by decide +kernel)) xm126.2.1 xm126.1 ⟨by decide, by decide⟩ rfl⟩
set_option maxRecDepth 20000 in
theorem xq0_514 (δ : xe_Dy) : xe_OK δ xM_Y xM_L xY0 514 (.inl (xe_stI 5)) := xo_istore (δ := δ) (Y := xY0) (k := 514) (pc := 863) rfl rfl (i := 5) (by decide +kernel) (by decide)
set_option maxRecDepth 20000 in
theorem xq0_515 (δ : xe_Dy) : xe_OK δ xM_Y xM_L xY0 515 (.inl (xe_ldA 2)) := xo_aload_n (δ := δ) (Y := xY0) (k := 515) (pc := 865) rfl rfl (q := 2) (i := 2) (by decide +kernel) rfl
set_option maxRecDepth 20000 in
theorem xq0_516 (δ : xe_Dy) : xe_OK δ xM_Y xM_L xY0 516 (.inl (xe_ldA 0)) := xo_aload_n (δ := δ) (Y := xY0) (k := 516) (pc := 866) rfl rfl (q := 0) (i := 0) (by decide +kernel) rfl
set_option maxRecDepth 20000 in
theorem xq0_517 (δ : xe_Dy) : xe_OK δ xM_Y xM_L xY0 517 (.inl (xe_ldI 4)) := xo_iload (δ := δ) (Y := xY0) (k := 517) (pc := 867) rfl rfl (i := 4) (by decide +kernel)
set_option maxRecDepth 20000 in
theorem xq0_518 (δ : xe_Dy) : xe_OK δ xM_Y xM_L xY0 518 (.inl (xe_push (.int (1)))) := xo_iconst (δ := δ) (Y := xY0) (k := 518) (pc := 869) rfl rfl (n := 1) (by decide +kernel) (by decide)
set_option maxRecDepth 20000 in
theorem xq0_519 (δ : xe_Dy) : xe_OK δ xM_Y xM_L xY0 519 (.inl (xe_i2 (fun x y => x + y))) := xo_iadd (δ := δ) (Y := xY0) (k := 519) (pc := 870) rfl rfl (by decide +kernel)
set_option maxRecDepth 20000 in
theorem xq0_520 (δ : xe_Dy) : xe_OK δ xM_Y xM_L xY0 520 (.inl (xe_sld δ)) := xo_sld (δ := δ) (Y := xY0) (k := 520) (pc := 871) rfl rfl (by decide +kernel)
set_option maxRecDepth 20000 in
theorem xq0_521 (δ : xe_Dy) : xe_OK δ xM_Y xM_L xY0 521 (.inr (.inl (197, 2, 12))) := ⟨xY197, rfl, rfl, xm197, xc_virtual (δ := δ) (Y := xY0) (Z := xY197) (k := 521) (pc := 872) (index := 122) (ci := 11) (na := 1) (z := 197) (nest := none) rfl rfl (by decide +kernel) rfl (xg_w 1710 (by decide +kernel)) (xg_w 1711 (by decide +kernel)) (xg_w 1712 (by decide +kernel)) xm197.1 ⟨by decide, by decide⟩ rfl⟩
set_option maxRecDepth 20000 in
theorem xq0_522 (δ : xe_Dy) : xe_OK δ xM_Y xM_L xY0 522 (.inl (xe_stI 6)) := xo_istore (δ := δ) (Y := xY0) (k := 522) (pc := 875) rfl rfl (i := 6) (by decide +kernel) (by decide)
set_option maxRecDepth 20000 in
theorem xq0_523 (δ : xe_Dy) : xe_OK δ xM_Y xM_L xY0 523 (.inl (xe_ldA 2)) := xo_aload_n (δ := δ) (Y := xY0) (k := 523) (pc := 877) rfl rfl (q := 2) (i := 2) (by decide +kernel) rfl
set_option maxRecDepth 20000 in
theorem xq0_524 (δ : xe_Dy) : xe_OK δ xM_Y xM_L xY0 524 (.inr (.inl (129, 1, 12))) := ⟨xY129, rfl, rfl, xm129, xc_virtual (δ := δ) (Y := xY0) (Z := xY129) (k := 524) (pc := 878) (index := 84) (ci := 11) (na := 0) (z := 129) (nest := none) rfl rfl (by decide +kernel) rfl (xg_w 1430 (by decide +kernel)) (xg_w 1431 (by decide +kernel)) (xg_w 1432 (by decide +kernel)) xm129.1 ⟨by decide, by decide⟩ rfl⟩
set_option maxRecDepth 20000 in
theorem xq0_525 (δ : xe_Dy) : xe_OK δ xM_Y xM_L xY0 525 (.inl (xe_ldI 5)) := xo_iload (δ := δ) (Y := xY0) (k := 525) (pc := 881) rfl rfl (i := 5) (by decide +kernel)
set_option maxRecDepth 20000 in
theorem xq0_526 (δ : xe_Dy) : xe_OK δ xM_Y xM_L xY0 526 (.inl (xe_iceq 529)) := xo_iceq (δ := δ) (Y := xY0) (k := 526) (pc := 883) rfl rfl (b := 529) (tgt := 888) (off := 5) rfl (by decide +kernel) (by decide)
set_option maxRecDepth 20000 in
theorem xq0_527 (δ : xe_Dy) : xe_OK δ xM_Y xM_L xY0 527 (.inl (xe_push (.int (0)))) := xo_iconst (δ := δ) (Y := xY0) (k := 527) (pc := 886) rfl rfl (n := 0) (by decide +kernel) (by decide)
set_option maxRecDepth 20000 in
theorem xq0_528 (δ : xe_Dy) : xe_OK δ xM_Y xM_L xY0 528 (.inr (.inr 3)) := ⟨rfl, (by decide +kernel)⟩
set_option maxRecDepth 20000 in
theorem xq0_529 (δ : xe_Dy) : xe_OK δ xM_Y xM_L xY0 529 (.inl (xe_ldI 5)) := xo_iload (δ := δ) (Y := xY0) (k := 529) (pc := 888) rfl rfl (i := 5) (by decide +kernel)
set_option maxRecDepth 20000 in
theorem xq0_530 (δ : xe_Dy) : xe_OK δ xM_Y xM_L xY0 530 (.inl (xe_ifne 540)) := xo_ifne (δ := δ) (Y := xY0) (k := 530) (pc := 890) rfl rfl (b := 540) (tgt := 905) (off := 15) rfl (by decide +kernel) (by decide)
set_option maxRecDepth 20000 in
theorem xq0_531 (δ : xe_Dy) : xe_OK δ xM_Y xM_L xY0 531 (.inl (xe_ldA 3)) := xo_aload_n (δ := δ) (Y := xY0) (k := 531) (pc := 893) rfl rfl (q := 3) (i := 3) (by decide +kernel) rfl
set_option maxRecDepth 20000 in
theorem xq0_532 (δ : xe_Dy) : xe_OK δ xM_Y xM_L xY0 532 (.inl (xe_push (.int (0)))) := xo_iconst (δ := δ) (Y := xY0) (k := 532) (pc := 894) rfl rfl (n := 0) (by decide +kernel) (by decide)
set_option maxRecDepth 20000 in
theorem xq0_533 (δ : xe_Dy) : xe_OK δ xM_Y xM_L xY0 533 (.inl xe_aldL) := xo_laload (δ := δ) (Y := xY0) (k := 533) (pc := 895) rfl rfl rfl (by decide +kernel)
set_option maxRecDepth 20000 in
theorem xq0_534 (δ : xe_Dy) : xe_OK δ xM_Y xM_L xY0 534 (.inl (xe_ldI 6)) := xo_iload (δ := δ) (Y := xY0) (k := 534) (pc := 896) rfl rfl (i := 6) (by decide +kernel)
set_option maxRecDepth 20000 in
theorem xq0_535 (δ : xe_Dy) : xe_OK δ xM_Y xM_L xY0 535 (.inl xe_i2l) := xo_i2l (δ := δ) (Y := xY0) (k := 535) (pc := 898) rfl rfl (by decide +kernel)
set_option maxRecDepth 20000 in
theorem xq0_536 (δ : xe_Dy) : xe_OK δ xM_Y xM_L xY0 536 (.inl xe_lcmp) := xo_lcmp (δ := δ) (Y := xY0) (k := 536) (pc := 899) rfl rfl (by decide +kernel)
set_option maxRecDepth 20000 in
theorem xq0_537 (δ : xe_Dy) : xe_OK δ xM_Y xM_L xY0 537 (.inl (xe_ifeq 540)) := xo_ifeq (δ := δ) (Y := xY0) (k := 537) (pc := 900) rfl rfl (b := 540) (tgt := 905) (off := 5) rfl (by decide +kernel) (by decide)
set_option maxRecDepth 20000 in
theorem xq0_538 (δ : xe_Dy) : xe_OK δ xM_Y xM_L xY0 538 (.inl (xe_push (.int (0)))) := xo_iconst (δ := δ) (Y := xY0) (k := 538) (pc := 903) rfl rfl (n := 0) (by decide +kernel) (by decide)
set_option maxRecDepth 20000 in
theorem xq0_539 (δ : xe_Dy) : xe_OK δ xM_Y xM_L xY0 539 (.inr (.inr 3)) := ⟨rfl, (by decide +kernel)⟩
set_option maxRecDepth 20000 in
theorem xq0_540 (δ : xe_Dy) : xe_OK δ xM_Y xM_L xY0 540 (.inl (xe_goto 541)) := xo_goto (δ := δ) (Y := xY0) (k := 540) (pc := 905) rfl (b := 541) (tgt := 908) (off := 3) rfl (by decide +kernel) (by decide)
set_option maxRecDepth 20000 in
theorem xq0_541 (δ : xe_Dy) : xe_OK δ xM_Y xM_L xY0 541 (.inl (xe_inc 4 (6))) := xo_iinc (δ := δ) (Y := xY0) (k := 541) (pc := 908) rfl rfl (i := 4) (n := 6) (by decide +kernel) (by decide) (by decide)
set_option maxRecDepth 20000 in
theorem xq0_542 (δ : xe_Dy) : xe_OK δ xM_Y xM_L xY0 542 (.inl (xe_goto 13)) := xo_goto (δ := δ) (Y := xY0) (k := 542) (pc := 911) rfl (b := 13) (tgt := 23) (off := -888) rfl (by decide +kernel) (by decide)
set_option maxRecDepth 20000 in
theorem xq0_543 (δ : xe_Dy) : xe_OK δ xM_Y xM_L xY0 543 (.inl (xe_push (.int (1)))) := xo_iconst (δ := δ) (Y := xY0) (k := 543) (pc := 914) rfl rfl (n := 1) (by decide +kernel) (by decide)
set_option maxRecDepth 20000 in
theorem xq0_544 (δ : xe_Dy) : xe_OK δ xM_Y xM_L xY0 544 (.inr (.inr 3)) := ⟨rfl, (by decide +kernel)⟩
set_option maxRecDepth 20000 in
theorem xa0_0 (δ : xe_Dy) : xe_All δ xM_Y xM_L xY0 0 (xc0_0 δ) := xe_All_cons (xq0_0 δ) rfl ( xe_All_cons (xq0_1 δ) rfl ( xe_All_cons (xq0_2 δ) rfl ( xe_All_cons (xq0_3 δ) rfl ( xe_All_cons (xq0_4 δ) rfl ( xe_All_cons (xq0_5 δ) rfl ( xe_All_cons (xq0_6 δ) rfl ( xe_All_cons (xq0_7 δ) rfl ( xe_All_cons (xq0_8 δ) rfl ( xe_All_cons (xq0_9 δ) rfl ( xe_All_cons (xq0_10 δ) rfl ( xe_All_cons (xq0_11 δ) rfl ( xe_All_cons (xq0_12 δ) rfl ( xe_All_cons (xq0_13 δ) rfl ( xe_All_cons (xq0_14 δ) rfl ( xe_All_cons (xq0_15 δ) rfl ( xe_All_cons (xq0_16 δ) rfl ( xe_All_cons (xq0_17 δ) rfl ( xe_All_cons (xq0_18 δ) rfl ( xe_All_cons (xq0_19 δ) rfl ( xe_All_cons (xq0_20 δ) rfl ( xe_All_cons (xq0_21 δ) rfl ( xe_All_cons (xq0_22 δ) rfl ( xe_All_cons (xq0_23 δ) rfl ( xe_All_nil))))))))))))))))))))))))
set_option maxRecDepth 20000 in
theorem xa0_1 (δ : xe_Dy) : xe_All δ xM_Y xM_L xY0 24 (xc0_1 δ) := xe_All_cons (xq0_24 δ) rfl ( xe_All_cons (xq0_25 δ) rfl ( xe_All_cons (xq0_26 δ) rfl ( xe_All_cons (xq0_27 δ) rfl ( xe_All_cons (xq0_28 δ) rfl ( xe_All_cons (xq0_29 δ) rfl ( xe_All_cons (xq0_30 δ) rfl ( xe_All_cons (xq0_31 δ) rfl ( xe_All_cons (xq0_32 δ) rfl ( xe_All_cons (xq0_33 δ) rfl ( xe_All_cons (xq0_34 δ) rfl ( xe_All_cons (xq0_35 δ) rfl ( xe_All_cons (xq0_36 δ) rfl ( xe_All_cons (xq0_37 δ) rfl ( xe_All_cons (xq0_38 δ) rfl ( xe_All_cons (xq0_39 δ) rfl ( xe_All_cons (xq0_40 δ) rfl ( xe_All_cons (xq0_41 δ) rfl ( xe_All_cons (xq0_42 δ) rfl ( xe_All_cons (xq0_43 δ) rfl ( xe_All_cons (xq0_44 δ) rfl ( xe_All_cons (xq0_45 δ) rfl ( xe_All_cons (xq0_46 δ) rfl ( xe_All_cons (xq0_47 δ) rfl ( xe_All_nil))))))))))))))))))))))))
set_option maxRecDepth 20000 in
theorem xa0_2 (δ : xe_Dy) : xe_All δ xM_Y xM_L xY0 48 (xc0_2 δ) := xe_All_cons (xq0_48 δ) rfl ( xe_All_cons (xq0_49 δ) rfl ( xe_All_cons (xq0_50 δ) rfl ( xe_All_cons (xq0_51 δ) rfl ( xe_All_cons (xq0_52 δ) rfl ( xe_All_cons (xq0_53 δ) rfl ( xe_All_cons (xq0_54 δ) rfl ( xe_All_cons (xq0_55 δ) rfl ( xe_All_cons (xq0_56 δ) rfl ( xe_All_cons (xq0_57 δ) rfl ( xe_All_cons (xq0_58 δ) rfl ( xe_All_cons (xq0_59 δ) rfl ( xe_All_cons (xq0_60 δ) rfl ( xe_All_cons (xq0_61 δ) rfl ( xe_All_cons (xq0_62 δ) rfl ( xe_All_cons (xq0_63 δ) rfl ( xe_All_cons (xq0_64 δ) rfl ( xe_All_cons (xq0_65 δ) rfl ( xe_All_cons (xq0_66 δ) rfl ( xe_All_cons (xq0_67 δ) rfl ( xe_All_cons (xq0_68 δ) rfl ( xe_All_cons (xq0_69 δ) rfl ( xe_All_cons (xq0_70 δ) rfl ( xe_All_cons (xq0_71 δ) rfl ( xe_All_nil))))))))))))))))))))))))
set_option maxRecDepth 20000 in
theorem xa0_3 (δ : xe_Dy) : xe_All δ xM_Y xM_L xY0 72 (xc0_3 δ) := xe_All_cons (xq0_72 δ) rfl ( xe_All_cons (xq0_73 δ) rfl ( xe_All_cons (xq0_74 δ) rfl ( xe_All_cons (xq0_75 δ) rfl ( xe_All_cons (xq0_76 δ) rfl ( xe_All_cons (xq0_77 δ) rfl ( xe_All_cons (xq0_78 δ) rfl ( xe_All_cons (xq0_79 δ) rfl ( xe_All_cons (xq0_80 δ) rfl ( xe_All_cons (xq0_81 δ) rfl ( xe_All_cons (xq0_82 δ) rfl ( xe_All_cons (xq0_83 δ) rfl ( xe_All_cons (xq0_84 δ) rfl ( xe_All_cons (xq0_85 δ) rfl ( xe_All_cons (xq0_86 δ) rfl ( xe_All_cons (xq0_87 δ) rfl ( xe_All_cons (xq0_88 δ) rfl ( xe_All_cons (xq0_89 δ) rfl ( xe_All_cons (xq0_90 δ) rfl ( xe_All_cons (xq0_91 δ) rfl ( xe_All_cons (xq0_92 δ) rfl ( xe_All_cons (xq0_93 δ) rfl ( xe_All_cons (xq0_94 δ) rfl ( xe_All_cons (xq0_95 δ) rfl ( xe_All_nil))))))))))))))))))))))))
set_option maxRecDepth 20000 in
theorem xa0_4 (δ : xe_Dy) : xe_All δ xM_Y xM_L xY0 96 (xc0_4 δ) := xe_All_cons (xq0_96 δ) rfl ( xe_All_cons (xq0_97 δ) rfl ( xe_All_cons (xq0_98 δ) rfl ( xe_All_cons (xq0_99 δ) rfl ( xe_All_cons (xq0_100 δ) rfl ( xe_All_cons (xq0_101 δ) rfl ( xe_All_cons (xq0_102 δ) rfl ( xe_All_cons (xq0_103 δ) rfl ( xe_All_cons (xq0_104 δ) rfl ( xe_All_cons (xq0_105 δ) rfl ( xe_All_cons (xq0_106 δ) rfl ( xe_All_cons (xq0_107 δ) rfl ( xe_All_cons (xq0_108 δ) rfl ( xe_All_cons (xq0_109 δ) rfl ( xe_All_cons (xq0_110 δ) rfl ( xe_All_cons (xq0_111 δ) rfl ( xe_All_cons (xq0_112 δ) rfl ( xe_All_cons (xq0_113 δ) rfl ( xe_All_cons (xq0_114 δ) rfl ( xe_All_cons (xq0_115 δ) rfl ( xe_All_cons (xq0_116 δ) rfl ( xe_All_cons (xq0_117 δ) rfl ( xe_All_cons (xq0_118 δ) rfl ( xe_All_cons (xq0_119 δ) rfl ( xe_All_nil))))))))))))))))))))))))
set_option maxRecDepth 20000 in
theorem xa0_5 (δ : xe_Dy) : xe_All δ xM_Y xM_L xY0 120 (xc0_5 δ) := xe_All_cons (xq0_120 δ) rfl ( xe_All_cons (xq0_121 δ) rfl ( xe_All_cons (xq0_122 δ) rfl ( xe_All_cons (xq0_123 δ) rfl ( xe_All_cons (xq0_124 δ) rfl ( xe_All_cons (xq0_125 δ) rfl ( xe_All_cons (xq0_126 δ) rfl ( xe_All_cons (xq0_127 δ) rfl ( xe_All_cons (xq0_128 δ) rfl ( xe_All_cons (xq0_129 δ) rfl ( xe_All_cons (xq0_130 δ) rfl ( xe_All_cons (xq0_131 δ) rfl ( xe_All_cons (xq0_132 δ) rfl ( xe_All_cons (xq0_133 δ) rfl ( xe_All_cons (xq0_134 δ) rfl ( xe_All_cons (xq0_135 δ) rfl ( xe_All_cons (xq0_136 δ) rfl ( xe_All_cons (xq0_137 δ) rfl ( xe_All_cons (xq0_138 δ) rfl ( xe_All_cons (xq0_139 δ) rfl ( xe_All_cons (xq0_140 δ) rfl ( xe_All_cons (xq0_141 δ) rfl ( xe_All_cons (xq0_142 δ) rfl ( xe_All_cons (xq0_143 δ) rfl ( xe_All_nil))))))))))))))))))))))))
set_option maxRecDepth 20000 in
theorem xa0_6 (δ : xe_Dy) : xe_All δ xM_Y xM_L xY0 144 (xc0_6 δ) := xe_All_cons (xq0_144 δ) rfl ( xe_All_cons (xq0_145 δ) rfl ( xe_All_cons (xq0_146 δ) rfl ( xe_All_cons (xq0_147 δ) rfl ( xe_All_cons (xq0_148 δ) rfl ( xe_All_cons (xq0_149 δ) rfl ( xe_All_cons (xq0_150 δ) rfl ( xe_All_cons (xq0_151 δ) rfl ( xe_All_cons (xq0_152 δ) rfl ( xe_All_cons (xq0_153 δ) rfl ( xe_All_cons (xq0_154 δ) rfl ( xe_All_cons (xq0_155 δ) rfl ( xe_All_cons (xq0_156 δ) rfl ( xe_All_cons (xq0_157 δ) rfl ( xe_All_cons (xq0_158 δ) rfl ( xe_All_cons (xq0_159 δ) rfl ( xe_All_cons (xq0_160 δ) rfl ( xe_All_cons (xq0_161 δ) rfl ( xe_All_cons (xq0_162 δ) rfl ( xe_All_cons (xq0_163 δ) rfl ( xe_All_cons (xq0_164 δ) rfl ( xe_All_cons (xq0_165 δ) rfl ( xe_All_cons (xq0_166 δ) rfl ( xe_All_cons (xq0_167 δ) rfl ( xe_All_nil))))))))))))))))))))))))
set_option maxRecDepth 20000 in
theorem xa0_7 (δ : xe_Dy) : xe_All δ xM_Y xM_L xY0 168 (xc0_7 δ) := xe_All_cons (xq0_168 δ) rfl ( xe_All_cons (xq0_169 δ) rfl ( xe_All_cons (xq0_170 δ) rfl ( xe_All_cons (xq0_171 δ) rfl ( xe_All_cons (xq0_172 δ) rfl ( xe_All_cons (xq0_173 δ) rfl ( xe_All_cons (xq0_174 δ) rfl ( xe_All_cons (xq0_175 δ) rfl ( xe_All_cons (xq0_176 δ) rfl ( xe_All_cons (xq0_177 δ) rfl ( xe_All_cons (xq0_178 δ) rfl ( xe_All_cons (xq0_179 δ) rfl ( xe_All_cons (xq0_180 δ) rfl ( xe_All_cons (xq0_181 δ) rfl ( xe_All_cons (xq0_182 δ) rfl ( xe_All_cons (xq0_183 δ) rfl ( xe_All_cons (xq0_184 δ) rfl ( xe_All_cons (xq0_185 δ) rfl ( xe_All_cons (xq0_186 δ) rfl ( xe_All_cons (xq0_187 δ) rfl ( xe_All_cons (xq0_188 δ) rfl ( xe_All_cons (xq0_189 δ) rfl ( xe_All_cons (xq0_190 δ) rfl ( xe_All_cons (xq0_191 δ) rfl ( xe_All_nil))))))))))))))))))))))))
set_option maxRecDepth 20000 in
theorem xa0_8 (δ : xe_Dy) : xe_All δ xM_Y xM_L xY0 192 (xc0_8 δ) := xe_All_cons (xq0_192 δ) rfl ( xe_All_cons (xq0_193 δ) rfl ( xe_All_cons (xq0_194 δ) rfl ( xe_All_cons (xq0_195 δ) rfl ( xe_All_cons (xq0_196 δ) rfl ( xe_All_cons (xq0_197 δ) rfl ( xe_All_cons (xq0_198 δ) rfl ( xe_All_cons (xq0_199 δ) rfl ( xe_All_cons (xq0_200 δ) rfl ( xe_All_cons (xq0_201 δ) rfl ( xe_All_cons (xq0_202 δ) rfl ( xe_All_cons (xq0_203 δ) rfl ( xe_All_cons (xq0_204 δ) rfl ( xe_All_cons (xq0_205 δ) rfl ( xe_All_cons (xq0_206 δ) rfl ( xe_All_cons (xq0_207 δ) rfl ( xe_All_cons (xq0_208 δ) rfl ( xe_All_cons (xq0_209 δ) rfl ( xe_All_cons (xq0_210 δ) rfl ( xe_All_cons (xq0_211 δ) rfl ( xe_All_cons (xq0_212 δ) rfl ( xe_All_cons (xq0_213 δ) rfl ( xe_All_cons (xq0_214 δ) rfl ( xe_All_cons (xq0_215 δ) rfl ( xe_All_nil))))))))))))))))))))))))
set_option maxRecDepth 20000 in
theorem xa0_9 (δ : xe_Dy) : xe_All δ xM_Y xM_L xY0 216 (xc0_9 δ) := xe_All_cons (xq0_216 δ) rfl ( xe_All_cons (xq0_217 δ) rfl ( xe_All_cons (xq0_218 δ) rfl ( xe_All_cons (xq0_219 δ) rfl ( xe_All_cons (xq0_220 δ) rfl ( xe_All_cons (xq0_221 δ) rfl ( xe_All_cons (xq0_222 δ) rfl ( xe_All_cons (xq0_223 δ) rfl ( xe_All_cons (xq0_224 δ) rfl ( xe_All_cons (xq0_225 δ) rfl ( xe_All_cons (xq0_226 δ) rfl ( xe_All_cons (xq0_227 δ) rfl ( xe_All_cons (xq0_228 δ) rfl ( xe_All_cons (xq0_229 δ) rfl ( xe_All_cons (xq0_230 δ) rfl ( xe_All_cons (xq0_231 δ) rfl ( xe_All_cons (xq0_232 δ) rfl ( xe_All_cons (xq0_233 δ) rfl ( xe_All_cons (xq0_234 δ) rfl ( xe_All_cons (xq0_235 δ) rfl ( xe_All_cons (xq0_236 δ) rfl ( xe_All_cons (xq0_237 δ) rfl ( xe_All_cons (xq0_238 δ) rfl ( xe_All_cons (xq0_239 δ) rfl ( xe_All_nil))))))))))))))))))))))))
set_option maxRecDepth 20000 in
theorem xa0_10 (δ : xe_Dy) : xe_All δ xM_Y xM_L xY0 240 (xc0_10 δ) := xe_All_cons (xq0_240 δ) rfl ( xe_All_cons (xq0_241 δ) rfl ( xe_All_cons (xq0_242 δ) rfl ( xe_All_cons (xq0_243 δ) rfl ( xe_All_cons (xq0_244 δ) rfl ( xe_All_cons (xq0_245 δ) rfl ( xe_All_cons (xq0_246 δ) rfl ( xe_All_cons (xq0_247 δ) rfl ( xe_All_cons (xq0_248 δ) rfl ( xe_All_cons (xq0_249 δ) rfl ( xe_All_cons (xq0_250 δ) rfl ( xe_All_cons (xq0_251 δ) rfl ( xe_All_cons (xq0_252 δ) rfl ( xe_All_cons (xq0_253 δ) rfl ( xe_All_cons (xq0_254 δ) rfl ( xe_All_cons (xq0_255 δ) rfl ( xe_All_cons (xq0_256 δ) rfl ( xe_All_cons (xq0_257 δ) rfl ( xe_All_cons (xq0_258 δ) rfl ( xe_All_cons (xq0_259 δ) rfl ( xe_All_cons (xq0_260 δ) rfl ( xe_All_cons (xq0_261 δ) rfl ( xe_All_cons (xq0_262 δ) rfl ( xe_All_cons (xq0_263 δ) rfl ( xe_All_nil))))))))))))))))))))))))
set_option maxRecDepth 20000 in
theorem xa0_11 (δ : xe_Dy) : xe_All δ xM_Y xM_L xY0 264 (xc0_11 δ) := xe_All_cons (xq0_264 δ) rfl ( xe_All_cons (xq0_265 δ) rfl ( xe_All_cons (xq0_266 δ) rfl ( xe_All_cons (xq0_267 δ) rfl ( xe_All_cons (xq0_268 δ) rfl ( xe_All_cons (xq0_269 δ) rfl ( xe_All_cons (xq0_270 δ) rfl ( xe_All_cons (xq0_271 δ) rfl ( xe_All_cons (xq0_272 δ) rfl ( xe_All_cons (xq0_273 δ) rfl ( xe_All_cons (xq0_274 δ) rfl ( xe_All_cons (xq0_275 δ) rfl ( xe_All_cons (xq0_276 δ) rfl ( xe_All_cons (xq0_277 δ) rfl ( xe_All_cons (xq0_278 δ) rfl ( xe_All_cons (xq0_279 δ) rfl ( xe_All_cons (xq0_280 δ) rfl ( xe_All_cons (xq0_281 δ) rfl ( xe_All_cons (xq0_282 δ) rfl ( xe_All_cons (xq0_283 δ) rfl ( xe_All_cons (xq0_284 δ) rfl ( xe_All_cons (xq0_285 δ) rfl ( xe_All_cons (xq0_286 δ) rfl ( xe_All_cons (xq0_287 δ) rfl ( xe_All_nil))))))))))))))))))))))))
set_option maxRecDepth 20000 in
theorem xa0_12 (δ : xe_Dy) : xe_All δ xM_Y xM_L xY0 288 (xc0_12 δ) := xe_All_cons (xq0_288 δ) rfl ( xe_All_cons (xq0_289 δ) rfl ( xe_All_cons (xq0_290 δ) rfl ( xe_All_cons (xq0_291 δ) rfl ( xe_All_cons (xq0_292 δ) rfl ( xe_All_cons (xq0_293 δ) rfl ( xe_All_cons (xq0_294 δ) rfl ( xe_All_cons (xq0_295 δ) rfl ( xe_All_cons (xq0_296 δ) rfl ( xe_All_cons (xq0_297 δ) rfl ( xe_All_cons (xq0_298 δ) rfl ( xe_All_cons (xq0_299 δ) rfl ( xe_All_cons (xq0_300 δ) rfl ( xe_All_cons (xq0_301 δ) rfl ( xe_All_cons (xq0_302 δ) rfl ( xe_All_cons (xq0_303 δ) rfl ( xe_All_cons (xq0_304 δ) rfl ( xe_All_cons (xq0_305 δ) rfl ( xe_All_cons (xq0_306 δ) rfl ( xe_All_cons (xq0_307 δ) rfl ( xe_All_cons (xq0_308 δ) rfl ( xe_All_cons (xq0_309 δ) rfl ( xe_All_cons (xq0_310 δ) rfl ( xe_All_cons (xq0_311 δ) rfl ( xe_All_nil))))))))))))))))))))))))
set_option maxRecDepth 20000 in
theorem xa0_13 (δ : xe_Dy) : xe_All δ xM_Y xM_L xY0 312 (xc0_13 δ) := xe_All_cons (xq0_312 δ) rfl ( xe_All_cons (xq0_313 δ) rfl ( xe_All_cons (xq0_314 δ) rfl ( xe_All_cons (xq0_315 δ) rfl ( xe_All_cons (xq0_316 δ) rfl ( xe_All_cons (xq0_317 δ) rfl ( xe_All_cons (xq0_318 δ) rfl ( xe_All_cons (xq0_319 δ) rfl ( xe_All_cons (xq0_320 δ) rfl ( xe_All_cons (xq0_321 δ) rfl ( xe_All_cons (xq0_322 δ) rfl ( xe_All_cons (xq0_323 δ) rfl ( xe_All_cons (xq0_324 δ) rfl ( xe_All_cons (xq0_325 δ) rfl ( xe_All_cons (xq0_326 δ) rfl ( xe_All_cons (xq0_327 δ) rfl ( xe_All_cons (xq0_328 δ) rfl ( xe_All_cons (xq0_329 δ) rfl ( xe_All_cons (xq0_330 δ) rfl ( xe_All_cons (xq0_331 δ) rfl ( xe_All_cons (xq0_332 δ) rfl ( xe_All_cons (xq0_333 δ) rfl ( xe_All_cons (xq0_334 δ) rfl ( xe_All_cons (xq0_335 δ) rfl ( xe_All_nil))))))))))))))))))))))))
set_option maxRecDepth 20000 in
theorem xa0_14 (δ : xe_Dy) : xe_All δ xM_Y xM_L xY0 336 (xc0_14 δ) := xe_All_cons (xq0_336 δ) rfl ( xe_All_cons (xq0_337 δ) rfl ( xe_All_cons (xq0_338 δ) rfl ( xe_All_cons (xq0_339 δ) rfl ( xe_All_cons (xq0_340 δ) rfl ( xe_All_cons (xq0_341 δ) rfl ( xe_All_cons (xq0_342 δ) rfl ( xe_All_cons (xq0_343 δ) rfl ( xe_All_cons (xq0_344 δ) rfl ( xe_All_cons (xq0_345 δ) rfl ( xe_All_cons (xq0_346 δ) rfl ( xe_All_cons (xq0_347 δ) rfl ( xe_All_cons (xq0_348 δ) rfl ( xe_All_cons (xq0_349 δ) rfl ( xe_All_cons (xq0_350 δ) rfl ( xe_All_cons (xq0_351 δ) rfl ( xe_All_cons (xq0_352 δ) rfl ( xe_All_cons (xq0_353 δ) rfl ( xe_All_cons (xq0_354 δ) rfl ( xe_All_cons (xq0_355 δ) rfl ( xe_All_cons (xq0_356 δ) rfl ( xe_All_cons (xq0_357 δ) rfl ( xe_All_cons (xq0_358 δ) rfl ( xe_All_cons (xq0_359 δ) rfl ( xe_All_nil))))))))))))))))))))))))
set_option maxRecDepth 20000 in
theorem xa0_15 (δ : xe_Dy) : xe_All δ xM_Y xM_L xY0 360 (xc0_15 δ) := xe_All_cons (xq0_360 δ) rfl ( xe_All_cons (xq0_361 δ) rfl ( xe_All_cons (xq0_362 δ) rfl ( xe_All_cons (xq0_363 δ) rfl ( xe_All_cons (xq0_364 δ) rfl ( xe_All_cons (xq0_365 δ) rfl ( xe_All_cons (xq0_366 δ) rfl ( xe_All_cons (xq0_367 δ) rfl ( xe_All_cons (xq0_368 δ) rfl ( xe_All_cons (xq0_369 δ) rfl ( xe_All_cons (xq0_370 δ) rfl ( xe_All_cons (xq0_371 δ) rfl ( xe_All_cons (xq0_372 δ) rfl ( xe_All_cons (xq0_373 δ) rfl ( xe_All_cons (xq0_374 δ) rfl ( xe_All_cons (xq0_375 δ) rfl ( xe_All_cons (xq0_376 δ) rfl ( xe_All_cons (xq0_377 δ) rfl ( xe_All_cons (xq0_378 δ) rfl ( xe_All_cons (xq0_379 δ) rfl ( xe_All_cons (xq0_380 δ) rfl ( xe_All_cons (xq0_381 δ) rfl ( xe_All_cons (xq0_382 δ) rfl ( xe_All_cons (xq0_383 δ) rfl ( xe_All_nil))))))))))))))))))))))))
set_option maxRecDepth 20000 in
theorem xa0_16 (δ : xe_Dy) : xe_All δ xM_Y xM_L xY0 384 (xc0_16 δ) := xe_All_cons (xq0_384 δ) rfl ( xe_All_cons (xq0_385 δ) rfl ( xe_All_cons (xq0_386 δ) rfl ( xe_All_cons (xq0_387 δ) rfl ( xe_All_cons (xq0_388 δ) rfl ( xe_All_cons (xq0_389 δ) rfl ( xe_All_cons (xq0_390 δ) rfl ( xe_All_cons (xq0_391 δ) rfl ( xe_All_cons (xq0_392 δ) rfl ( xe_All_cons (xq0_393 δ) rfl ( xe_All_cons (xq0_394 δ) rfl ( xe_All_cons (xq0_395 δ) rfl ( xe_All_cons (xq0_396 δ) rfl ( xe_All_cons (xq0_397 δ) rfl ( xe_All_cons (xq0_398 δ) rfl ( xe_All_cons (xq0_399 δ) rfl ( xe_All_cons (xq0_400 δ) rfl ( xe_All_cons (xq0_401 δ) rfl ( xe_All_cons (xq0_402 δ) rfl ( xe_All_cons (xq0_403 δ) rfl ( xe_All_cons (xq0_404 δ) rfl ( xe_All_cons (xq0_405 δ) rfl ( xe_All_cons (xq0_406 δ) rfl ( xe_All_cons (xq0_407 δ) rfl ( xe_All_nil))))))))))))))))))))))))
set_option maxRecDepth 20000 in
theorem xa0_17 (δ : xe_Dy) : xe_All δ xM_Y xM_L xY0 408 (xc0_17 δ) := xe_All_cons (xq0_408 δ) rfl ( xe_All_cons (xq0_409 δ) rfl ( xe_All_cons (xq0_410 δ) rfl ( xe_All_cons (xq0_411 δ) rfl ( xe_All_cons (xq0_412 δ) rfl ( xe_All_cons (xq0_413 δ) rfl ( xe_All_cons (xq0_414 δ) rfl ( xe_All_cons (xq0_415 δ) rfl ( xe_All_cons (xq0_416 δ) rfl ( xe_All_cons (xq0_417 δ) rfl ( xe_All_cons (xq0_418 δ) rfl ( xe_All_cons (xq0_419 δ) rfl ( xe_All_cons (xq0_420 δ) rfl ( xe_All_cons (xq0_421 δ) rfl ( xe_All_cons (xq0_422 δ) rfl ( xe_All_cons (xq0_423 δ) rfl ( xe_All_cons (xq0_424 δ) rfl ( xe_All_cons (xq0_425 δ) rfl ( xe_All_cons (xq0_426 δ) rfl ( xe_All_cons (xq0_427 δ) rfl ( xe_All_cons (xq0_428 δ) rfl ( xe_All_cons (xq0_429 δ) rfl ( xe_All_cons (xq0_430 δ) rfl ( xe_All_cons (xq0_431 δ) rfl ( xe_All_nil))))))))))))))))))))))))
set_option maxRecDepth 20000 in
theorem xa0_18 (δ : xe_Dy) : xe_All δ xM_Y xM_L xY0 432 (xc0_18 δ) := xe_All_cons (xq0_432 δ) rfl ( xe_All_cons (xq0_433 δ) rfl ( xe_All_cons (xq0_434 δ) rfl ( xe_All_cons (xq0_435 δ) rfl ( xe_All_cons (xq0_436 δ) rfl ( xe_All_cons (xq0_437 δ) rfl ( xe_All_cons (xq0_438 δ) rfl ( xe_All_cons (xq0_439 δ) rfl ( xe_All_cons (xq0_440 δ) rfl ( xe_All_cons (xq0_441 δ) rfl ( xe_All_cons (xq0_442 δ) rfl ( xe_All_cons (xq0_443 δ) rfl ( xe_All_cons (xq0_444 δ) rfl ( xe_All_cons (xq0_445 δ) rfl ( xe_All_cons (xq0_446 δ) rfl ( xe_All_cons (xq0_447 δ) rfl ( xe_All_cons (xq0_448 δ) rfl ( xe_All_cons (xq0_449 δ) rfl ( xe_All_cons (xq0_450 δ) rfl ( xe_All_cons (xq0_451 δ) rfl ( xe_All_cons (xq0_452 δ) rfl ( xe_All_cons (xq0_453 δ) rfl ( xe_All_cons (xq0_454 δ) rfl ( xe_All_cons (xq0_455 δ) rfl ( xe_All_nil))))))))))))))))))))))))
set_option maxRecDepth 20000 in
theorem xa0_19 (δ : xe_Dy) : xe_All δ xM_Y xM_L xY0 456 (xc0_19 δ) := xe_All_cons (xq0_456 δ) rfl ( xe_All_cons (xq0_457 δ) rfl ( xe_All_cons (xq0_458 δ) rfl ( xe_All_cons (xq0_459 δ) rfl ( xe_All_cons (xq0_460 δ) rfl ( xe_All_cons (xq0_461 δ) rfl ( xe_All_cons (xq0_462 δ) rfl ( xe_All_cons (xq0_463 δ) rfl ( xe_All_cons (xq0_464 δ) rfl ( xe_All_cons (xq0_465 δ) rfl ( xe_All_cons (xq0_466 δ) rfl ( xe_All_cons (xq0_467 δ) rfl ( xe_All_cons (xq0_468 δ) rfl ( xe_All_cons (xq0_469 δ) rfl ( xe_All_cons (xq0_470 δ) rfl ( xe_All_cons (xq0_471 δ) rfl ( xe_All_cons (xq0_472 δ) rfl ( xe_All_cons (xq0_473 δ) rfl ( xe_All_cons (xq0_474 δ) rfl ( xe_All_cons (xq0_475 δ) rfl ( xe_All_cons (xq0_476 δ) rfl ( xe_All_cons (xq0_477 δ) rfl ( xe_All_cons (xq0_478 δ) rfl ( xe_All_cons (xq0_479 δ) rfl ( xe_All_nil))))))))))))))))))))))))
set_option maxRecDepth 20000 in
theorem xa0_20 (δ : xe_Dy) : xe_All δ xM_Y xM_L xY0 480 (xc0_20 δ) := xe_All_cons (xq0_480 δ) rfl ( xe_All_cons (xq0_481 δ) rfl ( xe_All_cons (xq0_482 δ) rfl ( xe_All_cons (xq0_483 δ) rfl ( xe_All_cons (xq0_484 δ) rfl ( xe_All_cons (xq0_485 δ) rfl ( xe_All_cons (xq0_486 δ) rfl ( xe_All_cons (xq0_487 δ) rfl ( xe_All_cons (xq0_488 δ) rfl ( xe_All_cons (xq0_489 δ) rfl ( xe_All_cons (xq0_490 δ) rfl ( xe_All_cons (xq0_491 δ) rfl ( xe_All_cons (xq0_492 δ) rfl ( xe_All_cons (xq0_493 δ) rfl ( xe_All_cons (xq0_494 δ) rfl ( xe_All_cons (xq0_495 δ) rfl ( xe_All_cons (xq0_496 δ) rfl ( xe_All_cons (xq0_497 δ) rfl ( xe_All_cons (xq0_498 δ) rfl ( xe_All_cons (xq0_499 δ) rfl ( xe_All_cons (xq0_500 δ) rfl ( xe_All_cons (xq0_501 δ) rfl ( xe_All_cons (xq0_502 δ) rfl ( xe_All_cons (xq0_503 δ) rfl ( xe_All_nil))))))))))))))))))))))))
set_option maxRecDepth 20000 in
theorem xa0_21 (δ : xe_Dy) : xe_All δ xM_Y xM_L xY0 504 (xc0_21 δ) := xe_All_cons (xq0_504 δ) rfl ( xe_All_cons (xq0_505 δ) rfl ( xe_All_cons (xq0_506 δ) rfl ( xe_All_cons (xq0_507 δ) rfl ( xe_All_cons (xq0_508 δ) rfl ( xe_All_cons (xq0_509 δ) rfl ( xe_All_cons (xq0_510 δ) rfl ( xe_All_cons (xq0_511 δ) rfl ( xe_All_cons (xq0_512 δ) rfl ( xe_All_cons (xq0_513 δ) rfl ( xe_All_cons (xq0_514 δ) rfl ( xe_All_cons (xq0_515 δ) rfl ( xe_All_cons (xq0_516 δ) rfl ( xe_All_cons (xq0_517 δ) rfl ( xe_All_cons (xq0_518 δ) rfl ( xe_All_cons (xq0_519 δ) rfl ( xe_All_cons (xq0_520 δ) rfl ( xe_All_cons (xq0_521 δ) rfl ( xe_All_cons (xq0_522 δ) rfl ( xe_All_cons (xq0_523 δ) rfl ( xe_All_cons (xq0_524 δ) rfl ( xe_All_cons (xq0_525 δ) rfl ( xe_All_cons (xq0_526 δ) rfl ( xe_All_cons (xq0_527 δ) rfl ( xe_All_nil))))))))))))))))))))))))
set_option maxRecDepth 20000 in
theorem xa0_22 (δ : xe_Dy) : xe_All δ xM_Y xM_L xY0 528 (xc0_22 δ) := xe_All_cons (xq0_528 δ) rfl ( xe_All_cons (xq0_529 δ) rfl ( xe_All_cons (xq0_530 δ) rfl ( xe_All_cons (xq0_531 δ) rfl ( xe_All_cons (xq0_532 δ) rfl ( xe_All_cons (xq0_533 δ) rfl ( xe_All_cons (xq0_534 δ) rfl ( xe_All_cons (xq0_535 δ) rfl ( xe_All_cons (xq0_536 δ) rfl ( xe_All_cons (xq0_537 δ) rfl ( xe_All_cons (xq0_538 δ) rfl ( xe_All_cons (xq0_539 δ) rfl ( xe_All_cons (xq0_540 δ) rfl ( xe_All_cons (xq0_541 δ) rfl ( xe_All_cons (xq0_542 δ) rfl ( xe_All_cons (xq0_543 δ) rfl ( xe_All_cons (xq0_544 δ) rfl ( xe_All_nil)))))))))))))))))
set_option maxRecDepth 20000 in
theorem xa0 (δ : xe_Dy) : xe_All δ xM_Y xM_L xY0 0 (xc0 δ) := xe_All_app (xa0_0 δ) rfl (xe_All_app (xa0_1 δ) rfl (xe_All_app (xa0_2 δ) rfl (xe_All_app (xa0_3 δ) rfl (xe_All_app (xa0_4 δ) rfl (xe_All_app (xa0_5 δ) rfl (xe_All_app (xa0_6 δ) rfl (xe_All_app (xa0_7 δ) rfl (xe_All_app (xa0_8 δ) rfl (xe_All_app (xa0_9 δ) rfl (xe_All_app (xa0_10 δ) rfl (xe_All_app (xa0_11 δ) rfl (xe_All_app (xa0_12 δ) rfl (xe_All_app (xa0_13 δ) rfl (xe_All_app (xa0_14 δ) rfl (xe_All_app (xa0_15 δ) rfl (xe_All_app (xa0_16 δ) rfl (xe_All_app (xa0_17 δ) rfl (xe_All_app (xa0_18 δ) rfl (xe_All_app (xa0_19 δ) rfl (xe_All_app (xa0_20 δ) rfl (xe_All_app (xa0_21 δ) rfl (xa0_22 δ))))))))))))))))))))))
