theorem oi_in : Cond.instanceMethod Lib.objectInit ∈ GT := gt_mem (i := 111) (by decide +kernel) (by decide +kernel)
theorem oi_co : Cond.code Lib.objectInit ⟨#[0xb1]⟩ 1 none ∈ GT := gt_mem (i := 112) (by decide +kernel) (by decide +kernel)
theorem ac_int : Cond.arrayClass .int ∈ GT := gt_mem (i := 203) (by decide +kernel) (by decide +kernel)
theorem ac_byte : Cond.arrayClass .byte ∈ GT := gt_mem (i := 131) (by decide +kernel) (by decide +kernel)
theorem ac_long : Cond.arrayClass .long ∈ GT := gt_mem (i := 202) (by decide +kernel) (by decide +kernel)
theorem ac_boolean : Cond.arrayClass .boolean ∈ GT := gt_mem (i := 1264) (by decide +kernel) (by decide +kernel)
theorem oi_X6_3 : Cond.methodLink RX6 3 Lib.objectInit ∈ GT := gt_mem (i := 399) (by decide +kernel) (by decide +kernel)
theorem mi_X6_init : Mi yX6_init cX6_init 1 none 0 := ⟨gt_mem (i := 398) (by decide +kernel) (by decide +kernel), gt_mem (i := 96) (by decide +kernel) (by decide +kernel), by decide +kernel, by decide +kernel, by decide +kernel, by decide +kernel⟩
theorem oi_X7_3 : Cond.methodLink RX7 3 Lib.objectInit ∈ GT := gt_mem (i := 120) (by decide +kernel) (by decide +kernel)
theorem mi_X7_init : Mi yX7_init cX7_init 1 none 0 := ⟨gt_mem (i := 119) (by decide +kernel) (by decide +kernel), gt_mem (i := 86) (by decide +kernel) (by decide +kernel), by decide +kernel, by decide +kernel, by decide +kernel, by decide +kernel⟩
theorem oi_X8_1 : Cond.methodLink RX8 1 Lib.objectInit ∈ GT := gt_mem (i := 143) (by decide +kernel) (by decide +kernel)
theorem mi_X8_init : Mi yX8_init cX8_init 2 none 1 := ⟨gt_mem (i := 142) (by decide +kernel) (by decide +kernel), gt_mem (i := 88) (by decide +kernel) (by decide +kernel), by decide +kernel, by decide +kernel, by decide +kernel, by decide +kernel⟩
theorem oi_X5_3 : Cond.methodLink RX5 3 Lib.objectInit ∈ GT := gt_mem (i := 137) (by decide +kernel) (by decide +kernel)
theorem cl_X5_9 : Cond.classLink RX5 9 "NobodySails$Tokens" ∈ GT := gt_mem (i := 138) (by decide +kernel) (by decide +kernel)
theorem it_X8 : Cond.instantiable RX8 5 ∈ GT := gt_mem (i := 139) (by decide +kernel) (by decide +kernel)
theorem ii_X8 : Cond.initialized RX8 ∈ GT := gt_mem (i := 88) (by decide +kernel) (by decide +kernel)
theorem ml_X5_11 : Cond.methodLink RX5 11 yX8_init ∈ GT := gt_mem (i := 140) (by decide +kernel) (by decide +kernel)
theorem im_X8_init : Cond.instanceMethod yX8_init ∈ GT := gt_mem (i := 141) (by decide +kernel) (by decide +kernel)
theorem mi_X5_init : Mi yX5_init cX5_init 2 none 1 := ⟨gt_mem (i := 136) (by decide +kernel) (by decide +kernel), gt_mem (i := 87) (by decide +kernel) (by decide +kernel), by decide +kernel, by decide +kernel, by decide +kernel, by decide +kernel⟩
theorem oi_X9_3 : Cond.methodLink RX9 3 Lib.objectInit ∈ GT := gt_mem (i := 241) (by decide +kernel) (by decide +kernel)
theorem mi_X9_init : Mi yX9_init cX9_init 1 none 0 := ⟨gt_mem (i := 240) (by decide +kernel) (by decide +kernel), gt_mem (i := 92) (by decide +kernel) (by decide +kernel), by decide +kernel, by decide +kernel, by decide +kernel, by decide +kernel⟩
theorem oi_X4_3 : Cond.methodLink RX4 3 Lib.objectInit ∈ GT := gt_mem (i := 277) (by decide +kernel) (by decide +kernel)
theorem mi_X4_init : Mi yX4_init cX4_init 1 none 0 := ⟨gt_mem (i := 276) (by decide +kernel) (by decide +kernel), gt_mem (i := 93) (by decide +kernel) (by decide +kernel), by decide +kernel, by decide +kernel, by decide +kernel, by decide +kernel⟩
theorem oi_X2_3 : Cond.methodLink RX2 3 Lib.objectInit ∈ GT := gt_mem (i := 319) (by decide +kernel) (by decide +kernel)
theorem mi_X2_init : Mi yX2_init cX2_init 1 none 0 := ⟨gt_mem (i := 318) (by decide +kernel) (by decide +kernel), gt_mem (i := 94) (by decide +kernel) (by decide +kernel), by decide +kernel, by decide +kernel, by decide +kernel, by decide +kernel⟩
theorem oi_X1_3 : Cond.methodLink RX1 3 Lib.objectInit ∈ GT := gt_mem (i := 336) (by decide +kernel) (by decide +kernel)
theorem mi_X1_init : Mi yX1_init cX1_init 1 none 0 := ⟨gt_mem (i := 335) (by decide +kernel) (by decide +kernel), gt_mem (i := 95) (by decide +kernel) (by decide +kernel), by decide +kernel, by decide +kernel, by decide +kernel, by decide +kernel⟩
theorem oi_X10_1 : Cond.methodLink RX10 1 Lib.objectInit ∈ GT := gt_mem (i := 235) (by decide +kernel) (by decide +kernel)
theorem cl_X10_7 : Cond.classLink RX10 7 "NobodySails$Waters" ∈ GT := gt_mem (i := 236) (by decide +kernel) (by decide +kernel)
theorem it_X9 : Cond.instantiable RX9 7 ∈ GT := gt_mem (i := 237) (by decide +kernel) (by decide +kernel)
theorem ii_X9 : Cond.initialized RX9 ∈ GT := gt_mem (i := 92) (by decide +kernel) (by decide +kernel)
theorem im_X9_init : Cond.instanceMethod yX9_init ∈ GT := gt_mem (i := 239) (by decide +kernel) (by decide +kernel)
theorem cl_X10_16 : Cond.classLink RX10 16 "NobodySails$Hull" ∈ GT := gt_mem (i := 272) (by decide +kernel) (by decide +kernel)
theorem it_X4 : Cond.instantiable RX4 9 ∈ GT := gt_mem (i := 273) (by decide +kernel) (by decide +kernel)
theorem ii_X4 : Cond.initialized RX4 ∈ GT := gt_mem (i := 93) (by decide +kernel) (by decide +kernel)
theorem im_X4_init : Cond.instanceMethod yX4_init ∈ GT := gt_mem (i := 275) (by decide +kernel) (by decide +kernel)
theorem cl_X10_23 : Cond.classLink RX10 23 "NobodySails$Crew" ∈ GT := gt_mem (i := 314) (by decide +kernel) (by decide +kernel)
theorem it_X2 : Cond.instantiable RX2 3 ∈ GT := gt_mem (i := 315) (by decide +kernel) (by decide +kernel)
theorem ii_X2 : Cond.initialized RX2 ∈ GT := gt_mem (i := 94) (by decide +kernel) (by decide +kernel)
theorem im_X2_init : Cond.instanceMethod yX2_init ∈ GT := gt_mem (i := 317) (by decide +kernel) (by decide +kernel)
theorem cl_X10_30 : Cond.classLink RX10 30 "NobodySails$Court" ∈ GT := gt_mem (i := 331) (by decide +kernel) (by decide +kernel)
theorem it_X1 : Cond.instantiable RX1 7 ∈ GT := gt_mem (i := 332) (by decide +kernel) (by decide +kernel)
theorem ii_X1 : Cond.initialized RX1 ∈ GT := gt_mem (i := 95) (by decide +kernel) (by decide +kernel)
theorem im_X1_init : Cond.instanceMethod yX1_init ∈ GT := gt_mem (i := 334) (by decide +kernel) (by decide +kernel)
theorem mi_X10_init : Mi yX10_init cX10_init 1 none 0 := ⟨gt_mem (i := 234) (by decide +kernel) (by decide +kernel), gt_mem (i := 91) (by decide +kernel) (by decide +kernel), by decide +kernel, by decide +kernel, by decide +kernel, by decide +kernel⟩
theorem oi_X3_3 : Cond.methodLink RX3 3 Lib.objectInit ∈ GT := gt_mem (i := 182) (by decide +kernel) (by decide +kernel)
theorem mi_X3_init : Mi yX3_init cX3_init 1 none 0 := ⟨gt_mem (i := 181) (by decide +kernel) (by decide +kernel), gt_mem (i := 89) (by decide +kernel) (by decide +kernel), by decide +kernel, by decide +kernel, by decide +kernel, by decide +kernel⟩
theorem oi_X0_3 : Cond.methodLink RX0 3 Lib.objectInit ∈ GT := gt_mem (i := 209) (by decide +kernel) (by decide +kernel)
theorem mi_X0_init : Mi yX0_init cX0_init 1 none 0 := ⟨gt_mem (i := 208) (by decide +kernel) (by decide +kernel), gt_mem (i := 90) (by decide +kernel) (by decide +kernel), by decide +kernel, by decide +kernel, by decide +kernel, by decide +kernel⟩
theorem oi_X11_3 : Cond.methodLink RX11 3 Lib.objectInit ∈ GT := gt_mem (i := 110) (by decide +kernel) (by decide +kernel)
theorem cl_X11_9 : Cond.classLink RX11 9 "NobodySails$Row" ∈ GT := gt_mem (i := 113) (by decide +kernel) (by decide +kernel)
theorem cl_X11_15 : Cond.classLink RX11 15 "NobodySails$Tape" ∈ GT := gt_mem (i := 115) (by decide +kernel) (by decide +kernel)
theorem it_X7 : Cond.instantiable RX7 2 ∈ GT := gt_mem (i := 116) (by decide +kernel) (by decide +kernel)
theorem ii_X7 : Cond.initialized RX7 ∈ GT := gt_mem (i := 86) (by decide +kernel) (by decide +kernel)
theorem im_X7_init : Cond.instanceMethod yX7_init ∈ GT := gt_mem (i := 118) (by decide +kernel) (by decide +kernel)
theorem cl_X11_22 : Cond.classLink RX11 22 "NobodySails$Reader" ∈ GT := gt_mem (i := 132) (by decide +kernel) (by decide +kernel)
theorem it_X5 : Cond.instantiable RX5 3 ∈ GT := gt_mem (i := 133) (by decide +kernel) (by decide +kernel)
theorem ii_X5 : Cond.initialized RX5 ∈ GT := gt_mem (i := 87) (by decide +kernel) (by decide +kernel)
theorem ml_X11_24 : Cond.methodLink RX11 24 yX5_init ∈ GT := gt_mem (i := 134) (by decide +kernel) (by decide +kernel)
theorem im_X5_init : Cond.instanceMethod yX5_init ∈ GT := gt_mem (i := 135) (by decide +kernel) (by decide +kernel)
theorem cl_X11_31 : Cond.classLink RX11 31 "NobodySails$World" ∈ GT := gt_mem (i := 175) (by decide +kernel) (by decide +kernel)
theorem cl_X11_37 : Cond.classLink RX11 37 "NobodySails$Drift" ∈ GT := gt_mem (i := 177) (by decide +kernel) (by decide +kernel)
theorem it_X3 : Cond.instantiable RX3 5 ∈ GT := gt_mem (i := 178) (by decide +kernel) (by decide +kernel)
theorem ii_X3 : Cond.initialized RX3 ∈ GT := gt_mem (i := 89) (by decide +kernel) (by decide +kernel)
theorem im_X3_init : Cond.instanceMethod yX3_init ∈ GT := gt_mem (i := 180) (by decide +kernel) (by decide +kernel)
theorem cl_X11_44 : Cond.classLink RX11 44 "NobodySails$Asker" ∈ GT := gt_mem (i := 204) (by decide +kernel) (by decide +kernel)
theorem it_X0 : Cond.instantiable RX0 6 ∈ GT := gt_mem (i := 205) (by decide +kernel) (by decide +kernel)
theorem ii_X0 : Cond.initialized RX0 ∈ GT := gt_mem (i := 90) (by decide +kernel) (by decide +kernel)
theorem im_X0_init : Cond.instanceMethod yX0_init ∈ GT := gt_mem (i := 207) (by decide +kernel) (by decide +kernel)
theorem it_X10 : Cond.instantiable RX10 5 ∈ GT := gt_mem (i := 231) (by decide +kernel) (by decide +kernel)
theorem ii_X10 : Cond.initialized RX10 ∈ GT := gt_mem (i := 91) (by decide +kernel) (by decide +kernel)
theorem im_X10_init : Cond.instanceMethod yX10_init ∈ GT := gt_mem (i := 233) (by decide +kernel) (by decide +kernel)
theorem it_X6 : Cond.instantiable RX6 3 ∈ GT := gt_mem (i := 395) (by decide +kernel) (by decide +kernel)
theorem ii_X6 : Cond.initialized RX6 ∈ GT := gt_mem (i := 96) (by decide +kernel) (by decide +kernel)
theorem im_X6_init : Cond.instanceMethod yX6_init ∈ GT := gt_mem (i := 397) (by decide +kernel) (by decide +kernel)
theorem mi_X11_init : Mi yX11_init cX11_init 2 none 0 := ⟨gt_mem (i := 109) (by decide +kernel) (by decide +kernel), gt_mem (i := 85) (by decide +kernel) (by decide +kernel), by decide +kernel, by decide +kernel, by decide +kernel, by decide +kernel⟩
theorem oi_X12_3 : Cond.methodLink RX12 3 Lib.objectInit ∈ GT := gt_mem (i := 1169) (by decide +kernel) (by decide +kernel)
theorem mi_X12_init : Mi yX12_init cX12_init 1 none 0 := ⟨gt_mem (i := 1168) (by decide +kernel) (by decide +kernel), gt_mem (i := 97) (by decide +kernel) (by decide +kernel), by decide +kernel, by decide +kernel, by decide +kernel, by decide +kernel⟩
theorem dfX0 : ∀ j, j < 6 → defaultValue (tyX0 j) = vp_V ((fk 0).map dfv) j := by
  intro j hj
  rcases (by omega : j = 0 ∨ j = 1 ∨ j = 2 ∨ j = 3 ∨ j = 4 ∨ j = 5) with rfl | rfl | rfl | rfl | rfl | rfl <;> rfl
theorem ocX0 : ∀ C T Nf ty, Cl 0 C T Nf ty → C = RX0 := fun C T Nf ty h => (congrArg Prod.fst (Option.some.inj (show some (RX0, TX0, 6) = some (C, T, Nf) from h.2.1))).symm
theorem dfX1 : ∀ j, j < 7 → defaultValue (tyX1 j) = vp_V ((fk 1).map dfv) j := by
  intro j hj
  rcases (by omega : j = 0 ∨ j = 1 ∨ j = 2 ∨ j = 3 ∨ j = 4 ∨ j = 5 ∨ j = 6) with rfl | rfl | rfl | rfl | rfl | rfl | rfl <;> rfl
theorem ocX1 : ∀ C T Nf ty, Cl 1 C T Nf ty → C = RX1 := fun C T Nf ty h => (congrArg Prod.fst (Option.some.inj (show some (RX1, TX1, 7) = some (C, T, Nf) from h.2.1))).symm
theorem dfX2 : ∀ j, j < 3 → defaultValue (tyX2 j) = vp_V ((fk 2).map dfv) j := by
  intro j hj
  rcases (by omega : j = 0 ∨ j = 1 ∨ j = 2) with rfl | rfl | rfl <;> rfl
theorem ocX2 : ∀ C T Nf ty, Cl 2 C T Nf ty → C = RX2 := fun C T Nf ty h => (congrArg Prod.fst (Option.some.inj (show some (RX2, TX2, 3) = some (C, T, Nf) from h.2.1))).symm
theorem dfX3 : ∀ j, j < 5 → defaultValue (tyX3 j) = vp_V ((fk 3).map dfv) j := by
  intro j hj
  rcases (by omega : j = 0 ∨ j = 1 ∨ j = 2 ∨ j = 3 ∨ j = 4) with rfl | rfl | rfl | rfl | rfl <;> rfl
theorem ocX3 : ∀ C T Nf ty, Cl 3 C T Nf ty → C = RX3 := fun C T Nf ty h => (congrArg Prod.fst (Option.some.inj (show some (RX3, TX3, 5) = some (C, T, Nf) from h.2.1))).symm
theorem dfX4 : ∀ j, j < 9 → defaultValue (tyX4 j) = vp_V ((fk 4).map dfv) j := by
  intro j hj
  rcases (by omega : j = 0 ∨ j = 1 ∨ j = 2 ∨ j = 3 ∨ j = 4 ∨ j = 5 ∨ j = 6 ∨ j = 7 ∨ j = 8) with rfl | rfl | rfl | rfl | rfl | rfl | rfl | rfl | rfl <;> rfl
theorem ocX4 : ∀ C T Nf ty, Cl 4 C T Nf ty → C = RX4 := fun C T Nf ty h => (congrArg Prod.fst (Option.some.inj (show some (RX4, TX4, 9) = some (C, T, Nf) from h.2.1))).symm
theorem dfX5 : ∀ j, j < 3 → defaultValue (tyX5 j) = vp_V ((fk 5).map dfv) j := by
  intro j hj
  rcases (by omega : j = 0 ∨ j = 1 ∨ j = 2) with rfl | rfl | rfl <;> rfl
theorem ocX5 : ∀ C T Nf ty, Cl 5 C T Nf ty → C = RX5 := fun C T Nf ty h => (congrArg Prod.fst (Option.some.inj (show some (RX5, TX5, 3) = some (C, T, Nf) from h.2.1))).symm
theorem dfX6 : ∀ j, j < 3 → defaultValue (tyX6 j) = vp_V ((fk 6).map dfv) j := by
  intro j hj
  rcases (by omega : j = 0 ∨ j = 1 ∨ j = 2) with rfl | rfl | rfl <;> rfl
theorem ocX6 : ∀ C T Nf ty, Cl 6 C T Nf ty → C = RX6 := fun C T Nf ty h => (congrArg Prod.fst (Option.some.inj (show some (RX6, TX6, 3) = some (C, T, Nf) from h.2.1))).symm
theorem dfX7 : ∀ j, j < 2 → defaultValue (tyX7 j) = vp_V ((fk 7).map dfv) j := by
  intro j hj
  rcases (by omega : j = 0 ∨ j = 1) with rfl | rfl <;> rfl
theorem ocX7 : ∀ C T Nf ty, Cl 7 C T Nf ty → C = RX7 := fun C T Nf ty h => (congrArg Prod.fst (Option.some.inj (show some (RX7, TX7, 2) = some (C, T, Nf) from h.2.1))).symm
theorem dfX8 : ∀ j, j < 5 → defaultValue (tyX8 j) = vp_V ((fk 8).map dfv) j := by
  intro j hj
  rcases (by omega : j = 0 ∨ j = 1 ∨ j = 2 ∨ j = 3 ∨ j = 4) with rfl | rfl | rfl | rfl | rfl <;> rfl
theorem ocX8 : ∀ C T Nf ty, Cl 8 C T Nf ty → C = RX8 := fun C T Nf ty h => (congrArg Prod.fst (Option.some.inj (show some (RX8, TX8, 5) = some (C, T, Nf) from h.2.1))).symm
theorem dfX9 : ∀ j, j < 7 → defaultValue (tyX9 j) = vp_V ((fk 9).map dfv) j := by
  intro j hj
  rcases (by omega : j = 0 ∨ j = 1 ∨ j = 2 ∨ j = 3 ∨ j = 4 ∨ j = 5 ∨ j = 6) with rfl | rfl | rfl | rfl | rfl | rfl | rfl <;> rfl
theorem ocX9 : ∀ C T Nf ty, Cl 9 C T Nf ty → C = RX9 := fun C T Nf ty h => (congrArg Prod.fst (Option.some.inj (show some (RX9, TX9, 7) = some (C, T, Nf) from h.2.1))).symm
theorem dfX10 : ∀ j, j < 5 → defaultValue (tyX10 j) = vp_V ((fk 10).map dfv) j := by
  intro j hj
  rcases (by omega : j = 0 ∨ j = 1 ∨ j = 2 ∨ j = 3 ∨ j = 4) with rfl | rfl | rfl | rfl | rfl <;> rfl
theorem ocX10 : ∀ C T Nf ty, Cl 10 C T Nf ty → C = RX10 := fun C T Nf ty h => (congrArg Prod.fst (Option.some.inj (show some (RX10, TX10, 5) = some (C, T, Nf) from h.2.1))).symm
theorem dfX11 : ∀ j, j < 10 → defaultValue (tyX11 j) = vp_V ((fk 11).map dfv) j := by
  intro j hj
  rcases (by omega : j = 0 ∨ j = 1 ∨ j = 2 ∨ j = 3 ∨ j = 4 ∨ j = 5 ∨ j = 6 ∨ j = 7 ∨ j = 8 ∨ j = 9) with rfl | rfl | rfl | rfl | rfl | rfl | rfl | rfl | rfl | rfl <;> rfl
theorem ocX11 : ∀ C T Nf ty, Cl 11 C T Nf ty → C = RX11 := fun C T Nf ty h => (congrArg Prod.fst (Option.some.inj (show some (RX11, TX11, 10) = some (C, T, Nf) from h.2.1))).symm
theorem dfX12 : ∀ j, j < 31 → defaultValue (tyX12 j) = vp_V ((fk 12).map dfv) j := by
  intro j hj
  rcases (by omega : j = 0 ∨ j = 1 ∨ j = 2 ∨ j = 3 ∨ j = 4 ∨ j = 5 ∨ j = 6 ∨ j = 7 ∨ j = 8 ∨ j = 9 ∨ j = 10 ∨ j = 11 ∨ j = 12 ∨ j = 13 ∨ j = 14 ∨ j = 15 ∨ j = 16 ∨ j = 17 ∨ j = 18 ∨ j = 19 ∨ j = 20 ∨ j = 21 ∨ j = 22 ∨ j = 23 ∨ j = 24 ∨ j = 25 ∨ j = 26 ∨ j = 27 ∨ j = 28 ∨ j = 29 ∨ j = 30) with rfl | rfl | rfl | rfl | rfl | rfl | rfl | rfl | rfl | rfl | rfl | rfl | rfl | rfl | rfl | rfl | rfl | rfl | rfl | rfl | rfl | rfl | rfl | rfl | rfl | rfl | rfl | rfl | rfl | rfl | rfl <;> rfl
theorem ocX12 : ∀ C T Nf ty, Cl 12 C T Nf ty → C = RX12 := fun C T Nf ty h => (congrArg Prod.fst (Option.some.inj (show some (RX12, TX12, 31) = some (C, T, Nf) from h.2.1))).symm
def RmK (d c s : Nat) : Room := { frames := d, cells := c, slots := s, locals := 48 * d }
theorem g_cs {z : Zx} {w : Px} {x : Cx} {nL cs ss cs2 ss2 : Nat} {ad : Nat → Nat} {n : Nat} {mm : Mem} {pc : Nat} {lv : List (Nat × Value)} {st : List Value} (h1 : cs = cs2) (h2 : ss = ss2) (k : G z w x nL cs2 ss2 ad n mm pc lv st) : G z w x nL cs ss ad n mm pc lv st := by subst h1; subst h2; exact k
noncomputable def fX6_init (v0 n : Nat) (m : Mem) : Mem := uI (uR (clr m n) v0 0 (some n)) v0 1 (-1)
set_option maxHeartbeats 4000000 in
set_option maxRecDepth 100000 in
theorem cX6_init_ct (z : Zx) (ad : Nat → Nat) (v0 n : Nat) (m : Mem) (hv0 : v0 < n) (k0v : KC v0 = 6) (hw : Wf n m) (k0 : KC (n) = 14) (l0 : NC (n) = 40) : CtK z wC yX6_init cX6_init 1 (RmK 3 1 40) ad n [.ref (ad v0)] m (n + 1) (fX6_init v0 n m) ∧ Wf (n + 1) (fX6_init v0 n m) := by
  refine ⟨ct_ofK mi_X6_init rfl rfl (Nat.le_of_ble_eq_true rfl) (fun x X Ix hret => ?_), ?_⟩
  · refine g_lv [(0, .ref (ad v0))] [0] rfl ?_
    refine g_aload_n (pc := 0) X dX6_init_0 rfl 0 rfl ?_
    refine g_objInit (pc := 1) X oi_X6_3 oi_in oi_co (by decide) (by decide) (Nat.le_of_ble_eq_true rfl) dX6_init_1 ?_
    refine g_aload_n (pc := 4) X dX6_init_4 rfl 0 rfl ?_
    refine g_bipush (v := (40 : Int32)) (pc := 5) X dX6_init_5 (by decide) ?_
    refine g_newI (pc := 7) X ac_int k0 (by decide) (show _ = NC n by rw [l0]; decide) (show NC n ≤ 1000 by rw [l0]; decide) hw (by decide) (show 0 + NC n ≤ _ by rw [l0]; decide) dX6_init_7 (fun ad1 hA2 => ?_)
    rw [← hA2 v0 (by omega)]
    have w3 : Wf (n + 1) (clr m n) := wf_clr hw
    refine g_cs (cs2 := 1) (ss2 := 40) rfl (show 0 + NC n = 40 by rw [l0]) ?_
    refine g_putRF (pc := 9) X Ix fl_X6_9 ocX6 (by omega) k0v rfl rfl dX6_init_9 ?_
    have w4 : Wf (n + 1) (uR (clr m n) v0 0 (some n)) := wf_uR w3 (by omega)
    refine g_aload_n (pc := 12) X dX6_init_12 rfl 0 rfl ?_
    refine g_iconst (v := (-1 : Int32)) (pc := 13) X dX6_init_13 (by decide) ?_
    refine g_putI (pc := 14) X fl_X6_15 (by omega) k0v rfl rfl dX6_init_14 ?_
    have w5 : Wf (n + 1) (uI (uR (clr m n) v0 0 (some n)) v0 1 (-1)) := wf_uI w4
    exact hret ad1 _ _ (fun i hi => by rw [hA2 i (by omega)]) dX6_init_17
  · unfold fX6_init
    have w3 : Wf (n + 1) (clr m n) := wf_clr hw
    have w4 : Wf (n + 1) (uR (clr m n) v0 0 (some n)) := wf_uR w3 (by omega)
    have w5 : Wf (n + 1) (uI (uR (clr m n) v0 0 (some n)) v0 1 (-1)) := wf_uI w4
    exact w5

noncomputable def fX7_init (v0 n : Nat) (m : Mem) : Mem := uR (clr m n) v0 0 (some n)
set_option maxHeartbeats 4000000 in
set_option maxRecDepth 100000 in
theorem cX7_init_ct (z : Zx) (ad : Nat → Nat) (v0 n : Nat) (m : Mem) (hv0 : v0 < n) (k0v : KC v0 = 7) (hw : Wf n m) (k0 : KC (n) = 13) (l0 : NC (n) = 600) : CtK z wC yX7_init cX7_init 1 (RmK 3 1 600) ad n [.ref (ad v0)] m (n + 1) (fX7_init v0 n m) ∧ Wf (n + 1) (fX7_init v0 n m) := by
  refine ⟨ct_ofK mi_X7_init rfl rfl (Nat.le_of_ble_eq_true rfl) (fun x X Ix hret => ?_), ?_⟩
  · refine g_lv [(0, .ref (ad v0))] [0] rfl ?_
    refine g_aload_n (pc := 0) X dX7_init_0 rfl 0 rfl ?_
    refine g_objInit (pc := 1) X oi_X7_3 oi_in oi_co (by decide) (by decide) (Nat.le_of_ble_eq_true rfl) dX7_init_1 ?_
    refine g_aload_n (pc := 4) X dX7_init_4 rfl 0 rfl ?_
    refine g_sipush (v := (600 : Int32)) (pc := 5) X dX7_init_5 (by decide) ?_
    refine g_newB (pc := 8) X ac_byte k0 (by decide) (show _ = NC n by rw [l0]; decide) (show NC n ≤ 1000 by rw [l0]; decide) hw (by decide) (show 0 + NC n ≤ _ by rw [l0]; decide) dX7_init_8 (fun ad1 hA2 => ?_)
    rw [← hA2 v0 (by omega)]
    have w3 : Wf (n + 1) (clr m n) := wf_clr hw
    refine g_cs (cs2 := 1) (ss2 := 600) rfl (show 0 + NC n = 600 by rw [l0]) ?_
    refine g_putRF (pc := 10) X Ix fl_X7_9 ocX7 (by omega) k0v rfl rfl dX7_init_10 ?_
    have w4 : Wf (n + 1) (uR (clr m n) v0 0 (some n)) := wf_uR w3 (by omega)
    exact hret ad1 _ _ (fun i hi => by rw [hA2 i (by omega)]) dX7_init_13
  · unfold fX7_init
    have w3 : Wf (n + 1) (clr m n) := wf_clr hw
    have w4 : Wf (n + 1) (uR (clr m n) v0 0 (some n)) := wf_uR w3 (by omega)
    exact w4

noncomputable def fX8_init (v0 v1 n : Nat) (m : Mem) : Mem := uR m v0 0 (some v1)
set_option maxHeartbeats 4000000 in
set_option maxRecDepth 100000 in
theorem cX8_init_ct (z : Zx) (ad : Nat → Nat) (v0 v1 n : Nat) (m : Mem) (hv0 : v0 < n) (hv1 : v1 < n) (k0v : KC v0 = 8) (k1v : KC v1 = 7) (hw : Wf n m) : CtK z wC yX8_init cX8_init 2 (RmK 3 0 0) ad n [.ref (ad v0), .ref (ad v1)] m (n) (fX8_init v0 v1 n m) ∧ Wf (n) (fX8_init v0 v1 n m) := by
  refine ⟨ct_ofK mi_X8_init rfl rfl (Nat.le_of_ble_eq_true rfl) (fun x X Ix hret => ?_), ?_⟩
  · refine g_lv [(0, .ref (ad v0)), (1, .ref (ad v1))] [0, 1] rfl ?_
    refine g_aload_n (pc := 0) X dX8_init_0 rfl 0 rfl ?_
    refine g_objInit (pc := 1) X oi_X8_1 oi_in oi_co (by decide) (by decide) (Nat.le_of_ble_eq_true rfl) dX8_init_1 ?_
    refine g_aload_n (pc := 4) X dX8_init_4 rfl 0 rfl ?_
    refine g_aload_n (pc := 5) X dX8_init_5 rfl 1 rfl ?_
    refine g_putRF (pc := 6) X Ix fl_X8_7 ocX8 (by omega) k0v rfl rfl dX8_init_6 ?_
    have w1 : Wf (n) (uR m v0 0 (some v1)) := wf_uR hw (by omega)
    exact hret ad _ _ (fun i hi => by rfl) dX8_init_9
  · unfold fX8_init
    have w1 : Wf (n) (uR m v0 0 (some v1)) := wf_uR hw (by omega)
    exact w1

noncomputable def fX5_init (v0 v1 n : Nat) (m : Mem) : Mem := uR (fX8_init n v1 (n + 1) (clr m n)) v0 0 (some n)
set_option maxHeartbeats 4000000 in
set_option maxRecDepth 100000 in
theorem cX5_init_ct (z : Zx) (ad : Nat → Nat) (v0 v1 n : Nat) (m : Mem) (hv0 : v0 < n) (hv1 : v1 < n) (k0v : KC v0 = 5) (k1v : KC v1 = 7) (hw : Wf n m) (k0 : KC (n) = 8) : CtK z wC yX5_init cX5_init 2 (RmK 6 1 5) ad n [.ref (ad v0), .ref (ad v1)] m (n + 1) (fX5_init v0 v1 n m) ∧ Wf (n + 1) (fX5_init v0 v1 n m) := by
  refine ⟨ct_ofK mi_X5_init rfl rfl (Nat.le_of_ble_eq_true rfl) (fun x X Ix hret => ?_), ?_⟩
  · refine g_lv [(0, .ref (ad v0)), (1, .ref (ad v1))] [0, 1] rfl ?_
    refine g_aload_n (pc := 0) X dX5_init_0 rfl 0 rfl ?_
    refine g_objInit (pc := 1) X oi_X5_3 oi_in oi_co (by decide) (by decide) (Nat.le_of_ble_eq_true rfl) dX5_init_1 ?_
    refine g_aload_n (pc := 4) X dX5_init_4 rfl 0 rfl ?_
    refine g_new (pc := 5) X clX8 dfX8 cl_X5_9 it_X8 ii_X8 k0 hw (by decide) (by decide) dX5_init_5 (fun ad1 hA2 => ?_)
    rw [← hA2 v0 (by omega)]
    rw [← hA2 v1 (by omega)]
    have w3 : Wf (n + 1) (clr m n) := wf_clr hw
    refine g_cs (cs2 := 1) (ss2 := 5) rfl rfl ?_
    refine g_dup (pc := 8) X dX5_init_8 rfl ?_
    refine g_aload_n (pc := 9) X dX5_init_9 rfl 1 rfl ?_
    have hc4 := (cX8_init_ct z ad1 n v1 (n + 1) (clr m n) (by omega) (by omega) k0 k1v w3 )
    refine g_callK (pc := 10) (As := [.ref (ad1 v1)]) (rest := [.ref (ad1 n), .ref (ad1 v0)]) X mi_X8_init rfl im_X8_init ml_X5_11 hc4.1 rfl rfl (Nat.le_of_ble_eq_true rfl) ⟨by decide, by decide, by decide, by decide⟩ dX5_init_10 (fun ad5 hA6 => ?_)
    rw [← hA6 v0 (by omega)]
    rw [← hA6 v1 (by omega)]
    rw [← hA6 n (by omega)]
    have w7 : Wf (n + 1) (fX8_init n v1 (n + 1) (clr m n)) := hc4.2
    refine g_cs (cs2 := 1) (ss2 := 5) rfl rfl ?_
    refine g_putRF (pc := 13) X Ix fl_X5_14 ocX5 (by omega) k0v rfl rfl dX5_init_13 ?_
    have w8 : Wf (n + 1) (uR (fX8_init n v1 (n + 1) (clr m n)) v0 0 (some n)) := wf_uR w7 (by omega)
    exact hret ad5 _ _ (fun i hi => by rw [hA6 i (by omega), hA2 i (by omega)]) dX5_init_16
  · unfold fX5_init
    have w3 : Wf (n + 1) (clr m n) := wf_clr hw
    have hc4 := (cX8_init_ct z ad n v1 (n + 1) (clr m n) (by omega) (by omega) k0 k1v w3 )
    have w7 : Wf (n + 1) (fX8_init n v1 (n + 1) (clr m n)) := hc4.2
    have w8 : Wf (n + 1) (uR (fX8_init n v1 (n + 1) (clr m n)) v0 0 (some n)) := wf_uR w7 (by omega)
    exact w8

noncomputable def fX9_init (v0 n : Nat) (m : Mem) : Mem := uR (clr (uR (clr (uR (clr m n) v0 0 (some n)) (n + 1)) v0 1 (some (n + 1))) (n + 2)) v0 2 (some (n + 2))
set_option maxHeartbeats 4000000 in
set_option maxRecDepth 100000 in
theorem cX9_init_ct (z : Zx) (ad : Nat → Nat) (v0 n : Nat) (m : Mem) (hv0 : v0 < n) (k0v : KC v0 = 9) (hw : Wf n m) (k0 : KC (n) = 14) (l0 : NC (n) = 8) (k1 : KC (n + 1) = 14) (l1 : NC (n + 1) = 4) (k2 : KC (n + 2) = 14) (l2 : NC (n + 2) = 4) : CtK z wC yX9_init cX9_init 1 (RmK 3 3 16) ad n [.ref (ad v0)] m (n + 3) (fX9_init v0 n m) ∧ Wf (n + 3) (fX9_init v0 n m) := by
  refine ⟨ct_ofK mi_X9_init rfl rfl (Nat.le_of_ble_eq_true rfl) (fun x X Ix hret => ?_), ?_⟩
  · refine g_lv [(0, .ref (ad v0))] [0] rfl ?_
    refine g_aload_n (pc := 0) X dX9_init_0 rfl 0 rfl ?_
    refine g_objInit (pc := 1) X oi_X9_3 oi_in oi_co (by decide) (by decide) (Nat.le_of_ble_eq_true rfl) dX9_init_1 ?_
    refine g_aload_n (pc := 4) X dX9_init_4 rfl 0 rfl ?_
    refine g_bipush (v := (8 : Int32)) (pc := 5) X dX9_init_5 (by decide) ?_
    refine g_newI (pc := 7) X ac_int k0 (by decide) (show _ = NC n by rw [l0]; decide) (show NC n ≤ 1000 by rw [l0]; decide) hw (by decide) (show 0 + NC n ≤ _ by rw [l0]; decide) dX9_init_7 (fun ad1 hA2 => ?_)
    rw [← hA2 v0 (by omega)]
    have w3 : Wf (n + 1) (clr m n) := wf_clr hw
    refine g_cs (cs2 := 1) (ss2 := 8) rfl (show 0 + NC n = 8 by rw [l0]) ?_
    refine g_putRF (pc := 9) X Ix fl_X9_9 ocX9 (by omega) k0v rfl rfl dX9_init_9 ?_
    have w4 : Wf (n + 1) (uR (clr m n) v0 0 (some n)) := wf_uR w3 (by omega)
    refine g_aload_n (pc := 12) X dX9_init_12 rfl 0 rfl ?_
    refine g_iconst (v := (4 : Int32)) (pc := 13) X dX9_init_13 (by decide) ?_
    refine g_newI (pc := 14) X ac_int k1 (by decide) (show _ = NC (n + 1) by rw [l1]; decide) (show NC (n + 1) ≤ 1000 by rw [l1]; decide) w4 (by decide) (show 8 + NC (n + 1) ≤ _ by rw [l1]; decide) dX9_init_14 (fun ad5 hA6 => ?_)
    rw [← hA6 v0 (by omega)]
    have w7 : Wf (n + 2) (clr (uR (clr m n) v0 0 (some n)) (n + 1)) := wf_clr w4
    refine g_cs (cs2 := 2) (ss2 := 12) rfl (show 8 + NC (n + 1) = 12 by rw [l1]) ?_
    refine g_putRF (pc := 16) X Ix fl_X9_15 ocX9 (by omega) k0v rfl rfl dX9_init_16 ?_
    have w8 : Wf (n + 2) (uR (clr (uR (clr m n) v0 0 (some n)) (n + 1)) v0 1 (some (n + 1))) := wf_uR w7 (by omega)
    refine g_aload_n (pc := 19) X dX9_init_19 rfl 0 rfl ?_
    refine g_iconst (v := (4 : Int32)) (pc := 20) X dX9_init_20 (by decide) ?_
    refine g_newI (pc := 21) X ac_int k2 (by decide) (show _ = NC (n + 2) by rw [l2]; decide) (show NC (n + 2) ≤ 1000 by rw [l2]; decide) w8 (by decide) (show 12 + NC (n + 2) ≤ _ by rw [l2]; decide) dX9_init_21 (fun ad9 hA10 => ?_)
    rw [← hA10 v0 (by omega)]
    have w11 : Wf (n + 3) (clr (uR (clr (uR (clr m n) v0 0 (some n)) (n + 1)) v0 1 (some (n + 1))) (n + 2)) := wf_clr w8
    refine g_cs (cs2 := 3) (ss2 := 16) rfl (show 12 + NC (n + 2) = 16 by rw [l2]) ?_
    refine g_putRF (pc := 23) X Ix fl_X9_18 ocX9 (by omega) k0v rfl rfl dX9_init_23 ?_
    have w12 : Wf (n + 3) (uR (clr (uR (clr (uR (clr m n) v0 0 (some n)) (n + 1)) v0 1 (some (n + 1))) (n + 2)) v0 2 (some (n + 2))) := wf_uR w11 (by omega)
    exact hret ad9 _ _ (fun i hi => by rw [hA10 i (by omega), hA6 i (by omega), hA2 i (by omega)]) dX9_init_26
  · unfold fX9_init
    have w3 : Wf (n + 1) (clr m n) := wf_clr hw
    have w4 : Wf (n + 1) (uR (clr m n) v0 0 (some n)) := wf_uR w3 (by omega)
    have w7 : Wf (n + 2) (clr (uR (clr m n) v0 0 (some n)) (n + 1)) := wf_clr w4
    have w8 : Wf (n + 2) (uR (clr (uR (clr m n) v0 0 (some n)) (n + 1)) v0 1 (some (n + 1))) := wf_uR w7 (by omega)
    have w11 : Wf (n + 3) (clr (uR (clr (uR (clr m n) v0 0 (some n)) (n + 1)) v0 1 (some (n + 1))) (n + 2)) := wf_clr w8
    have w12 : Wf (n + 3) (uR (clr (uR (clr (uR (clr m n) v0 0 (some n)) (n + 1)) v0 1 (some (n + 1))) (n + 2)) v0 2 (some (n + 2))) := wf_uR w11 (by omega)
    exact w12

noncomputable def fX4_init (v0 n : Nat) (m : Mem) : Mem := m
set_option maxHeartbeats 4000000 in
set_option maxRecDepth 100000 in
theorem cX4_init_ct (z : Zx) (ad : Nat → Nat) (v0 n : Nat) (m : Mem) (hv0 : v0 < n) (k0v : KC v0 = 4) (hw : Wf n m) : CtK z wC yX4_init cX4_init 1 (RmK 3 0 0) ad n [.ref (ad v0)] m (n) (fX4_init v0 n m) ∧ Wf (n) (fX4_init v0 n m) := by
  refine ⟨ct_ofK mi_X4_init rfl rfl (Nat.le_of_ble_eq_true rfl) (fun x X Ix hret => ?_), ?_⟩
  · refine g_lv [(0, .ref (ad v0))] [0] rfl ?_
    refine g_aload_n (pc := 0) X dX4_init_0 rfl 0 rfl ?_
    refine g_objInit (pc := 1) X oi_X4_3 oi_in oi_co (by decide) (by decide) (Nat.le_of_ble_eq_true rfl) dX4_init_1 ?_
    exact hret ad _ _ (fun i hi => by rfl) dX4_init_4
  · unfold fX4_init
    exact hw

noncomputable def fX2_init (v0 n : Nat) (m : Mem) : Mem := uR (clr (uR (clr m n) v0 0 (some n)) (n + 1)) v0 1 (some (n + 1))
set_option maxHeartbeats 4000000 in
set_option maxRecDepth 100000 in
theorem cX2_init_ct (z : Zx) (ad : Nat → Nat) (v0 n : Nat) (m : Mem) (hv0 : v0 < n) (k0v : KC v0 = 2) (hw : Wf n m) (k0 : KC (n) = 14) (l0 : NC (n) = 10) (k1 : KC (n + 1) = 14) (l1 : NC (n + 1) = 10) : CtK z wC yX2_init cX2_init 1 (RmK 3 2 20) ad n [.ref (ad v0)] m (n + 2) (fX2_init v0 n m) ∧ Wf (n + 2) (fX2_init v0 n m) := by
  refine ⟨ct_ofK mi_X2_init rfl rfl (Nat.le_of_ble_eq_true rfl) (fun x X Ix hret => ?_), ?_⟩
  · refine g_lv [(0, .ref (ad v0))] [0] rfl ?_
    refine g_aload_n (pc := 0) X dX2_init_0 rfl 0 rfl ?_
    refine g_objInit (pc := 1) X oi_X2_3 oi_in oi_co (by decide) (by decide) (Nat.le_of_ble_eq_true rfl) dX2_init_1 ?_
    refine g_aload_n (pc := 4) X dX2_init_4 rfl 0 rfl ?_
    refine g_bipush (v := (10 : Int32)) (pc := 5) X dX2_init_5 (by decide) ?_
    refine g_newI (pc := 7) X ac_int k0 (by decide) (show _ = NC n by rw [l0]; decide) (show NC n ≤ 1000 by rw [l0]; decide) hw (by decide) (show 0 + NC n ≤ _ by rw [l0]; decide) dX2_init_7 (fun ad1 hA2 => ?_)
    rw [← hA2 v0 (by omega)]
    have w3 : Wf (n + 1) (clr m n) := wf_clr hw
    refine g_cs (cs2 := 1) (ss2 := 10) rfl (show 0 + NC n = 10 by rw [l0]) ?_
    refine g_putRF (pc := 9) X Ix fl_X2_9 ocX2 (by omega) k0v rfl rfl dX2_init_9 ?_
    have w4 : Wf (n + 1) (uR (clr m n) v0 0 (some n)) := wf_uR w3 (by omega)
    refine g_aload_n (pc := 12) X dX2_init_12 rfl 0 rfl ?_
    refine g_bipush (v := (10 : Int32)) (pc := 13) X dX2_init_13 (by decide) ?_
    refine g_newI (pc := 15) X ac_int k1 (by decide) (show _ = NC (n + 1) by rw [l1]; decide) (show NC (n + 1) ≤ 1000 by rw [l1]; decide) w4 (by decide) (show 10 + NC (n + 1) ≤ _ by rw [l1]; decide) dX2_init_15 (fun ad5 hA6 => ?_)
    rw [← hA6 v0 (by omega)]
    have w7 : Wf (n + 2) (clr (uR (clr m n) v0 0 (some n)) (n + 1)) := wf_clr w4
    refine g_cs (cs2 := 2) (ss2 := 20) rfl (show 10 + NC (n + 1) = 20 by rw [l1]) ?_
    refine g_putRF (pc := 17) X Ix fl_X2_15 ocX2 (by omega) k0v rfl rfl dX2_init_17 ?_
    have w8 : Wf (n + 2) (uR (clr (uR (clr m n) v0 0 (some n)) (n + 1)) v0 1 (some (n + 1))) := wf_uR w7 (by omega)
    exact hret ad5 _ _ (fun i hi => by rw [hA6 i (by omega), hA2 i (by omega)]) dX2_init_20
  · unfold fX2_init
    have w3 : Wf (n + 1) (clr m n) := wf_clr hw
    have w4 : Wf (n + 1) (uR (clr m n) v0 0 (some n)) := wf_uR w3 (by omega)
    have w7 : Wf (n + 2) (clr (uR (clr m n) v0 0 (some n)) (n + 1)) := wf_clr w4
    have w8 : Wf (n + 2) (uR (clr (uR (clr m n) v0 0 (some n)) (n + 1)) v0 1 (some (n + 1))) := wf_uR w7 (by omega)
    exact w8

noncomputable def fX1_init (v0 n : Nat) (m : Mem) : Mem := uR (clr (uR (clr (uR (clr (uR (clr (uR (clr m n) v0 0 (some n)) (n + 1)) v0 1 (some (n + 1))) (n + 2)) v0 2 (some (n + 2))) (n + 3)) v0 3 (some (n + 3))) (n + 4)) v0 4 (some (n + 4))
set_option maxHeartbeats 4000000 in
set_option maxRecDepth 100000 in
theorem cX1_init_ct (z : Zx) (ad : Nat → Nat) (v0 n : Nat) (m : Mem) (hv0 : v0 < n) (k0v : KC v0 = 1) (hw : Wf n m) (k0 : KC (n) = 14) (l0 : NC (n) = 10) (k1 : KC (n + 1) = 14) (l1 : NC (n + 1) = 10) (k2 : KC (n + 2) = 14) (l2 : NC (n + 2) = 6) (k3 : KC (n + 3) = 14) (l3 : NC (n + 3) = 6) (k4 : KC (n + 4) = 14) (l4 : NC (n + 4) = 6) : CtK z wC yX1_init cX1_init 1 (RmK 3 5 38) ad n [.ref (ad v0)] m (n + 5) (fX1_init v0 n m) ∧ Wf (n + 5) (fX1_init v0 n m) := by
  refine ⟨ct_ofK mi_X1_init rfl rfl (Nat.le_of_ble_eq_true rfl) (fun x X Ix hret => ?_), ?_⟩
  · refine g_lv [(0, .ref (ad v0))] [0] rfl ?_
    refine g_aload_n (pc := 0) X dX1_init_0 rfl 0 rfl ?_
    refine g_objInit (pc := 1) X oi_X1_3 oi_in oi_co (by decide) (by decide) (Nat.le_of_ble_eq_true rfl) dX1_init_1 ?_
    refine g_aload_n (pc := 4) X dX1_init_4 rfl 0 rfl ?_
    refine g_bipush (v := (10 : Int32)) (pc := 5) X dX1_init_5 (by decide) ?_
    refine g_newI (pc := 7) X ac_int k0 (by decide) (show _ = NC n by rw [l0]; decide) (show NC n ≤ 1000 by rw [l0]; decide) hw (by decide) (show 0 + NC n ≤ _ by rw [l0]; decide) dX1_init_7 (fun ad1 hA2 => ?_)
    rw [← hA2 v0 (by omega)]
    have w3 : Wf (n + 1) (clr m n) := wf_clr hw
    refine g_cs (cs2 := 1) (ss2 := 10) rfl (show 0 + NC n = 10 by rw [l0]) ?_
    refine g_putRF (pc := 9) X Ix fl_X1_9 ocX1 (by omega) k0v rfl rfl dX1_init_9 ?_
    have w4 : Wf (n + 1) (uR (clr m n) v0 0 (some n)) := wf_uR w3 (by omega)
    refine g_aload_n (pc := 12) X dX1_init_12 rfl 0 rfl ?_
    refine g_bipush (v := (10 : Int32)) (pc := 13) X dX1_init_13 (by decide) ?_
    refine g_newI (pc := 15) X ac_int k1 (by decide) (show _ = NC (n + 1) by rw [l1]; decide) (show NC (n + 1) ≤ 1000 by rw [l1]; decide) w4 (by decide) (show 10 + NC (n + 1) ≤ _ by rw [l1]; decide) dX1_init_15 (fun ad5 hA6 => ?_)
    rw [← hA6 v0 (by omega)]
    have w7 : Wf (n + 2) (clr (uR (clr m n) v0 0 (some n)) (n + 1)) := wf_clr w4
    refine g_cs (cs2 := 2) (ss2 := 20) rfl (show 10 + NC (n + 1) = 20 by rw [l1]) ?_
    refine g_putRF (pc := 17) X Ix fl_X1_15 ocX1 (by omega) k0v rfl rfl dX1_init_17 ?_
    have w8 : Wf (n + 2) (uR (clr (uR (clr m n) v0 0 (some n)) (n + 1)) v0 1 (some (n + 1))) := wf_uR w7 (by omega)
    refine g_aload_n (pc := 20) X dX1_init_20 rfl 0 rfl ?_
    refine g_bipush (v := (6 : Int32)) (pc := 21) X dX1_init_21 (by decide) ?_
    refine g_newI (pc := 23) X ac_int k2 (by decide) (show _ = NC (n + 2) by rw [l2]; decide) (show NC (n + 2) ≤ 1000 by rw [l2]; decide) w8 (by decide) (show 20 + NC (n + 2) ≤ _ by rw [l2]; decide) dX1_init_23 (fun ad9 hA10 => ?_)
    rw [← hA10 v0 (by omega)]
    have w11 : Wf (n + 3) (clr (uR (clr (uR (clr m n) v0 0 (some n)) (n + 1)) v0 1 (some (n + 1))) (n + 2)) := wf_clr w8
    refine g_cs (cs2 := 3) (ss2 := 26) rfl (show 20 + NC (n + 2) = 26 by rw [l2]) ?_
    refine g_putRF (pc := 25) X Ix fl_X1_18 ocX1 (by omega) k0v rfl rfl dX1_init_25 ?_
    have w12 : Wf (n + 3) (uR (clr (uR (clr (uR (clr m n) v0 0 (some n)) (n + 1)) v0 1 (some (n + 1))) (n + 2)) v0 2 (some (n + 2))) := wf_uR w11 (by omega)
    refine g_aload_n (pc := 28) X dX1_init_28 rfl 0 rfl ?_
    refine g_bipush (v := (6 : Int32)) (pc := 29) X dX1_init_29 (by decide) ?_
    refine g_newI (pc := 31) X ac_int k3 (by decide) (show _ = NC (n + 3) by rw [l3]; decide) (show NC (n + 3) ≤ 1000 by rw [l3]; decide) w12 (by decide) (show 26 + NC (n + 3) ≤ _ by rw [l3]; decide) dX1_init_31 (fun ad13 hA14 => ?_)
    rw [← hA14 v0 (by omega)]
    have w15 : Wf (n + 4) (clr (uR (clr (uR (clr (uR (clr m n) v0 0 (some n)) (n + 1)) v0 1 (some (n + 1))) (n + 2)) v0 2 (some (n + 2))) (n + 3)) := wf_clr w12
    refine g_cs (cs2 := 4) (ss2 := 32) rfl (show 26 + NC (n + 3) = 32 by rw [l3]) ?_
    refine g_putRF (pc := 33) X Ix fl_X1_21 ocX1 (by omega) k0v rfl rfl dX1_init_33 ?_
    have w16 : Wf (n + 4) (uR (clr (uR (clr (uR (clr (uR (clr m n) v0 0 (some n)) (n + 1)) v0 1 (some (n + 1))) (n + 2)) v0 2 (some (n + 2))) (n + 3)) v0 3 (some (n + 3))) := wf_uR w15 (by omega)
    refine g_aload_n (pc := 36) X dX1_init_36 rfl 0 rfl ?_
    refine g_bipush (v := (6 : Int32)) (pc := 37) X dX1_init_37 (by decide) ?_
    refine g_newI (pc := 39) X ac_int k4 (by decide) (show _ = NC (n + 4) by rw [l4]; decide) (show NC (n + 4) ≤ 1000 by rw [l4]; decide) w16 (by decide) (show 32 + NC (n + 4) ≤ _ by rw [l4]; decide) dX1_init_39 (fun ad17 hA18 => ?_)
    rw [← hA18 v0 (by omega)]
    have w19 : Wf (n + 5) (clr (uR (clr (uR (clr (uR (clr (uR (clr m n) v0 0 (some n)) (n + 1)) v0 1 (some (n + 1))) (n + 2)) v0 2 (some (n + 2))) (n + 3)) v0 3 (some (n + 3))) (n + 4)) := wf_clr w16
    refine g_cs (cs2 := 5) (ss2 := 38) rfl (show 32 + NC (n + 4) = 38 by rw [l4]) ?_
    refine g_putRF (pc := 41) X Ix fl_X1_24 ocX1 (by omega) k0v rfl rfl dX1_init_41 ?_
    have w20 : Wf (n + 5) (uR (clr (uR (clr (uR (clr (uR (clr (uR (clr m n) v0 0 (some n)) (n + 1)) v0 1 (some (n + 1))) (n + 2)) v0 2 (some (n + 2))) (n + 3)) v0 3 (some (n + 3))) (n + 4)) v0 4 (some (n + 4))) := wf_uR w19 (by omega)
    exact hret ad17 _ _ (fun i hi => by rw [hA18 i (by omega), hA14 i (by omega), hA10 i (by omega), hA6 i (by omega), hA2 i (by omega)]) dX1_init_44
  · unfold fX1_init
    have w3 : Wf (n + 1) (clr m n) := wf_clr hw
    have w4 : Wf (n + 1) (uR (clr m n) v0 0 (some n)) := wf_uR w3 (by omega)
    have w7 : Wf (n + 2) (clr (uR (clr m n) v0 0 (some n)) (n + 1)) := wf_clr w4
    have w8 : Wf (n + 2) (uR (clr (uR (clr m n) v0 0 (some n)) (n + 1)) v0 1 (some (n + 1))) := wf_uR w7 (by omega)
    have w11 : Wf (n + 3) (clr (uR (clr (uR (clr m n) v0 0 (some n)) (n + 1)) v0 1 (some (n + 1))) (n + 2)) := wf_clr w8
    have w12 : Wf (n + 3) (uR (clr (uR (clr (uR (clr m n) v0 0 (some n)) (n + 1)) v0 1 (some (n + 1))) (n + 2)) v0 2 (some (n + 2))) := wf_uR w11 (by omega)
    have w15 : Wf (n + 4) (clr (uR (clr (uR (clr (uR (clr m n) v0 0 (some n)) (n + 1)) v0 1 (some (n + 1))) (n + 2)) v0 2 (some (n + 2))) (n + 3)) := wf_clr w12
    have w16 : Wf (n + 4) (uR (clr (uR (clr (uR (clr (uR (clr m n) v0 0 (some n)) (n + 1)) v0 1 (some (n + 1))) (n + 2)) v0 2 (some (n + 2))) (n + 3)) v0 3 (some (n + 3))) := wf_uR w15 (by omega)
    have w19 : Wf (n + 5) (clr (uR (clr (uR (clr (uR (clr (uR (clr m n) v0 0 (some n)) (n + 1)) v0 1 (some (n + 1))) (n + 2)) v0 2 (some (n + 2))) (n + 3)) v0 3 (some (n + 3))) (n + 4)) := wf_clr w16
    have w20 : Wf (n + 5) (uR (clr (uR (clr (uR (clr (uR (clr (uR (clr m n) v0 0 (some n)) (n + 1)) v0 1 (some (n + 1))) (n + 2)) v0 2 (some (n + 2))) (n + 3)) v0 3 (some (n + 3))) (n + 4)) v0 4 (some (n + 4))) := wf_uR w19 (by omega)
    exact w20

noncomputable def fX10_init (v0 n : Nat) (m : Mem) : Mem := uR (fX1_init (n + 8) (n + 9) (clr (uR (fX2_init (n + 5) (n + 6) (clr (uR (fX4_init (n + 4) (n + 5) (clr (uR (fX9_init n (n + 1) (clr m n)) v0 0 (some n)) (n + 4))) v0 1 (some (n + 4))) (n + 5))) v0 2 (some (n + 5))) (n + 8))) v0 3 (some (n + 8))
set_option maxHeartbeats 4000000 in
set_option maxRecDepth 100000 in
theorem cX10_init_ct (z : Zx) (ad : Nat → Nat) (v0 n : Nat) (m : Mem) (hv0 : v0 < n) (k0v : KC v0 = 10) (hw : Wf n m) (k0 : KC (n) = 9) (k1 : KC (n + 1) = 14) (l1 : NC (n + 1) = 8) (k2 : KC (n + 2) = 14) (l2 : NC (n + 2) = 4) (k3 : KC (n + 3) = 14) (l3 : NC (n + 3) = 4) (k4 : KC (n + 4) = 4) (k5 : KC (n + 5) = 2) (k6 : KC (n + 6) = 14) (l6 : NC (n + 6) = 10) (k7 : KC (n + 7) = 14) (l7 : NC (n + 7) = 10) (k8 : KC (n + 8) = 1) (k9 : KC (n + 9) = 14) (l9 : NC (n + 9) = 10) (k10 : KC (n + 10) = 14) (l10 : NC (n + 10) = 10) (k11 : KC (n + 11) = 14) (l11 : NC (n + 11) = 6) (k12 : KC (n + 12) = 14) (l12 : NC (n + 12) = 6) (k13 : KC (n + 13) = 14) (l13 : NC (n + 13) = 6) : CtK z wC yX10_init cX10_init 1 (RmK 6 14 100) ad n [.ref (ad v0)] m (n + 14) (fX10_init v0 n m) ∧ Wf (n + 14) (fX10_init v0 n m) := by
  refine ⟨ct_ofK mi_X10_init rfl rfl (Nat.le_of_ble_eq_true rfl) (fun x X Ix hret => ?_), ?_⟩
  · refine g_lv [(0, .ref (ad v0))] [0] rfl ?_
    refine g_aload_n (pc := 0) X dX10_init_0 rfl 0 rfl ?_
    refine g_objInit (pc := 1) X oi_X10_1 oi_in oi_co (by decide) (by decide) (Nat.le_of_ble_eq_true rfl) dX10_init_1 ?_
    refine g_aload_n (pc := 4) X dX10_init_4 rfl 0 rfl ?_
    refine g_new (pc := 5) X clX9 dfX9 cl_X10_7 it_X9 ii_X9 k0 hw (by decide) (by decide) dX10_init_5 (fun ad1 hA2 => ?_)
    rw [← hA2 v0 (by omega)]
    have w3 : Wf (n + 1) (clr m n) := wf_clr hw
    refine g_cs (cs2 := 1) (ss2 := 7) rfl rfl ?_
    refine g_dup (pc := 8) X dX10_init_8 rfl ?_
    have hc4 := (cX9_init_ct z ad1 n (n + 1) (clr m n) (by omega) k0 w3 k1 l1 k2 l2 k3 l3)
    refine g_callKN (pc := 9) (As := []) (rest := [.ref (ad1 n), .ref (ad1 v0)]) (q := 4) X mi_X9_init rfl im_X9_init rfl hc4.1 rfl rfl (Nat.le_of_ble_eq_true rfl) ⟨by decide, by decide, by decide, by decide⟩ dX10_init_9 (fun ad5 hA6 => ?_)
    rw [← hA6 v0 (by omega)]
    rw [← hA6 n (by omega)]
    have w7 : Wf (n + 4) (fX9_init n (n + 1) (clr m n)) := hc4.2
    refine g_cs (cs2 := 4) (ss2 := 23) rfl rfl ?_
    refine g_putRF (pc := 12) X Ix fl_X10_10 ocX10 (by omega) k0v rfl rfl dX10_init_12 ?_
    have w8 : Wf (n + 4) (uR (fX9_init n (n + 1) (clr m n)) v0 0 (some n)) := wf_uR w7 (by omega)
    refine g_aload_n (pc := 15) X dX10_init_15 rfl 0 rfl ?_
    refine g_new (pc := 16) X clX4 dfX4 cl_X10_16 it_X4 ii_X4 k4 w8 (by decide) (by decide) dX10_init_16 (fun ad9 hA10 => ?_)
    rw [← hA10 v0 (by omega)]
    have w11 : Wf (n + 5) (clr (uR (fX9_init n (n + 1) (clr m n)) v0 0 (some n)) (n + 4)) := wf_clr w8
    refine g_cs (cs2 := 5) (ss2 := 32) rfl rfl ?_
    refine g_dup (pc := 19) X dX10_init_19 rfl ?_
    have hc12 := (cX4_init_ct z ad9 (n + 4) (n + 5) (clr (uR (fX9_init n (n + 1) (clr m n)) v0 0 (some n)) (n + 4)) (by omega) k4 w11 )
    refine g_callKN (pc := 20) (As := []) (rest := [.ref (ad9 (n + 4)), .ref (ad9 v0)]) (q := 5) X mi_X4_init rfl im_X4_init rfl hc12.1 rfl rfl (Nat.le_of_ble_eq_true rfl) ⟨by decide, by decide, by decide, by decide⟩ dX10_init_20 (fun ad13 hA14 => ?_)
    rw [← hA14 v0 (by omega)]
    rw [← hA14 (n + 4) (by omega)]
    have w15 : Wf (n + 5) (fX4_init (n + 4) (n + 5) (clr (uR (fX9_init n (n + 1) (clr m n)) v0 0 (some n)) (n + 4))) := hc12.2
    refine g_cs (cs2 := 5) (ss2 := 32) rfl rfl ?_
    refine g_putRF (pc := 23) X Ix fl_X10_19 ocX10 (by omega) k0v rfl rfl dX10_init_23 ?_
    have w16 : Wf (n + 5) (uR (fX4_init (n + 4) (n + 5) (clr (uR (fX9_init n (n + 1) (clr m n)) v0 0 (some n)) (n + 4))) v0 1 (some (n + 4))) := wf_uR w15 (by omega)
    refine g_aload_n (pc := 26) X dX10_init_26 rfl 0 rfl ?_
    refine g_new (pc := 27) X clX2 dfX2 cl_X10_23 it_X2 ii_X2 k5 w16 (by decide) (by decide) dX10_init_27 (fun ad17 hA18 => ?_)
    rw [← hA18 v0 (by omega)]
    have w19 : Wf (n + 6) (clr (uR (fX4_init (n + 4) (n + 5) (clr (uR (fX9_init n (n + 1) (clr m n)) v0 0 (some n)) (n + 4))) v0 1 (some (n + 4))) (n + 5)) := wf_clr w16
    refine g_cs (cs2 := 6) (ss2 := 35) rfl rfl ?_
    refine g_dup (pc := 30) X dX10_init_30 rfl ?_
    have hc20 := (cX2_init_ct z ad17 (n + 5) (n + 6) (clr (uR (fX4_init (n + 4) (n + 5) (clr (uR (fX9_init n (n + 1) (clr m n)) v0 0 (some n)) (n + 4))) v0 1 (some (n + 4))) (n + 5)) (by omega) k5 w19 k6 l6 k7 l7)
    refine g_callKN (pc := 31) (As := []) (rest := [.ref (ad17 (n + 5)), .ref (ad17 v0)]) (q := 6) X mi_X2_init rfl im_X2_init rfl hc20.1 rfl rfl (Nat.le_of_ble_eq_true rfl) ⟨by decide, by decide, by decide, by decide⟩ dX10_init_31 (fun ad21 hA22 => ?_)
    rw [← hA22 v0 (by omega)]
    rw [← hA22 (n + 5) (by omega)]
    have w23 : Wf (n + 8) (fX2_init (n + 5) (n + 6) (clr (uR (fX4_init (n + 4) (n + 5) (clr (uR (fX9_init n (n + 1) (clr m n)) v0 0 (some n)) (n + 4))) v0 1 (some (n + 4))) (n + 5))) := hc20.2
    refine g_cs (cs2 := 8) (ss2 := 55) rfl rfl ?_
    refine g_putRF (pc := 34) X Ix fl_X10_26 ocX10 (by omega) k0v rfl rfl dX10_init_34 ?_
    have w24 : Wf (n + 8) (uR (fX2_init (n + 5) (n + 6) (clr (uR (fX4_init (n + 4) (n + 5) (clr (uR (fX9_init n (n + 1) (clr m n)) v0 0 (some n)) (n + 4))) v0 1 (some (n + 4))) (n + 5))) v0 2 (some (n + 5))) := wf_uR w23 (by omega)
    refine g_aload_n (pc := 37) X dX10_init_37 rfl 0 rfl ?_
    refine g_new (pc := 38) X clX1 dfX1 cl_X10_30 it_X1 ii_X1 k8 w24 (by decide) (by decide) dX10_init_38 (fun ad25 hA26 => ?_)
    rw [← hA26 v0 (by omega)]
    have w27 : Wf (n + 9) (clr (uR (fX2_init (n + 5) (n + 6) (clr (uR (fX4_init (n + 4) (n + 5) (clr (uR (fX9_init n (n + 1) (clr m n)) v0 0 (some n)) (n + 4))) v0 1 (some (n + 4))) (n + 5))) v0 2 (some (n + 5))) (n + 8)) := wf_clr w24
    refine g_cs (cs2 := 9) (ss2 := 62) rfl rfl ?_
    refine g_dup (pc := 41) X dX10_init_41 rfl ?_
    have hc28 := (cX1_init_ct z ad25 (n + 8) (n + 9) (clr (uR (fX2_init (n + 5) (n + 6) (clr (uR (fX4_init (n + 4) (n + 5) (clr (uR (fX9_init n (n + 1) (clr m n)) v0 0 (some n)) (n + 4))) v0 1 (some (n + 4))) (n + 5))) v0 2 (some (n + 5))) (n + 8)) (by omega) k8 w27 k9 l9 k10 l10 k11 l11 k12 l12 k13 l13)
    refine g_callKN (pc := 42) (As := []) (rest := [.ref (ad25 (n + 8)), .ref (ad25 v0)]) (q := 7) X mi_X1_init rfl im_X1_init rfl hc28.1 rfl rfl (Nat.le_of_ble_eq_true rfl) ⟨by decide, by decide, by decide, by decide⟩ dX10_init_42 (fun ad29 hA30 => ?_)
    rw [← hA30 v0 (by omega)]
    rw [← hA30 (n + 8) (by omega)]
    have w31 : Wf (n + 14) (fX1_init (n + 8) (n + 9) (clr (uR (fX2_init (n + 5) (n + 6) (clr (uR (fX4_init (n + 4) (n + 5) (clr (uR (fX9_init n (n + 1) (clr m n)) v0 0 (some n)) (n + 4))) v0 1 (some (n + 4))) (n + 5))) v0 2 (some (n + 5))) (n + 8))) := hc28.2
    refine g_cs (cs2 := 14) (ss2 := 100) rfl rfl ?_
    refine g_putRF (pc := 45) X Ix fl_X10_33 ocX10 (by omega) k0v rfl rfl dX10_init_45 ?_
    have w32 : Wf (n + 14) (uR (fX1_init (n + 8) (n + 9) (clr (uR (fX2_init (n + 5) (n + 6) (clr (uR (fX4_init (n + 4) (n + 5) (clr (uR (fX9_init n (n + 1) (clr m n)) v0 0 (some n)) (n + 4))) v0 1 (some (n + 4))) (n + 5))) v0 2 (some (n + 5))) (n + 8))) v0 3 (some (n + 8))) := wf_uR w31 (by omega)
    exact hret ad29 _ _ (fun i hi => by rw [hA30 i (by omega), hA26 i (by omega), hA22 i (by omega), hA18 i (by omega), hA14 i (by omega), hA10 i (by omega), hA6 i (by omega), hA2 i (by omega)]) dX10_init_48
  · unfold fX10_init
    have w3 : Wf (n + 1) (clr m n) := wf_clr hw
    have hc4 := (cX9_init_ct z ad n (n + 1) (clr m n) (by omega) k0 w3 k1 l1 k2 l2 k3 l3)
    have w7 : Wf (n + 4) (fX9_init n (n + 1) (clr m n)) := hc4.2
    have w8 : Wf (n + 4) (uR (fX9_init n (n + 1) (clr m n)) v0 0 (some n)) := wf_uR w7 (by omega)
    have w11 : Wf (n + 5) (clr (uR (fX9_init n (n + 1) (clr m n)) v0 0 (some n)) (n + 4)) := wf_clr w8
    have hc12 := (cX4_init_ct z ad (n + 4) (n + 5) (clr (uR (fX9_init n (n + 1) (clr m n)) v0 0 (some n)) (n + 4)) (by omega) k4 w11 )
    have w15 : Wf (n + 5) (fX4_init (n + 4) (n + 5) (clr (uR (fX9_init n (n + 1) (clr m n)) v0 0 (some n)) (n + 4))) := hc12.2
    have w16 : Wf (n + 5) (uR (fX4_init (n + 4) (n + 5) (clr (uR (fX9_init n (n + 1) (clr m n)) v0 0 (some n)) (n + 4))) v0 1 (some (n + 4))) := wf_uR w15 (by omega)
    have w19 : Wf (n + 6) (clr (uR (fX4_init (n + 4) (n + 5) (clr (uR (fX9_init n (n + 1) (clr m n)) v0 0 (some n)) (n + 4))) v0 1 (some (n + 4))) (n + 5)) := wf_clr w16
    have hc20 := (cX2_init_ct z ad (n + 5) (n + 6) (clr (uR (fX4_init (n + 4) (n + 5) (clr (uR (fX9_init n (n + 1) (clr m n)) v0 0 (some n)) (n + 4))) v0 1 (some (n + 4))) (n + 5)) (by omega) k5 w19 k6 l6 k7 l7)
    have w23 : Wf (n + 8) (fX2_init (n + 5) (n + 6) (clr (uR (fX4_init (n + 4) (n + 5) (clr (uR (fX9_init n (n + 1) (clr m n)) v0 0 (some n)) (n + 4))) v0 1 (some (n + 4))) (n + 5))) := hc20.2
    have w24 : Wf (n + 8) (uR (fX2_init (n + 5) (n + 6) (clr (uR (fX4_init (n + 4) (n + 5) (clr (uR (fX9_init n (n + 1) (clr m n)) v0 0 (some n)) (n + 4))) v0 1 (some (n + 4))) (n + 5))) v0 2 (some (n + 5))) := wf_uR w23 (by omega)
    have w27 : Wf (n + 9) (clr (uR (fX2_init (n + 5) (n + 6) (clr (uR (fX4_init (n + 4) (n + 5) (clr (uR (fX9_init n (n + 1) (clr m n)) v0 0 (some n)) (n + 4))) v0 1 (some (n + 4))) (n + 5))) v0 2 (some (n + 5))) (n + 8)) := wf_clr w24
    have hc28 := (cX1_init_ct z ad (n + 8) (n + 9) (clr (uR (fX2_init (n + 5) (n + 6) (clr (uR (fX4_init (n + 4) (n + 5) (clr (uR (fX9_init n (n + 1) (clr m n)) v0 0 (some n)) (n + 4))) v0 1 (some (n + 4))) (n + 5))) v0 2 (some (n + 5))) (n + 8)) (by omega) k8 w27 k9 l9 k10 l10 k11 l11 k12 l12 k13 l13)
    have w31 : Wf (n + 14) (fX1_init (n + 8) (n + 9) (clr (uR (fX2_init (n + 5) (n + 6) (clr (uR (fX4_init (n + 4) (n + 5) (clr (uR (fX9_init n (n + 1) (clr m n)) v0 0 (some n)) (n + 4))) v0 1 (some (n + 4))) (n + 5))) v0 2 (some (n + 5))) (n + 8))) := hc28.2
    have w32 : Wf (n + 14) (uR (fX1_init (n + 8) (n + 9) (clr (uR (fX2_init (n + 5) (n + 6) (clr (uR (fX4_init (n + 4) (n + 5) (clr (uR (fX9_init n (n + 1) (clr m n)) v0 0 (some n)) (n + 4))) v0 1 (some (n + 4))) (n + 5))) v0 2 (some (n + 5))) (n + 8))) v0 3 (some (n + 8))) := wf_uR w31 (by omega)
    exact w32

noncomputable def fX3_init (v0 n : Nat) (m : Mem) : Mem := uR (clr (uR (clr (uR (clr (uR (clr (uR (clr m n) v0 0 (some n)) (n + 1)) v0 1 (some (n + 1))) (n + 2)) v0 2 (some (n + 2))) (n + 3)) v0 3 (some (n + 3))) (n + 4)) v0 4 (some (n + 4))
set_option maxHeartbeats 4000000 in
set_option maxRecDepth 100000 in
theorem cX3_init_ct (z : Zx) (ad : Nat → Nat) (v0 n : Nat) (m : Mem) (hv0 : v0 < n) (k0v : KC v0 = 3) (hw : Wf n m) (k0 : KC (n) = 15) (l0 : NC (n) = 128) (k1 : KC (n + 1) = 14) (l1 : NC (n + 1) = 128) (k2 : KC (n + 2) = 15) (l2 : NC (n + 2) = 128) (k3 : KC (n + 3) = 14) (l3 : NC (n + 3) = 128) (k4 : KC (n + 4) = 15) (l4 : NC (n + 4) = 9) : CtK z wC yX3_init cX3_init 1 (RmK 3 5 521) ad n [.ref (ad v0)] m (n + 5) (fX3_init v0 n m) ∧ Wf (n + 5) (fX3_init v0 n m) := by
  refine ⟨ct_ofK mi_X3_init rfl rfl (Nat.le_of_ble_eq_true rfl) (fun x X Ix hret => ?_), ?_⟩
  · refine g_lv [(0, .ref (ad v0))] [0] rfl ?_
    refine g_aload_n (pc := 0) X dX3_init_0 rfl 0 rfl ?_
    refine g_objInit (pc := 1) X oi_X3_3 oi_in oi_co (by decide) (by decide) (Nat.le_of_ble_eq_true rfl) dX3_init_1 ?_
    refine g_aload_n (pc := 4) X dX3_init_4 rfl 0 rfl ?_
    refine g_sipush (v := (128 : Int32)) (pc := 5) X dX3_init_5 (by decide) ?_
    refine g_newJ (pc := 8) X ac_long k0 (by decide) (show _ = NC n by rw [l0]; decide) (show NC n ≤ 1000 by rw [l0]; decide) hw (by decide) (show 0 + NC n ≤ _ by rw [l0]; decide) dX3_init_8 (fun ad1 hA2 => ?_)
    rw [← hA2 v0 (by omega)]
    have w3 : Wf (n + 1) (clr m n) := wf_clr hw
    refine g_cs (cs2 := 1) (ss2 := 128) rfl (show 0 + NC n = 128 by rw [l0]) ?_
    refine g_putR (pc := 10) X fl_X3_9 (by omega) k0v rfl rfl dX3_init_10 ?_
    have w4 : Wf (n + 1) (uR (clr m n) v0 0 (some n)) := wf_uR w3 (by omega)
    refine g_aload_n (pc := 13) X dX3_init_13 rfl 0 rfl ?_
    refine g_sipush (v := (128 : Int32)) (pc := 14) X dX3_init_14 (by decide) ?_
    refine g_newI (pc := 17) X ac_int k1 (by decide) (show _ = NC (n + 1) by rw [l1]; decide) (show NC (n + 1) ≤ 1000 by rw [l1]; decide) w4 (by decide) (show 128 + NC (n + 1) ≤ _ by rw [l1]; decide) dX3_init_17 (fun ad5 hA6 => ?_)
    rw [← hA6 v0 (by omega)]
    have w7 : Wf (n + 2) (clr (uR (clr m n) v0 0 (some n)) (n + 1)) := wf_clr w4
    refine g_cs (cs2 := 2) (ss2 := 256) rfl (show 128 + NC (n + 1) = 256 by rw [l1]) ?_
    refine g_putR (pc := 19) X fl_X3_15 (by omega) k0v rfl rfl dX3_init_19 ?_
    have w8 : Wf (n + 2) (uR (clr (uR (clr m n) v0 0 (some n)) (n + 1)) v0 1 (some (n + 1))) := wf_uR w7 (by omega)
    refine g_aload_n (pc := 22) X dX3_init_22 rfl 0 rfl ?_
    refine g_sipush (v := (128 : Int32)) (pc := 23) X dX3_init_23 (by decide) ?_
    refine g_newJ (pc := 26) X ac_long k2 (by decide) (show _ = NC (n + 2) by rw [l2]; decide) (show NC (n + 2) ≤ 1000 by rw [l2]; decide) w8 (by decide) (show 256 + NC (n + 2) ≤ _ by rw [l2]; decide) dX3_init_26 (fun ad9 hA10 => ?_)
    rw [← hA10 v0 (by omega)]
    have w11 : Wf (n + 3) (clr (uR (clr (uR (clr m n) v0 0 (some n)) (n + 1)) v0 1 (some (n + 1))) (n + 2)) := wf_clr w8
    refine g_cs (cs2 := 3) (ss2 := 384) rfl (show 256 + NC (n + 2) = 384 by rw [l2]) ?_
    refine g_putR (pc := 28) X fl_X3_19 (by omega) k0v rfl rfl dX3_init_28 ?_
    have w12 : Wf (n + 3) (uR (clr (uR (clr (uR (clr m n) v0 0 (some n)) (n + 1)) v0 1 (some (n + 1))) (n + 2)) v0 2 (some (n + 2))) := wf_uR w11 (by omega)
    refine g_aload_n (pc := 31) X dX3_init_31 rfl 0 rfl ?_
    refine g_sipush (v := (128 : Int32)) (pc := 32) X dX3_init_32 (by decide) ?_
    refine g_newI (pc := 35) X ac_int k3 (by decide) (show _ = NC (n + 3) by rw [l3]; decide) (show NC (n + 3) ≤ 1000 by rw [l3]; decide) w12 (by decide) (show 384 + NC (n + 3) ≤ _ by rw [l3]; decide) dX3_init_35 (fun ad13 hA14 => ?_)
    rw [← hA14 v0 (by omega)]
    have w15 : Wf (n + 4) (clr (uR (clr (uR (clr (uR (clr m n) v0 0 (some n)) (n + 1)) v0 1 (some (n + 1))) (n + 2)) v0 2 (some (n + 2))) (n + 3)) := wf_clr w12
    refine g_cs (cs2 := 4) (ss2 := 512) rfl (show 384 + NC (n + 3) = 512 by rw [l3]) ?_
    refine g_putR (pc := 37) X fl_X3_22 (by omega) k0v rfl rfl dX3_init_37 ?_
    have w16 : Wf (n + 4) (uR (clr (uR (clr (uR (clr (uR (clr m n) v0 0 (some n)) (n + 1)) v0 1 (some (n + 1))) (n + 2)) v0 2 (some (n + 2))) (n + 3)) v0 3 (some (n + 3))) := wf_uR w15 (by omega)
    refine g_aload_n (pc := 40) X dX3_init_40 rfl 0 rfl ?_
    refine g_bipush (v := (9 : Int32)) (pc := 41) X dX3_init_41 (by decide) ?_
    refine g_newJ (pc := 43) X ac_long k4 (by decide) (show _ = NC (n + 4) by rw [l4]; decide) (show NC (n + 4) ≤ 1000 by rw [l4]; decide) w16 (by decide) (show 512 + NC (n + 4) ≤ _ by rw [l4]; decide) dX3_init_43 (fun ad17 hA18 => ?_)
    rw [← hA18 v0 (by omega)]
    have w19 : Wf (n + 5) (clr (uR (clr (uR (clr (uR (clr (uR (clr m n) v0 0 (some n)) (n + 1)) v0 1 (some (n + 1))) (n + 2)) v0 2 (some (n + 2))) (n + 3)) v0 3 (some (n + 3))) (n + 4)) := wf_clr w16
    refine g_cs (cs2 := 5) (ss2 := 521) rfl (show 512 + NC (n + 4) = 521 by rw [l4]) ?_
    refine g_putRF (pc := 45) X Ix fl_X3_25 ocX3 (by omega) k0v rfl rfl dX3_init_45 ?_
    have w20 : Wf (n + 5) (uR (clr (uR (clr (uR (clr (uR (clr (uR (clr m n) v0 0 (some n)) (n + 1)) v0 1 (some (n + 1))) (n + 2)) v0 2 (some (n + 2))) (n + 3)) v0 3 (some (n + 3))) (n + 4)) v0 4 (some (n + 4))) := wf_uR w19 (by omega)
    exact hret ad17 _ _ (fun i hi => by rw [hA18 i (by omega), hA14 i (by omega), hA10 i (by omega), hA6 i (by omega), hA2 i (by omega)]) dX3_init_48
  · unfold fX3_init
    have w3 : Wf (n + 1) (clr m n) := wf_clr hw
    have w4 : Wf (n + 1) (uR (clr m n) v0 0 (some n)) := wf_uR w3 (by omega)
    have w7 : Wf (n + 2) (clr (uR (clr m n) v0 0 (some n)) (n + 1)) := wf_clr w4
    have w8 : Wf (n + 2) (uR (clr (uR (clr m n) v0 0 (some n)) (n + 1)) v0 1 (some (n + 1))) := wf_uR w7 (by omega)
    have w11 : Wf (n + 3) (clr (uR (clr (uR (clr m n) v0 0 (some n)) (n + 1)) v0 1 (some (n + 1))) (n + 2)) := wf_clr w8
    have w12 : Wf (n + 3) (uR (clr (uR (clr (uR (clr m n) v0 0 (some n)) (n + 1)) v0 1 (some (n + 1))) (n + 2)) v0 2 (some (n + 2))) := wf_uR w11 (by omega)
    have w15 : Wf (n + 4) (clr (uR (clr (uR (clr (uR (clr m n) v0 0 (some n)) (n + 1)) v0 1 (some (n + 1))) (n + 2)) v0 2 (some (n + 2))) (n + 3)) := wf_clr w12
    have w16 : Wf (n + 4) (uR (clr (uR (clr (uR (clr (uR (clr m n) v0 0 (some n)) (n + 1)) v0 1 (some (n + 1))) (n + 2)) v0 2 (some (n + 2))) (n + 3)) v0 3 (some (n + 3))) := wf_uR w15 (by omega)
    have w19 : Wf (n + 5) (clr (uR (clr (uR (clr (uR (clr (uR (clr m n) v0 0 (some n)) (n + 1)) v0 1 (some (n + 1))) (n + 2)) v0 2 (some (n + 2))) (n + 3)) v0 3 (some (n + 3))) (n + 4)) := wf_clr w16
    have w20 : Wf (n + 5) (uR (clr (uR (clr (uR (clr (uR (clr (uR (clr m n) v0 0 (some n)) (n + 1)) v0 1 (some (n + 1))) (n + 2)) v0 2 (some (n + 2))) (n + 3)) v0 3 (some (n + 3))) (n + 4)) v0 4 (some (n + 4))) := wf_uR w19 (by omega)
    exact w20

noncomputable def fX0_init (v0 n : Nat) (m : Mem) : Mem := uR (clr m n) v0 0 (some n)
set_option maxHeartbeats 4000000 in
set_option maxRecDepth 100000 in
theorem cX0_init_ct (z : Zx) (ad : Nat → Nat) (v0 n : Nat) (m : Mem) (hv0 : v0 < n) (k0v : KC v0 = 0) (hw : Wf n m) (k0 : KC (n) = 14) (l0 : NC (n) = 16) : CtK z wC yX0_init cX0_init 1 (RmK 3 1 16) ad n [.ref (ad v0)] m (n + 1) (fX0_init v0 n m) ∧ Wf (n + 1) (fX0_init v0 n m) := by
  refine ⟨ct_ofK mi_X0_init rfl rfl (Nat.le_of_ble_eq_true rfl) (fun x X Ix hret => ?_), ?_⟩
  · refine g_lv [(0, .ref (ad v0))] [0] rfl ?_
    refine g_aload_n (pc := 0) X dX0_init_0 rfl 0 rfl ?_
    refine g_objInit (pc := 1) X oi_X0_3 oi_in oi_co (by decide) (by decide) (Nat.le_of_ble_eq_true rfl) dX0_init_1 ?_
    refine g_aload_n (pc := 4) X dX0_init_4 rfl 0 rfl ?_
    refine g_bipush (v := (16 : Int32)) (pc := 5) X dX0_init_5 (by decide) ?_
    refine g_newI (pc := 7) X ac_int k0 (by decide) (show _ = NC n by rw [l0]; decide) (show NC n ≤ 1000 by rw [l0]; decide) hw (by decide) (show 0 + NC n ≤ _ by rw [l0]; decide) dX0_init_7 (fun ad1 hA2 => ?_)
    rw [← hA2 v0 (by omega)]
    have w3 : Wf (n + 1) (clr m n) := wf_clr hw
    refine g_cs (cs2 := 1) (ss2 := 16) rfl (show 0 + NC n = 16 by rw [l0]) ?_
    refine g_putRF (pc := 9) X Ix fl_X0_9 ocX0 (by omega) k0v rfl rfl dX0_init_9 ?_
    have w4 : Wf (n + 1) (uR (clr m n) v0 0 (some n)) := wf_uR w3 (by omega)
    exact hret ad1 _ _ (fun i hi => by rw [hA2 i (by omega)]) dX0_init_12
  · unfold fX0_init
    have w3 : Wf (n + 1) (clr m n) := wf_clr hw
    have w4 : Wf (n + 1) (uR (clr m n) v0 0 (some n)) := wf_uR w3 (by omega)
    exact w4

noncomputable def fX11_init (m : Mem) : Mem := uR (fX10_init 76 77 (clr (uR (fX10_init 61 62 (clr (uR (fX6_init 59 60 (clr (uR (fX6_init 57 58 (clr (uR (fX6_init 55 56 (clr (uR (fX6_init 53 54 (clr (uR (fX6_init 51 52 (clr (uR (fX6_init 49 50 (clr (uR (fX6_init 47 48 (clr (uR (fX6_init 45 46 (clr (uR (fX10_init 30 31 (clr (uR (fX10_init 15 16 (clr (uR (fX0_init 13 14 (clr (uR (fX3_init 7 8 (clr (uR (clr (uR (fX5_init 4 2 5 (clr (uR (fX7_init 2 3 (clr (uR (clr m 1) 0 0 (some 1)) 2)) 0 1 (some 2)) 4)) 0 2 (some 4)) 6) 0 3 (some 6)) 7)) 0 4 (some 7)) 13)) 0 5 (some 13)) 15)) 0 6 (some 15)) 30)) 0 7 (some 30)) 45)) 1 0 (some 45)) 47)) 1 1 (some 47)) 49)) 1 2 (some 49)) 51)) 1 3 (some 51)) 53)) 1 4 (some 53)) 55)) 1 5 (some 55)) 57)) 1 6 (some 57)) 59)) 1 7 (some 59)) 61)) 6 0 (some 61)) 76)) 6 1 (some 76)
set_option maxHeartbeats 4000000 in
set_option maxRecDepth 100000 in
theorem cX11_init_ct (z : Zx) (ad : Nat → Nat) (m : Mem) (hw : Wf 1 m) : CtK z wC yX11_init cX11_init 2 (RmK 9 90 1932) ad 1 [.ref (ad 0)] m (91) (fX11_init m) ∧ Wf (91) (fX11_init m) := by
  refine ⟨ct_ofK mi_X11_init rfl rfl (Nat.le_of_ble_eq_true rfl) (fun x X Ix hret => ?_), ?_⟩
  · refine g_lv [(0, .ref (ad 0))] [0] rfl ?_
    refine g_aload_n (pc := 0) X dX11_init_0 rfl 0 rfl ?_
    refine g_objInit (pc := 1) X oi_X11_3 oi_in oi_co (by decide) (by decide) (Nat.le_of_ble_eq_true rfl) dX11_init_1 ?_
    refine g_aload_n (pc := 4) X dX11_init_4 rfl 0 rfl ?_
    refine g_bipush (v := (8 : Int32)) (pc := 5) X dX11_init_5 (by decide) ?_
    refine g_newRow (pc := 7) X cl_X11_9 rfl (by decide) (by decide) (by decide) hw (by decide) (by decide) dX11_init_7 (fun ad1 hA2 => ?_)
    rw [← hA2 0 (by omega)]
    have w3 : Wf (2) (clr m 1) := wf_clr hw
    refine g_cs (cs2 := 1) (ss2 := 8) rfl rfl ?_
    refine g_putRF (pc := 10) X Ix fl_X11_11 ocX11 (by omega) rfl rfl rfl dX11_init_10 ?_
    have w4 : Wf (2) (uR (clr m 1) 0 0 (some 1)) := wf_uR w3 (by omega)
    refine g_aload_n (pc := 13) X dX11_init_13 rfl 0 rfl ?_
    refine g_new (pc := 14) X clX7 dfX7 cl_X11_15 it_X7 ii_X7 rfl w4 (by decide) (by decide) dX11_init_14 (fun ad5 hA6 => ?_)
    rw [← hA6 0 (by omega)]
    have w7 : Wf (3) (clr (uR (clr m 1) 0 0 (some 1)) 2) := wf_clr w4
    refine g_cs (cs2 := 2) (ss2 := 10) rfl rfl ?_
    refine g_dup (pc := 17) X dX11_init_17 rfl ?_
    have hc8 := (cX7_init_ct z ad5 2 3 (clr (uR (clr m 1) 0 0 (some 1)) 2) (by omega) rfl w7 rfl rfl)
    refine g_callKN (pc := 18) (As := []) (rest := [.ref (ad5 2), .ref (ad5 0)]) (q := 0) X mi_X7_init rfl im_X7_init rfl hc8.1 rfl rfl (Nat.le_of_ble_eq_true rfl) ⟨by decide, by decide, by decide, by decide⟩ dX11_init_18 (fun ad9 hA10 => ?_)
    rw [← hA10 0 (by omega)]
    rw [← hA10 2 (by omega)]
    have w11 : Wf (4) (fX7_init 2 3 (clr (uR (clr m 1) 0 0 (some 1)) 2)) := hc8.2
    refine g_cs (cs2 := 3) (ss2 := 610) rfl rfl ?_
    refine g_putRF (pc := 21) X Ix fl_X11_18 ocX11 (by omega) rfl rfl rfl dX11_init_21 ?_
    have w12 : Wf (4) (uR (fX7_init 2 3 (clr (uR (clr m 1) 0 0 (some 1)) 2)) 0 1 (some 2)) := wf_uR w11 (by omega)
    refine g_aload_n (pc := 24) X dX11_init_24 rfl 0 rfl ?_
    refine g_new (pc := 25) X clX5 dfX5 cl_X11_22 it_X5 ii_X5 rfl w12 (by decide) (by decide) dX11_init_25 (fun ad13 hA14 => ?_)
    rw [← hA14 0 (by omega)]
    have w15 : Wf (5) (clr (uR (fX7_init 2 3 (clr (uR (clr m 1) 0 0 (some 1)) 2)) 0 1 (some 2)) 4) := wf_clr w12
    refine g_cs (cs2 := 4) (ss2 := 613) rfl rfl ?_
    refine g_dup (pc := 28) X dX11_init_28 rfl ?_
    refine g_aload_n (pc := 29) X dX11_init_29 rfl 0 rfl ?_
    refine g_getR (pc := 30) (b := 2) X fl_X11_18 (by omega) rfl (by rfl) dX11_init_30 ?_
    have hc16 := (cX5_init_ct z ad13 4 2 5 (clr (uR (fX7_init 2 3 (clr (uR (clr m 1) 0 0 (some 1)) 2)) 0 1 (some 2)) 4) (by omega) (by omega) rfl rfl w15 rfl)
    refine g_callK (pc := 33) (As := [.ref (ad13 2)]) (rest := [.ref (ad13 4), .ref (ad13 0)]) X mi_X5_init rfl im_X5_init ml_X11_24 hc16.1 rfl rfl (Nat.le_of_ble_eq_true rfl) ⟨by decide, by decide, by decide, by decide⟩ dX11_init_33 (fun ad17 hA18 => ?_)
    rw [← hA18 0 (by omega)]
    rw [← hA18 4 (by omega)]
    have w19 : Wf (6) (fX5_init 4 2 5 (clr (uR (fX7_init 2 3 (clr (uR (clr m 1) 0 0 (some 1)) 2)) 0 1 (some 2)) 4)) := hc16.2
    refine g_cs (cs2 := 5) (ss2 := 618) rfl rfl ?_
    refine g_putRF (pc := 36) X Ix fl_X11_27 ocX11 (by omega) rfl rfl rfl dX11_init_36 ?_
    have w20 : Wf (6) (uR (fX5_init 4 2 5 (clr (uR (fX7_init 2 3 (clr (uR (clr m 1) 0 0 (some 1)) 2)) 0 1 (some 2)) 4)) 0 2 (some 4)) := wf_uR w19 (by omega)
    refine g_aload_n (pc := 39) X dX11_init_39 rfl 0 rfl ?_
    refine g_iconst (v := (2 : Int32)) (pc := 40) X dX11_init_40 (by decide) ?_
    refine g_newWorld (pc := 41) X cl_X11_31 rfl (by decide) (by decide) (by decide) w20 (by decide) (by decide) dX11_init_41 (fun ad21 hA22 => ?_)
    rw [← hA22 0 (by omega)]
    have w23 : Wf (7) (clr (uR (fX5_init 4 2 5 (clr (uR (fX7_init 2 3 (clr (uR (clr m 1) 0 0 (some 1)) 2)) 0 1 (some 2)) 4)) 0 2 (some 4)) 6) := wf_clr w20
    refine g_cs (cs2 := 6) (ss2 := 620) rfl rfl ?_
    refine g_putRF (pc := 44) X Ix fl_X11_33 ocX11 (by omega) rfl rfl rfl dX11_init_44 ?_
    have w24 : Wf (7) (uR (clr (uR (fX5_init 4 2 5 (clr (uR (fX7_init 2 3 (clr (uR (clr m 1) 0 0 (some 1)) 2)) 0 1 (some 2)) 4)) 0 2 (some 4)) 6) 0 3 (some 6)) := wf_uR w23 (by omega)
    refine g_aload_n (pc := 47) X dX11_init_47 rfl 0 rfl ?_
    refine g_new (pc := 48) X clX3 dfX3 cl_X11_37 it_X3 ii_X3 rfl w24 (by decide) (by decide) dX11_init_48 (fun ad25 hA26 => ?_)
    rw [← hA26 0 (by omega)]
    have w27 : Wf (8) (clr (uR (clr (uR (fX5_init 4 2 5 (clr (uR (fX7_init 2 3 (clr (uR (clr m 1) 0 0 (some 1)) 2)) 0 1 (some 2)) 4)) 0 2 (some 4)) 6) 0 3 (some 6)) 7) := wf_clr w24
    refine g_cs (cs2 := 7) (ss2 := 625) rfl rfl ?_
    refine g_dup (pc := 51) X dX11_init_51 rfl ?_
    have hc28 := (cX3_init_ct z ad25 7 8 (clr (uR (clr (uR (fX5_init 4 2 5 (clr (uR (fX7_init 2 3 (clr (uR (clr m 1) 0 0 (some 1)) 2)) 0 1 (some 2)) 4)) 0 2 (some 4)) 6) 0 3 (some 6)) 7) (by omega) rfl w27 rfl rfl rfl rfl rfl rfl rfl rfl rfl rfl)
    refine g_callKN (pc := 52) (As := []) (rest := [.ref (ad25 7), .ref (ad25 0)]) (q := 1) X mi_X3_init rfl im_X3_init rfl hc28.1 rfl rfl (Nat.le_of_ble_eq_true rfl) ⟨by decide, by decide, by decide, by decide⟩ dX11_init_52 (fun ad29 hA30 => ?_)
    rw [← hA30 0 (by omega)]
    rw [← hA30 7 (by omega)]
    have w31 : Wf (13) (fX3_init 7 8 (clr (uR (clr (uR (fX5_init 4 2 5 (clr (uR (fX7_init 2 3 (clr (uR (clr m 1) 0 0 (some 1)) 2)) 0 1 (some 2)) 4)) 0 2 (some 4)) 6) 0 3 (some 6)) 7)) := hc28.2
    refine g_cs (cs2 := 12) (ss2 := 1146) rfl rfl ?_
    refine g_putRF (pc := 55) X Ix fl_X11_40 ocX11 (by omega) rfl rfl rfl dX11_init_55 ?_
    have w32 : Wf (13) (uR (fX3_init 7 8 (clr (uR (clr (uR (fX5_init 4 2 5 (clr (uR (fX7_init 2 3 (clr (uR (clr m 1) 0 0 (some 1)) 2)) 0 1 (some 2)) 4)) 0 2 (some 4)) 6) 0 3 (some 6)) 7)) 0 4 (some 7)) := wf_uR w31 (by omega)
    refine g_aload_n (pc := 58) X dX11_init_58 rfl 0 rfl ?_
    refine g_new (pc := 59) X clX0 dfX0 cl_X11_44 it_X0 ii_X0 rfl w32 (by decide) (by decide) dX11_init_59 (fun ad33 hA34 => ?_)
    rw [← hA34 0 (by omega)]
    have w35 : Wf (14) (clr (uR (fX3_init 7 8 (clr (uR (clr (uR (fX5_init 4 2 5 (clr (uR (fX7_init 2 3 (clr (uR (clr m 1) 0 0 (some 1)) 2)) 0 1 (some 2)) 4)) 0 2 (some 4)) 6) 0 3 (some 6)) 7)) 0 4 (some 7)) 13) := wf_clr w32
    refine g_cs (cs2 := 13) (ss2 := 1152) rfl rfl ?_
    refine g_dup (pc := 62) X dX11_init_62 rfl ?_
    have hc36 := (cX0_init_ct z ad33 13 14 (clr (uR (fX3_init 7 8 (clr (uR (clr (uR (fX5_init 4 2 5 (clr (uR (fX7_init 2 3 (clr (uR (clr m 1) 0 0 (some 1)) 2)) 0 1 (some 2)) 4)) 0 2 (some 4)) 6) 0 3 (some 6)) 7)) 0 4 (some 7)) 13) (by omega) rfl w35 rfl rfl)
    refine g_callKN (pc := 63) (As := []) (rest := [.ref (ad33 13), .ref (ad33 0)]) (q := 2) X mi_X0_init rfl im_X0_init rfl hc36.1 rfl rfl (Nat.le_of_ble_eq_true rfl) ⟨by decide, by decide, by decide, by decide⟩ dX11_init_63 (fun ad37 hA38 => ?_)
    rw [← hA38 0 (by omega)]
    rw [← hA38 13 (by omega)]
    have w39 : Wf (15) (fX0_init 13 14 (clr (uR (fX3_init 7 8 (clr (uR (clr (uR (fX5_init 4 2 5 (clr (uR (fX7_init 2 3 (clr (uR (clr m 1) 0 0 (some 1)) 2)) 0 1 (some 2)) 4)) 0 2 (some 4)) 6) 0 3 (some 6)) 7)) 0 4 (some 7)) 13)) := hc36.2
    refine g_cs (cs2 := 14) (ss2 := 1168) rfl rfl ?_
    refine g_putRF (pc := 66) X Ix fl_X11_47 ocX11 (by omega) rfl rfl rfl dX11_init_66 ?_
    have w40 : Wf (15) (uR (fX0_init 13 14 (clr (uR (fX3_init 7 8 (clr (uR (clr (uR (fX5_init 4 2 5 (clr (uR (fX7_init 2 3 (clr (uR (clr m 1) 0 0 (some 1)) 2)) 0 1 (some 2)) 4)) 0 2 (some 4)) 6) 0 3 (some 6)) 7)) 0 4 (some 7)) 13)) 0 5 (some 13)) := wf_uR w39 (by omega)
    refine g_aload_n (pc := 69) X dX11_init_69 rfl 0 rfl ?_
    refine g_new (pc := 70) X clX10 dfX10 cl_X11_31 it_X10 ii_X10 rfl w40 (by decide) (by decide) dX11_init_70 (fun ad41 hA42 => ?_)
    rw [← hA42 0 (by omega)]
    have w43 : Wf (16) (clr (uR (fX0_init 13 14 (clr (uR (fX3_init 7 8 (clr (uR (clr (uR (fX5_init 4 2 5 (clr (uR (fX7_init 2 3 (clr (uR (clr m 1) 0 0 (some 1)) 2)) 0 1 (some 2)) 4)) 0 2 (some 4)) 6) 0 3 (some 6)) 7)) 0 4 (some 7)) 13)) 0 5 (some 13)) 15) := wf_clr w40
    refine g_cs (cs2 := 15) (ss2 := 1173) rfl rfl ?_
    refine g_dup (pc := 73) X dX11_init_73 rfl ?_
    have hc44 := (cX10_init_ct z ad41 15 16 (clr (uR (fX0_init 13 14 (clr (uR (fX3_init 7 8 (clr (uR (clr (uR (fX5_init 4 2 5 (clr (uR (fX7_init 2 3 (clr (uR (clr m 1) 0 0 (some 1)) 2)) 0 1 (some 2)) 4)) 0 2 (some 4)) 6) 0 3 (some 6)) 7)) 0 4 (some 7)) 13)) 0 5 (some 13)) 15) (by omega) rfl w43 rfl rfl rfl rfl rfl rfl rfl rfl rfl rfl rfl rfl rfl rfl rfl rfl rfl rfl rfl rfl rfl rfl rfl rfl)
    refine g_callKN (pc := 74) (As := []) (rest := [.ref (ad41 15), .ref (ad41 0)]) (q := 3) X mi_X10_init rfl im_X10_init rfl hc44.1 rfl rfl (Nat.le_of_ble_eq_true rfl) ⟨by decide, by decide, by decide, by decide⟩ dX11_init_74 (fun ad45 hA46 => ?_)
    rw [← hA46 0 (by omega)]
    rw [← hA46 15 (by omega)]
    have w47 : Wf (30) (fX10_init 15 16 (clr (uR (fX0_init 13 14 (clr (uR (fX3_init 7 8 (clr (uR (clr (uR (fX5_init 4 2 5 (clr (uR (fX7_init 2 3 (clr (uR (clr m 1) 0 0 (some 1)) 2)) 0 1 (some 2)) 4)) 0 2 (some 4)) 6) 0 3 (some 6)) 7)) 0 4 (some 7)) 13)) 0 5 (some 13)) 15)) := hc44.2
    refine g_cs (cs2 := 29) (ss2 := 1273) rfl rfl ?_
    refine g_putR (pc := 77) X fl_X11_52 (by omega) rfl rfl rfl dX11_init_77 ?_
    have w48 : Wf (30) (uR (fX10_init 15 16 (clr (uR (fX0_init 13 14 (clr (uR (fX3_init 7 8 (clr (uR (clr (uR (fX5_init 4 2 5 (clr (uR (fX7_init 2 3 (clr (uR (clr m 1) 0 0 (some 1)) 2)) 0 1 (some 2)) 4)) 0 2 (some 4)) 6) 0 3 (some 6)) 7)) 0 4 (some 7)) 13)) 0 5 (some 13)) 15)) 0 6 (some 15)) := wf_uR w47 (by omega)
    refine g_aload_n (pc := 80) X dX11_init_80 rfl 0 rfl ?_
    refine g_new (pc := 81) X clX10 dfX10 cl_X11_31 it_X10 ii_X10 rfl w48 (by decide) (by decide) dX11_init_81 (fun ad49 hA50 => ?_)
    rw [← hA50 0 (by omega)]
    have w51 : Wf (31) (clr (uR (fX10_init 15 16 (clr (uR (fX0_init 13 14 (clr (uR (fX3_init 7 8 (clr (uR (clr (uR (fX5_init 4 2 5 (clr (uR (fX7_init 2 3 (clr (uR (clr m 1) 0 0 (some 1)) 2)) 0 1 (some 2)) 4)) 0 2 (some 4)) 6) 0 3 (some 6)) 7)) 0 4 (some 7)) 13)) 0 5 (some 13)) 15)) 0 6 (some 15)) 30) := wf_clr w48
    refine g_cs (cs2 := 30) (ss2 := 1278) rfl rfl ?_
    refine g_dup (pc := 84) X dX11_init_84 rfl ?_
    have hc52 := (cX10_init_ct z ad49 30 31 (clr (uR (fX10_init 15 16 (clr (uR (fX0_init 13 14 (clr (uR (fX3_init 7 8 (clr (uR (clr (uR (fX5_init 4 2 5 (clr (uR (fX7_init 2 3 (clr (uR (clr m 1) 0 0 (some 1)) 2)) 0 1 (some 2)) 4)) 0 2 (some 4)) 6) 0 3 (some 6)) 7)) 0 4 (some 7)) 13)) 0 5 (some 13)) 15)) 0 6 (some 15)) 30) (by omega) rfl w51 rfl rfl rfl rfl rfl rfl rfl rfl rfl rfl rfl rfl rfl rfl rfl rfl rfl rfl rfl rfl rfl rfl rfl rfl)
    refine g_callKN (pc := 85) (As := []) (rest := [.ref (ad49 30), .ref (ad49 0)]) (q := 3) X mi_X10_init rfl im_X10_init rfl hc52.1 rfl rfl (Nat.le_of_ble_eq_true rfl) ⟨by decide, by decide, by decide, by decide⟩ dX11_init_85 (fun ad53 hA54 => ?_)
    rw [← hA54 0 (by omega)]
    rw [← hA54 30 (by omega)]
    have w55 : Wf (45) (fX10_init 30 31 (clr (uR (fX10_init 15 16 (clr (uR (fX0_init 13 14 (clr (uR (fX3_init 7 8 (clr (uR (clr (uR (fX5_init 4 2 5 (clr (uR (fX7_init 2 3 (clr (uR (clr m 1) 0 0 (some 1)) 2)) 0 1 (some 2)) 4)) 0 2 (some 4)) 6) 0 3 (some 6)) 7)) 0 4 (some 7)) 13)) 0 5 (some 13)) 15)) 0 6 (some 15)) 30)) := hc52.2
    refine g_cs (cs2 := 44) (ss2 := 1378) rfl rfl ?_
    refine g_putR (pc := 88) X fl_X11_56 (by omega) rfl rfl rfl dX11_init_88 ?_
    have w56 : Wf (45) (uR (fX10_init 30 31 (clr (uR (fX10_init 15 16 (clr (uR (fX0_init 13 14 (clr (uR (fX3_init 7 8 (clr (uR (clr (uR (fX5_init 4 2 5 (clr (uR (fX7_init 2 3 (clr (uR (clr m 1) 0 0 (some 1)) 2)) 0 1 (some 2)) 4)) 0 2 (some 4)) 6) 0 3 (some 6)) 7)) 0 4 (some 7)) 13)) 0 5 (some 13)) 15)) 0 6 (some 15)) 30)) 0 7 (some 30)) := wf_uR w55 (by omega)
    refine g_iconst (v := (0 : Int32)) (pc := 91) X dX11_init_91 (by decide) ?_
    refine g_istore_n (lv2 := [(0, .ref (ad53 0)), (1, .int (0 : Int32))]) (pc := 92) X dX11_init_92 rfl (by decide) [1, 0] rfl ?_
    refine g_iload_n (pc := 93) X dX11_init_93 rfl 1 rfl ?_
    refine g_bipush (v := (8 : Int32)) (pc := 94) X dX11_init_94 (by decide) ?_
    refine g_icmp_ge (pc := 96) (tgt := 118) X dX11_init_96 (by decide) (fun hc => absurd hc (by decide)) (fun _ => ?_)
    refine g_aload_n (pc := 99) X dX11_init_99 rfl 0 rfl ?_
    refine g_getR (pc := 100) (b := 1) X fl_X11_11 (by omega) rfl (by rfl) dX11_init_100 ?_
    refine g_iload_n (pc := 103) X dX11_init_103 rfl 1 rfl ?_
    refine g_new (pc := 104) X clX6 dfX6 cl_X11_9 it_X6 ii_X6 rfl w56 (by decide) (by decide) dX11_init_104 (fun ad57 hA58 => ?_)
    rw [← hA58 0 (by omega)]
    rw [← hA58 1 (by omega)]
    have w59 : Wf (46) (clr (uR (fX10_init 30 31 (clr (uR (fX10_init 15 16 (clr (uR (fX0_init 13 14 (clr (uR (fX3_init 7 8 (clr (uR (clr (uR (fX5_init 4 2 5 (clr (uR (fX7_init 2 3 (clr (uR (clr m 1) 0 0 (some 1)) 2)) 0 1 (some 2)) 4)) 0 2 (some 4)) 6) 0 3 (some 6)) 7)) 0 4 (some 7)) 13)) 0 5 (some 13)) 15)) 0 6 (some 15)) 30)) 0 7 (some 30)) 45) := wf_clr w56
    refine g_cs (cs2 := 45) (ss2 := 1381) rfl rfl ?_
    refine g_dup (pc := 107) X dX11_init_107 rfl ?_
    have hc60 := (cX6_init_ct z ad57 45 46 (clr (uR (fX10_init 30 31 (clr (uR (fX10_init 15 16 (clr (uR (fX0_init 13 14 (clr (uR (fX3_init 7 8 (clr (uR (clr (uR (fX5_init 4 2 5 (clr (uR (fX7_init 2 3 (clr (uR (clr m 1) 0 0 (some 1)) 2)) 0 1 (some 2)) 4)) 0 2 (some 4)) 6) 0 3 (some 6)) 7)) 0 4 (some 7)) 13)) 0 5 (some 13)) 15)) 0 6 (some 15)) 30)) 0 7 (some 30)) 45) (by omega) rfl w59 rfl rfl)
    refine g_callKN (pc := 108) (As := []) (rest := [.ref (ad57 45), .int (0 : Int32), .ref (ad57 1)]) (q := 8) X mi_X6_init rfl im_X6_init rfl hc60.1 rfl rfl (Nat.le_of_ble_eq_true rfl) ⟨by decide, by decide, by decide, by decide⟩ dX11_init_108 (fun ad61 hA62 => ?_)
    rw [← hA62 0 (by omega)]
    rw [← hA62 1 (by omega)]
    rw [← hA62 45 (by omega)]
    have w63 : Wf (47) (fX6_init 45 46 (clr (uR (fX10_init 30 31 (clr (uR (fX10_init 15 16 (clr (uR (fX0_init 13 14 (clr (uR (fX3_init 7 8 (clr (uR (clr (uR (fX5_init 4 2 5 (clr (uR (fX7_init 2 3 (clr (uR (clr m 1) 0 0 (some 1)) 2)) 0 1 (some 2)) 4)) 0 2 (some 4)) 6) 0 3 (some 6)) 7)) 0 4 (some 7)) 13)) 0 5 (some 13)) 15)) 0 6 (some 15)) 30)) 0 7 (some 30)) 45)) := hc60.2
    refine g_cs (cs2 := 46) (ss2 := 1421) rfl rfl ?_
    refine g_aast (pc := 111) X clX6 (by omega) rfl (Or.inl ⟨rfl, rfl⟩) (by omega) rfl (by decide) dX11_init_111 ?_
    have w64 : Wf (47) (uR (fX6_init 45 46 (clr (uR (fX10_init 30 31 (clr (uR (fX10_init 15 16 (clr (uR (fX0_init 13 14 (clr (uR (fX3_init 7 8 (clr (uR (clr (uR (fX5_init 4 2 5 (clr (uR (fX7_init 2 3 (clr (uR (clr m 1) 0 0 (some 1)) 2)) 0 1 (some 2)) 4)) 0 2 (some 4)) 6) 0 3 (some 6)) 7)) 0 4 (some 7)) 13)) 0 5 (some 13)) 15)) 0 6 (some 15)) 30)) 0 7 (some 30)) 45)) 1 0 (some 45)) := wf_uR w63 (by omega)
    refine g_iinc (v2 := (1 : Int32)) (lv2 := [(0, .ref (ad61 0)), (1, .int (1 : Int32))]) (pc := 112) X dX11_init_112 1 rfl (by decide) (by decide) [1, 0] rfl ?_
    refine g_goto (pc := 115) (tgt := 93) X dX11_init_115 (by decide) ?_
    refine g_iload_n (pc := 93) X dX11_init_93 rfl 1 rfl ?_
    refine g_bipush (v := (8 : Int32)) (pc := 94) X dX11_init_94 (by decide) ?_
    refine g_icmp_ge (pc := 96) (tgt := 118) X dX11_init_96 (by decide) (fun hc => absurd hc (by decide)) (fun _ => ?_)
    refine g_aload_n (pc := 99) X dX11_init_99 rfl 0 rfl ?_
    refine g_getR (pc := 100) (b := 1) X fl_X11_11 (by omega) rfl (by rfl) dX11_init_100 ?_
    refine g_iload_n (pc := 103) X dX11_init_103 rfl 1 rfl ?_
    refine g_new (pc := 104) X clX6 dfX6 cl_X11_9 it_X6 ii_X6 rfl w64 (by decide) (by decide) dX11_init_104 (fun ad65 hA66 => ?_)
    rw [← hA66 0 (by omega)]
    rw [← hA66 1 (by omega)]
    have w67 : Wf (48) (clr (uR (fX6_init 45 46 (clr (uR (fX10_init 30 31 (clr (uR (fX10_init 15 16 (clr (uR (fX0_init 13 14 (clr (uR (fX3_init 7 8 (clr (uR (clr (uR (fX5_init 4 2 5 (clr (uR (fX7_init 2 3 (clr (uR (clr m 1) 0 0 (some 1)) 2)) 0 1 (some 2)) 4)) 0 2 (some 4)) 6) 0 3 (some 6)) 7)) 0 4 (some 7)) 13)) 0 5 (some 13)) 15)) 0 6 (some 15)) 30)) 0 7 (some 30)) 45)) 1 0 (some 45)) 47) := wf_clr w64
    refine g_cs (cs2 := 47) (ss2 := 1424) rfl rfl ?_
    refine g_dup (pc := 107) X dX11_init_107 rfl ?_
    have hc68 := (cX6_init_ct z ad65 47 48 (clr (uR (fX6_init 45 46 (clr (uR (fX10_init 30 31 (clr (uR (fX10_init 15 16 (clr (uR (fX0_init 13 14 (clr (uR (fX3_init 7 8 (clr (uR (clr (uR (fX5_init 4 2 5 (clr (uR (fX7_init 2 3 (clr (uR (clr m 1) 0 0 (some 1)) 2)) 0 1 (some 2)) 4)) 0 2 (some 4)) 6) 0 3 (some 6)) 7)) 0 4 (some 7)) 13)) 0 5 (some 13)) 15)) 0 6 (some 15)) 30)) 0 7 (some 30)) 45)) 1 0 (some 45)) 47) (by omega) rfl w67 rfl rfl)
    refine g_callKN (pc := 108) (As := []) (rest := [.ref (ad65 47), .int (1 : Int32), .ref (ad65 1)]) (q := 8) X mi_X6_init rfl im_X6_init rfl hc68.1 rfl rfl (Nat.le_of_ble_eq_true rfl) ⟨by decide, by decide, by decide, by decide⟩ dX11_init_108 (fun ad69 hA70 => ?_)
    rw [← hA70 0 (by omega)]
    rw [← hA70 1 (by omega)]
    rw [← hA70 47 (by omega)]
    have w71 : Wf (49) (fX6_init 47 48 (clr (uR (fX6_init 45 46 (clr (uR (fX10_init 30 31 (clr (uR (fX10_init 15 16 (clr (uR (fX0_init 13 14 (clr (uR (fX3_init 7 8 (clr (uR (clr (uR (fX5_init 4 2 5 (clr (uR (fX7_init 2 3 (clr (uR (clr m 1) 0 0 (some 1)) 2)) 0 1 (some 2)) 4)) 0 2 (some 4)) 6) 0 3 (some 6)) 7)) 0 4 (some 7)) 13)) 0 5 (some 13)) 15)) 0 6 (some 15)) 30)) 0 7 (some 30)) 45)) 1 0 (some 45)) 47)) := hc68.2
    refine g_cs (cs2 := 48) (ss2 := 1464) rfl rfl ?_
    refine g_aast (pc := 111) X clX6 (by omega) rfl (Or.inl ⟨rfl, rfl⟩) (by omega) rfl (by decide) dX11_init_111 ?_
    have w72 : Wf (49) (uR (fX6_init 47 48 (clr (uR (fX6_init 45 46 (clr (uR (fX10_init 30 31 (clr (uR (fX10_init 15 16 (clr (uR (fX0_init 13 14 (clr (uR (fX3_init 7 8 (clr (uR (clr (uR (fX5_init 4 2 5 (clr (uR (fX7_init 2 3 (clr (uR (clr m 1) 0 0 (some 1)) 2)) 0 1 (some 2)) 4)) 0 2 (some 4)) 6) 0 3 (some 6)) 7)) 0 4 (some 7)) 13)) 0 5 (some 13)) 15)) 0 6 (some 15)) 30)) 0 7 (some 30)) 45)) 1 0 (some 45)) 47)) 1 1 (some 47)) := wf_uR w71 (by omega)
    refine g_iinc (v2 := (2 : Int32)) (lv2 := [(0, .ref (ad69 0)), (1, .int (2 : Int32))]) (pc := 112) X dX11_init_112 1 rfl (by decide) (by decide) [1, 0] rfl ?_
    refine g_goto (pc := 115) (tgt := 93) X dX11_init_115 (by decide) ?_
    refine g_iload_n (pc := 93) X dX11_init_93 rfl 1 rfl ?_
    refine g_bipush (v := (8 : Int32)) (pc := 94) X dX11_init_94 (by decide) ?_
    refine g_icmp_ge (pc := 96) (tgt := 118) X dX11_init_96 (by decide) (fun hc => absurd hc (by decide)) (fun _ => ?_)
    refine g_aload_n (pc := 99) X dX11_init_99 rfl 0 rfl ?_
    refine g_getR (pc := 100) (b := 1) X fl_X11_11 (by omega) rfl (by rfl) dX11_init_100 ?_
    refine g_iload_n (pc := 103) X dX11_init_103 rfl 1 rfl ?_
    refine g_new (pc := 104) X clX6 dfX6 cl_X11_9 it_X6 ii_X6 rfl w72 (by decide) (by decide) dX11_init_104 (fun ad73 hA74 => ?_)
    rw [← hA74 0 (by omega)]
    rw [← hA74 1 (by omega)]
    have w75 : Wf (50) (clr (uR (fX6_init 47 48 (clr (uR (fX6_init 45 46 (clr (uR (fX10_init 30 31 (clr (uR (fX10_init 15 16 (clr (uR (fX0_init 13 14 (clr (uR (fX3_init 7 8 (clr (uR (clr (uR (fX5_init 4 2 5 (clr (uR (fX7_init 2 3 (clr (uR (clr m 1) 0 0 (some 1)) 2)) 0 1 (some 2)) 4)) 0 2 (some 4)) 6) 0 3 (some 6)) 7)) 0 4 (some 7)) 13)) 0 5 (some 13)) 15)) 0 6 (some 15)) 30)) 0 7 (some 30)) 45)) 1 0 (some 45)) 47)) 1 1 (some 47)) 49) := wf_clr w72
    refine g_cs (cs2 := 49) (ss2 := 1467) rfl rfl ?_
    refine g_dup (pc := 107) X dX11_init_107 rfl ?_
    have hc76 := (cX6_init_ct z ad73 49 50 (clr (uR (fX6_init 47 48 (clr (uR (fX6_init 45 46 (clr (uR (fX10_init 30 31 (clr (uR (fX10_init 15 16 (clr (uR (fX0_init 13 14 (clr (uR (fX3_init 7 8 (clr (uR (clr (uR (fX5_init 4 2 5 (clr (uR (fX7_init 2 3 (clr (uR (clr m 1) 0 0 (some 1)) 2)) 0 1 (some 2)) 4)) 0 2 (some 4)) 6) 0 3 (some 6)) 7)) 0 4 (some 7)) 13)) 0 5 (some 13)) 15)) 0 6 (some 15)) 30)) 0 7 (some 30)) 45)) 1 0 (some 45)) 47)) 1 1 (some 47)) 49) (by omega) rfl w75 rfl rfl)
    refine g_callKN (pc := 108) (As := []) (rest := [.ref (ad73 49), .int (2 : Int32), .ref (ad73 1)]) (q := 8) X mi_X6_init rfl im_X6_init rfl hc76.1 rfl rfl (Nat.le_of_ble_eq_true rfl) ⟨by decide, by decide, by decide, by decide⟩ dX11_init_108 (fun ad77 hA78 => ?_)
    rw [← hA78 0 (by omega)]
    rw [← hA78 1 (by omega)]
    rw [← hA78 49 (by omega)]
    have w79 : Wf (51) (fX6_init 49 50 (clr (uR (fX6_init 47 48 (clr (uR (fX6_init 45 46 (clr (uR (fX10_init 30 31 (clr (uR (fX10_init 15 16 (clr (uR (fX0_init 13 14 (clr (uR (fX3_init 7 8 (clr (uR (clr (uR (fX5_init 4 2 5 (clr (uR (fX7_init 2 3 (clr (uR (clr m 1) 0 0 (some 1)) 2)) 0 1 (some 2)) 4)) 0 2 (some 4)) 6) 0 3 (some 6)) 7)) 0 4 (some 7)) 13)) 0 5 (some 13)) 15)) 0 6 (some 15)) 30)) 0 7 (some 30)) 45)) 1 0 (some 45)) 47)) 1 1 (some 47)) 49)) := hc76.2
    refine g_cs (cs2 := 50) (ss2 := 1507) rfl rfl ?_
    refine g_aast (pc := 111) X clX6 (by omega) rfl (Or.inl ⟨rfl, rfl⟩) (by omega) rfl (by decide) dX11_init_111 ?_
    have w80 : Wf (51) (uR (fX6_init 49 50 (clr (uR (fX6_init 47 48 (clr (uR (fX6_init 45 46 (clr (uR (fX10_init 30 31 (clr (uR (fX10_init 15 16 (clr (uR (fX0_init 13 14 (clr (uR (fX3_init 7 8 (clr (uR (clr (uR (fX5_init 4 2 5 (clr (uR (fX7_init 2 3 (clr (uR (clr m 1) 0 0 (some 1)) 2)) 0 1 (some 2)) 4)) 0 2 (some 4)) 6) 0 3 (some 6)) 7)) 0 4 (some 7)) 13)) 0 5 (some 13)) 15)) 0 6 (some 15)) 30)) 0 7 (some 30)) 45)) 1 0 (some 45)) 47)) 1 1 (some 47)) 49)) 1 2 (some 49)) := wf_uR w79 (by omega)
    refine g_iinc (v2 := (3 : Int32)) (lv2 := [(0, .ref (ad77 0)), (1, .int (3 : Int32))]) (pc := 112) X dX11_init_112 1 rfl (by decide) (by decide) [1, 0] rfl ?_
    refine g_goto (pc := 115) (tgt := 93) X dX11_init_115 (by decide) ?_
    refine g_iload_n (pc := 93) X dX11_init_93 rfl 1 rfl ?_
    refine g_bipush (v := (8 : Int32)) (pc := 94) X dX11_init_94 (by decide) ?_
    refine g_icmp_ge (pc := 96) (tgt := 118) X dX11_init_96 (by decide) (fun hc => absurd hc (by decide)) (fun _ => ?_)
    refine g_aload_n (pc := 99) X dX11_init_99 rfl 0 rfl ?_
    refine g_getR (pc := 100) (b := 1) X fl_X11_11 (by omega) rfl (by rfl) dX11_init_100 ?_
    refine g_iload_n (pc := 103) X dX11_init_103 rfl 1 rfl ?_
    refine g_new (pc := 104) X clX6 dfX6 cl_X11_9 it_X6 ii_X6 rfl w80 (by decide) (by decide) dX11_init_104 (fun ad81 hA82 => ?_)
    rw [← hA82 0 (by omega)]
    rw [← hA82 1 (by omega)]
    have w83 : Wf (52) (clr (uR (fX6_init 49 50 (clr (uR (fX6_init 47 48 (clr (uR (fX6_init 45 46 (clr (uR (fX10_init 30 31 (clr (uR (fX10_init 15 16 (clr (uR (fX0_init 13 14 (clr (uR (fX3_init 7 8 (clr (uR (clr (uR (fX5_init 4 2 5 (clr (uR (fX7_init 2 3 (clr (uR (clr m 1) 0 0 (some 1)) 2)) 0 1 (some 2)) 4)) 0 2 (some 4)) 6) 0 3 (some 6)) 7)) 0 4 (some 7)) 13)) 0 5 (some 13)) 15)) 0 6 (some 15)) 30)) 0 7 (some 30)) 45)) 1 0 (some 45)) 47)) 1 1 (some 47)) 49)) 1 2 (some 49)) 51) := wf_clr w80
    refine g_cs (cs2 := 51) (ss2 := 1510) rfl rfl ?_
    refine g_dup (pc := 107) X dX11_init_107 rfl ?_
    have hc84 := (cX6_init_ct z ad81 51 52 (clr (uR (fX6_init 49 50 (clr (uR (fX6_init 47 48 (clr (uR (fX6_init 45 46 (clr (uR (fX10_init 30 31 (clr (uR (fX10_init 15 16 (clr (uR (fX0_init 13 14 (clr (uR (fX3_init 7 8 (clr (uR (clr (uR (fX5_init 4 2 5 (clr (uR (fX7_init 2 3 (clr (uR (clr m 1) 0 0 (some 1)) 2)) 0 1 (some 2)) 4)) 0 2 (some 4)) 6) 0 3 (some 6)) 7)) 0 4 (some 7)) 13)) 0 5 (some 13)) 15)) 0 6 (some 15)) 30)) 0 7 (some 30)) 45)) 1 0 (some 45)) 47)) 1 1 (some 47)) 49)) 1 2 (some 49)) 51) (by omega) rfl w83 rfl rfl)
    refine g_callKN (pc := 108) (As := []) (rest := [.ref (ad81 51), .int (3 : Int32), .ref (ad81 1)]) (q := 8) X mi_X6_init rfl im_X6_init rfl hc84.1 rfl rfl (Nat.le_of_ble_eq_true rfl) ⟨by decide, by decide, by decide, by decide⟩ dX11_init_108 (fun ad85 hA86 => ?_)
    rw [← hA86 0 (by omega)]
    rw [← hA86 1 (by omega)]
    rw [← hA86 51 (by omega)]
    have w87 : Wf (53) (fX6_init 51 52 (clr (uR (fX6_init 49 50 (clr (uR (fX6_init 47 48 (clr (uR (fX6_init 45 46 (clr (uR (fX10_init 30 31 (clr (uR (fX10_init 15 16 (clr (uR (fX0_init 13 14 (clr (uR (fX3_init 7 8 (clr (uR (clr (uR (fX5_init 4 2 5 (clr (uR (fX7_init 2 3 (clr (uR (clr m 1) 0 0 (some 1)) 2)) 0 1 (some 2)) 4)) 0 2 (some 4)) 6) 0 3 (some 6)) 7)) 0 4 (some 7)) 13)) 0 5 (some 13)) 15)) 0 6 (some 15)) 30)) 0 7 (some 30)) 45)) 1 0 (some 45)) 47)) 1 1 (some 47)) 49)) 1 2 (some 49)) 51)) := hc84.2
    refine g_cs (cs2 := 52) (ss2 := 1550) rfl rfl ?_
    refine g_aast (pc := 111) X clX6 (by omega) rfl (Or.inl ⟨rfl, rfl⟩) (by omega) rfl (by decide) dX11_init_111 ?_
    have w88 : Wf (53) (uR (fX6_init 51 52 (clr (uR (fX6_init 49 50 (clr (uR (fX6_init 47 48 (clr (uR (fX6_init 45 46 (clr (uR (fX10_init 30 31 (clr (uR (fX10_init 15 16 (clr (uR (fX0_init 13 14 (clr (uR (fX3_init 7 8 (clr (uR (clr (uR (fX5_init 4 2 5 (clr (uR (fX7_init 2 3 (clr (uR (clr m 1) 0 0 (some 1)) 2)) 0 1 (some 2)) 4)) 0 2 (some 4)) 6) 0 3 (some 6)) 7)) 0 4 (some 7)) 13)) 0 5 (some 13)) 15)) 0 6 (some 15)) 30)) 0 7 (some 30)) 45)) 1 0 (some 45)) 47)) 1 1 (some 47)) 49)) 1 2 (some 49)) 51)) 1 3 (some 51)) := wf_uR w87 (by omega)
    refine g_iinc (v2 := (4 : Int32)) (lv2 := [(0, .ref (ad85 0)), (1, .int (4 : Int32))]) (pc := 112) X dX11_init_112 1 rfl (by decide) (by decide) [1, 0] rfl ?_
    refine g_goto (pc := 115) (tgt := 93) X dX11_init_115 (by decide) ?_
    refine g_iload_n (pc := 93) X dX11_init_93 rfl 1 rfl ?_
    refine g_bipush (v := (8 : Int32)) (pc := 94) X dX11_init_94 (by decide) ?_
    refine g_icmp_ge (pc := 96) (tgt := 118) X dX11_init_96 (by decide) (fun hc => absurd hc (by decide)) (fun _ => ?_)
    refine g_aload_n (pc := 99) X dX11_init_99 rfl 0 rfl ?_
    refine g_getR (pc := 100) (b := 1) X fl_X11_11 (by omega) rfl (by rfl) dX11_init_100 ?_
    refine g_iload_n (pc := 103) X dX11_init_103 rfl 1 rfl ?_
    refine g_new (pc := 104) X clX6 dfX6 cl_X11_9 it_X6 ii_X6 rfl w88 (by decide) (by decide) dX11_init_104 (fun ad89 hA90 => ?_)
    rw [← hA90 0 (by omega)]
    rw [← hA90 1 (by omega)]
    have w91 : Wf (54) (clr (uR (fX6_init 51 52 (clr (uR (fX6_init 49 50 (clr (uR (fX6_init 47 48 (clr (uR (fX6_init 45 46 (clr (uR (fX10_init 30 31 (clr (uR (fX10_init 15 16 (clr (uR (fX0_init 13 14 (clr (uR (fX3_init 7 8 (clr (uR (clr (uR (fX5_init 4 2 5 (clr (uR (fX7_init 2 3 (clr (uR (clr m 1) 0 0 (some 1)) 2)) 0 1 (some 2)) 4)) 0 2 (some 4)) 6) 0 3 (some 6)) 7)) 0 4 (some 7)) 13)) 0 5 (some 13)) 15)) 0 6 (some 15)) 30)) 0 7 (some 30)) 45)) 1 0 (some 45)) 47)) 1 1 (some 47)) 49)) 1 2 (some 49)) 51)) 1 3 (some 51)) 53) := wf_clr w88
    refine g_cs (cs2 := 53) (ss2 := 1553) rfl rfl ?_
    refine g_dup (pc := 107) X dX11_init_107 rfl ?_
    have hc92 := (cX6_init_ct z ad89 53 54 (clr (uR (fX6_init 51 52 (clr (uR (fX6_init 49 50 (clr (uR (fX6_init 47 48 (clr (uR (fX6_init 45 46 (clr (uR (fX10_init 30 31 (clr (uR (fX10_init 15 16 (clr (uR (fX0_init 13 14 (clr (uR (fX3_init 7 8 (clr (uR (clr (uR (fX5_init 4 2 5 (clr (uR (fX7_init 2 3 (clr (uR (clr m 1) 0 0 (some 1)) 2)) 0 1 (some 2)) 4)) 0 2 (some 4)) 6) 0 3 (some 6)) 7)) 0 4 (some 7)) 13)) 0 5 (some 13)) 15)) 0 6 (some 15)) 30)) 0 7 (some 30)) 45)) 1 0 (some 45)) 47)) 1 1 (some 47)) 49)) 1 2 (some 49)) 51)) 1 3 (some 51)) 53) (by omega) rfl w91 rfl rfl)
    refine g_callKN (pc := 108) (As := []) (rest := [.ref (ad89 53), .int (4 : Int32), .ref (ad89 1)]) (q := 8) X mi_X6_init rfl im_X6_init rfl hc92.1 rfl rfl (Nat.le_of_ble_eq_true rfl) ⟨by decide, by decide, by decide, by decide⟩ dX11_init_108 (fun ad93 hA94 => ?_)
    rw [← hA94 0 (by omega)]
    rw [← hA94 1 (by omega)]
    rw [← hA94 53 (by omega)]
    have w95 : Wf (55) (fX6_init 53 54 (clr (uR (fX6_init 51 52 (clr (uR (fX6_init 49 50 (clr (uR (fX6_init 47 48 (clr (uR (fX6_init 45 46 (clr (uR (fX10_init 30 31 (clr (uR (fX10_init 15 16 (clr (uR (fX0_init 13 14 (clr (uR (fX3_init 7 8 (clr (uR (clr (uR (fX5_init 4 2 5 (clr (uR (fX7_init 2 3 (clr (uR (clr m 1) 0 0 (some 1)) 2)) 0 1 (some 2)) 4)) 0 2 (some 4)) 6) 0 3 (some 6)) 7)) 0 4 (some 7)) 13)) 0 5 (some 13)) 15)) 0 6 (some 15)) 30)) 0 7 (some 30)) 45)) 1 0 (some 45)) 47)) 1 1 (some 47)) 49)) 1 2 (some 49)) 51)) 1 3 (some 51)) 53)) := hc92.2
    refine g_cs (cs2 := 54) (ss2 := 1593) rfl rfl ?_
    refine g_aast (pc := 111) X clX6 (by omega) rfl (Or.inl ⟨rfl, rfl⟩) (by omega) rfl (by decide) dX11_init_111 ?_
    have w96 : Wf (55) (uR (fX6_init 53 54 (clr (uR (fX6_init 51 52 (clr (uR (fX6_init 49 50 (clr (uR (fX6_init 47 48 (clr (uR (fX6_init 45 46 (clr (uR (fX10_init 30 31 (clr (uR (fX10_init 15 16 (clr (uR (fX0_init 13 14 (clr (uR (fX3_init 7 8 (clr (uR (clr (uR (fX5_init 4 2 5 (clr (uR (fX7_init 2 3 (clr (uR (clr m 1) 0 0 (some 1)) 2)) 0 1 (some 2)) 4)) 0 2 (some 4)) 6) 0 3 (some 6)) 7)) 0 4 (some 7)) 13)) 0 5 (some 13)) 15)) 0 6 (some 15)) 30)) 0 7 (some 30)) 45)) 1 0 (some 45)) 47)) 1 1 (some 47)) 49)) 1 2 (some 49)) 51)) 1 3 (some 51)) 53)) 1 4 (some 53)) := wf_uR w95 (by omega)
    refine g_iinc (v2 := (5 : Int32)) (lv2 := [(0, .ref (ad93 0)), (1, .int (5 : Int32))]) (pc := 112) X dX11_init_112 1 rfl (by decide) (by decide) [1, 0] rfl ?_
    refine g_goto (pc := 115) (tgt := 93) X dX11_init_115 (by decide) ?_
    refine g_iload_n (pc := 93) X dX11_init_93 rfl 1 rfl ?_
    refine g_bipush (v := (8 : Int32)) (pc := 94) X dX11_init_94 (by decide) ?_
    refine g_icmp_ge (pc := 96) (tgt := 118) X dX11_init_96 (by decide) (fun hc => absurd hc (by decide)) (fun _ => ?_)
    refine g_aload_n (pc := 99) X dX11_init_99 rfl 0 rfl ?_
    refine g_getR (pc := 100) (b := 1) X fl_X11_11 (by omega) rfl (by rfl) dX11_init_100 ?_
    refine g_iload_n (pc := 103) X dX11_init_103 rfl 1 rfl ?_
    refine g_new (pc := 104) X clX6 dfX6 cl_X11_9 it_X6 ii_X6 rfl w96 (by decide) (by decide) dX11_init_104 (fun ad97 hA98 => ?_)
    rw [← hA98 0 (by omega)]
    rw [← hA98 1 (by omega)]
    have w99 : Wf (56) (clr (uR (fX6_init 53 54 (clr (uR (fX6_init 51 52 (clr (uR (fX6_init 49 50 (clr (uR (fX6_init 47 48 (clr (uR (fX6_init 45 46 (clr (uR (fX10_init 30 31 (clr (uR (fX10_init 15 16 (clr (uR (fX0_init 13 14 (clr (uR (fX3_init 7 8 (clr (uR (clr (uR (fX5_init 4 2 5 (clr (uR (fX7_init 2 3 (clr (uR (clr m 1) 0 0 (some 1)) 2)) 0 1 (some 2)) 4)) 0 2 (some 4)) 6) 0 3 (some 6)) 7)) 0 4 (some 7)) 13)) 0 5 (some 13)) 15)) 0 6 (some 15)) 30)) 0 7 (some 30)) 45)) 1 0 (some 45)) 47)) 1 1 (some 47)) 49)) 1 2 (some 49)) 51)) 1 3 (some 51)) 53)) 1 4 (some 53)) 55) := wf_clr w96
    refine g_cs (cs2 := 55) (ss2 := 1596) rfl rfl ?_
    refine g_dup (pc := 107) X dX11_init_107 rfl ?_
    have hc100 := (cX6_init_ct z ad97 55 56 (clr (uR (fX6_init 53 54 (clr (uR (fX6_init 51 52 (clr (uR (fX6_init 49 50 (clr (uR (fX6_init 47 48 (clr (uR (fX6_init 45 46 (clr (uR (fX10_init 30 31 (clr (uR (fX10_init 15 16 (clr (uR (fX0_init 13 14 (clr (uR (fX3_init 7 8 (clr (uR (clr (uR (fX5_init 4 2 5 (clr (uR (fX7_init 2 3 (clr (uR (clr m 1) 0 0 (some 1)) 2)) 0 1 (some 2)) 4)) 0 2 (some 4)) 6) 0 3 (some 6)) 7)) 0 4 (some 7)) 13)) 0 5 (some 13)) 15)) 0 6 (some 15)) 30)) 0 7 (some 30)) 45)) 1 0 (some 45)) 47)) 1 1 (some 47)) 49)) 1 2 (some 49)) 51)) 1 3 (some 51)) 53)) 1 4 (some 53)) 55) (by omega) rfl w99 rfl rfl)
    refine g_callKN (pc := 108) (As := []) (rest := [.ref (ad97 55), .int (5 : Int32), .ref (ad97 1)]) (q := 8) X mi_X6_init rfl im_X6_init rfl hc100.1 rfl rfl (Nat.le_of_ble_eq_true rfl) ⟨by decide, by decide, by decide, by decide⟩ dX11_init_108 (fun ad101 hA102 => ?_)
    rw [← hA102 0 (by omega)]
    rw [← hA102 1 (by omega)]
    rw [← hA102 55 (by omega)]
    have w103 : Wf (57) (fX6_init 55 56 (clr (uR (fX6_init 53 54 (clr (uR (fX6_init 51 52 (clr (uR (fX6_init 49 50 (clr (uR (fX6_init 47 48 (clr (uR (fX6_init 45 46 (clr (uR (fX10_init 30 31 (clr (uR (fX10_init 15 16 (clr (uR (fX0_init 13 14 (clr (uR (fX3_init 7 8 (clr (uR (clr (uR (fX5_init 4 2 5 (clr (uR (fX7_init 2 3 (clr (uR (clr m 1) 0 0 (some 1)) 2)) 0 1 (some 2)) 4)) 0 2 (some 4)) 6) 0 3 (some 6)) 7)) 0 4 (some 7)) 13)) 0 5 (some 13)) 15)) 0 6 (some 15)) 30)) 0 7 (some 30)) 45)) 1 0 (some 45)) 47)) 1 1 (some 47)) 49)) 1 2 (some 49)) 51)) 1 3 (some 51)) 53)) 1 4 (some 53)) 55)) := hc100.2
    refine g_cs (cs2 := 56) (ss2 := 1636) rfl rfl ?_
    refine g_aast (pc := 111) X clX6 (by omega) rfl (Or.inl ⟨rfl, rfl⟩) (by omega) rfl (by decide) dX11_init_111 ?_
    have w104 : Wf (57) (uR (fX6_init 55 56 (clr (uR (fX6_init 53 54 (clr (uR (fX6_init 51 52 (clr (uR (fX6_init 49 50 (clr (uR (fX6_init 47 48 (clr (uR (fX6_init 45 46 (clr (uR (fX10_init 30 31 (clr (uR (fX10_init 15 16 (clr (uR (fX0_init 13 14 (clr (uR (fX3_init 7 8 (clr (uR (clr (uR (fX5_init 4 2 5 (clr (uR (fX7_init 2 3 (clr (uR (clr m 1) 0 0 (some 1)) 2)) 0 1 (some 2)) 4)) 0 2 (some 4)) 6) 0 3 (some 6)) 7)) 0 4 (some 7)) 13)) 0 5 (some 13)) 15)) 0 6 (some 15)) 30)) 0 7 (some 30)) 45)) 1 0 (some 45)) 47)) 1 1 (some 47)) 49)) 1 2 (some 49)) 51)) 1 3 (some 51)) 53)) 1 4 (some 53)) 55)) 1 5 (some 55)) := wf_uR w103 (by omega)
    refine g_iinc (v2 := (6 : Int32)) (lv2 := [(0, .ref (ad101 0)), (1, .int (6 : Int32))]) (pc := 112) X dX11_init_112 1 rfl (by decide) (by decide) [1, 0] rfl ?_
    refine g_goto (pc := 115) (tgt := 93) X dX11_init_115 (by decide) ?_
    refine g_iload_n (pc := 93) X dX11_init_93 rfl 1 rfl ?_
    refine g_bipush (v := (8 : Int32)) (pc := 94) X dX11_init_94 (by decide) ?_
    refine g_icmp_ge (pc := 96) (tgt := 118) X dX11_init_96 (by decide) (fun hc => absurd hc (by decide)) (fun _ => ?_)
    refine g_aload_n (pc := 99) X dX11_init_99 rfl 0 rfl ?_
    refine g_getR (pc := 100) (b := 1) X fl_X11_11 (by omega) rfl (by rfl) dX11_init_100 ?_
    refine g_iload_n (pc := 103) X dX11_init_103 rfl 1 rfl ?_
    refine g_new (pc := 104) X clX6 dfX6 cl_X11_9 it_X6 ii_X6 rfl w104 (by decide) (by decide) dX11_init_104 (fun ad105 hA106 => ?_)
    rw [← hA106 0 (by omega)]
    rw [← hA106 1 (by omega)]
    have w107 : Wf (58) (clr (uR (fX6_init 55 56 (clr (uR (fX6_init 53 54 (clr (uR (fX6_init 51 52 (clr (uR (fX6_init 49 50 (clr (uR (fX6_init 47 48 (clr (uR (fX6_init 45 46 (clr (uR (fX10_init 30 31 (clr (uR (fX10_init 15 16 (clr (uR (fX0_init 13 14 (clr (uR (fX3_init 7 8 (clr (uR (clr (uR (fX5_init 4 2 5 (clr (uR (fX7_init 2 3 (clr (uR (clr m 1) 0 0 (some 1)) 2)) 0 1 (some 2)) 4)) 0 2 (some 4)) 6) 0 3 (some 6)) 7)) 0 4 (some 7)) 13)) 0 5 (some 13)) 15)) 0 6 (some 15)) 30)) 0 7 (some 30)) 45)) 1 0 (some 45)) 47)) 1 1 (some 47)) 49)) 1 2 (some 49)) 51)) 1 3 (some 51)) 53)) 1 4 (some 53)) 55)) 1 5 (some 55)) 57) := wf_clr w104
    refine g_cs (cs2 := 57) (ss2 := 1639) rfl rfl ?_
    refine g_dup (pc := 107) X dX11_init_107 rfl ?_
    have hc108 := (cX6_init_ct z ad105 57 58 (clr (uR (fX6_init 55 56 (clr (uR (fX6_init 53 54 (clr (uR (fX6_init 51 52 (clr (uR (fX6_init 49 50 (clr (uR (fX6_init 47 48 (clr (uR (fX6_init 45 46 (clr (uR (fX10_init 30 31 (clr (uR (fX10_init 15 16 (clr (uR (fX0_init 13 14 (clr (uR (fX3_init 7 8 (clr (uR (clr (uR (fX5_init 4 2 5 (clr (uR (fX7_init 2 3 (clr (uR (clr m 1) 0 0 (some 1)) 2)) 0 1 (some 2)) 4)) 0 2 (some 4)) 6) 0 3 (some 6)) 7)) 0 4 (some 7)) 13)) 0 5 (some 13)) 15)) 0 6 (some 15)) 30)) 0 7 (some 30)) 45)) 1 0 (some 45)) 47)) 1 1 (some 47)) 49)) 1 2 (some 49)) 51)) 1 3 (some 51)) 53)) 1 4 (some 53)) 55)) 1 5 (some 55)) 57) (by omega) rfl w107 rfl rfl)
    refine g_callKN (pc := 108) (As := []) (rest := [.ref (ad105 57), .int (6 : Int32), .ref (ad105 1)]) (q := 8) X mi_X6_init rfl im_X6_init rfl hc108.1 rfl rfl (Nat.le_of_ble_eq_true rfl) ⟨by decide, by decide, by decide, by decide⟩ dX11_init_108 (fun ad109 hA110 => ?_)
    rw [← hA110 0 (by omega)]
    rw [← hA110 1 (by omega)]
    rw [← hA110 57 (by omega)]
    have w111 : Wf (59) (fX6_init 57 58 (clr (uR (fX6_init 55 56 (clr (uR (fX6_init 53 54 (clr (uR (fX6_init 51 52 (clr (uR (fX6_init 49 50 (clr (uR (fX6_init 47 48 (clr (uR (fX6_init 45 46 (clr (uR (fX10_init 30 31 (clr (uR (fX10_init 15 16 (clr (uR (fX0_init 13 14 (clr (uR (fX3_init 7 8 (clr (uR (clr (uR (fX5_init 4 2 5 (clr (uR (fX7_init 2 3 (clr (uR (clr m 1) 0 0 (some 1)) 2)) 0 1 (some 2)) 4)) 0 2 (some 4)) 6) 0 3 (some 6)) 7)) 0 4 (some 7)) 13)) 0 5 (some 13)) 15)) 0 6 (some 15)) 30)) 0 7 (some 30)) 45)) 1 0 (some 45)) 47)) 1 1 (some 47)) 49)) 1 2 (some 49)) 51)) 1 3 (some 51)) 53)) 1 4 (some 53)) 55)) 1 5 (some 55)) 57)) := hc108.2
    refine g_cs (cs2 := 58) (ss2 := 1679) rfl rfl ?_
    refine g_aast (pc := 111) X clX6 (by omega) rfl (Or.inl ⟨rfl, rfl⟩) (by omega) rfl (by decide) dX11_init_111 ?_
    have w112 : Wf (59) (uR (fX6_init 57 58 (clr (uR (fX6_init 55 56 (clr (uR (fX6_init 53 54 (clr (uR (fX6_init 51 52 (clr (uR (fX6_init 49 50 (clr (uR (fX6_init 47 48 (clr (uR (fX6_init 45 46 (clr (uR (fX10_init 30 31 (clr (uR (fX10_init 15 16 (clr (uR (fX0_init 13 14 (clr (uR (fX3_init 7 8 (clr (uR (clr (uR (fX5_init 4 2 5 (clr (uR (fX7_init 2 3 (clr (uR (clr m 1) 0 0 (some 1)) 2)) 0 1 (some 2)) 4)) 0 2 (some 4)) 6) 0 3 (some 6)) 7)) 0 4 (some 7)) 13)) 0 5 (some 13)) 15)) 0 6 (some 15)) 30)) 0 7 (some 30)) 45)) 1 0 (some 45)) 47)) 1 1 (some 47)) 49)) 1 2 (some 49)) 51)) 1 3 (some 51)) 53)) 1 4 (some 53)) 55)) 1 5 (some 55)) 57)) 1 6 (some 57)) := wf_uR w111 (by omega)
    refine g_iinc (v2 := (7 : Int32)) (lv2 := [(0, .ref (ad109 0)), (1, .int (7 : Int32))]) (pc := 112) X dX11_init_112 1 rfl (by decide) (by decide) [1, 0] rfl ?_
    refine g_goto (pc := 115) (tgt := 93) X dX11_init_115 (by decide) ?_
    refine g_iload_n (pc := 93) X dX11_init_93 rfl 1 rfl ?_
    refine g_bipush (v := (8 : Int32)) (pc := 94) X dX11_init_94 (by decide) ?_
    refine g_icmp_ge (pc := 96) (tgt := 118) X dX11_init_96 (by decide) (fun hc => absurd hc (by decide)) (fun _ => ?_)
    refine g_aload_n (pc := 99) X dX11_init_99 rfl 0 rfl ?_
    refine g_getR (pc := 100) (b := 1) X fl_X11_11 (by omega) rfl (by rfl) dX11_init_100 ?_
    refine g_iload_n (pc := 103) X dX11_init_103 rfl 1 rfl ?_
    refine g_new (pc := 104) X clX6 dfX6 cl_X11_9 it_X6 ii_X6 rfl w112 (by decide) (by decide) dX11_init_104 (fun ad113 hA114 => ?_)
    rw [← hA114 0 (by omega)]
    rw [← hA114 1 (by omega)]
    have w115 : Wf (60) (clr (uR (fX6_init 57 58 (clr (uR (fX6_init 55 56 (clr (uR (fX6_init 53 54 (clr (uR (fX6_init 51 52 (clr (uR (fX6_init 49 50 (clr (uR (fX6_init 47 48 (clr (uR (fX6_init 45 46 (clr (uR (fX10_init 30 31 (clr (uR (fX10_init 15 16 (clr (uR (fX0_init 13 14 (clr (uR (fX3_init 7 8 (clr (uR (clr (uR (fX5_init 4 2 5 (clr (uR (fX7_init 2 3 (clr (uR (clr m 1) 0 0 (some 1)) 2)) 0 1 (some 2)) 4)) 0 2 (some 4)) 6) 0 3 (some 6)) 7)) 0 4 (some 7)) 13)) 0 5 (some 13)) 15)) 0 6 (some 15)) 30)) 0 7 (some 30)) 45)) 1 0 (some 45)) 47)) 1 1 (some 47)) 49)) 1 2 (some 49)) 51)) 1 3 (some 51)) 53)) 1 4 (some 53)) 55)) 1 5 (some 55)) 57)) 1 6 (some 57)) 59) := wf_clr w112
    refine g_cs (cs2 := 59) (ss2 := 1682) rfl rfl ?_
    refine g_dup (pc := 107) X dX11_init_107 rfl ?_
    have hc116 := (cX6_init_ct z ad113 59 60 (clr (uR (fX6_init 57 58 (clr (uR (fX6_init 55 56 (clr (uR (fX6_init 53 54 (clr (uR (fX6_init 51 52 (clr (uR (fX6_init 49 50 (clr (uR (fX6_init 47 48 (clr (uR (fX6_init 45 46 (clr (uR (fX10_init 30 31 (clr (uR (fX10_init 15 16 (clr (uR (fX0_init 13 14 (clr (uR (fX3_init 7 8 (clr (uR (clr (uR (fX5_init 4 2 5 (clr (uR (fX7_init 2 3 (clr (uR (clr m 1) 0 0 (some 1)) 2)) 0 1 (some 2)) 4)) 0 2 (some 4)) 6) 0 3 (some 6)) 7)) 0 4 (some 7)) 13)) 0 5 (some 13)) 15)) 0 6 (some 15)) 30)) 0 7 (some 30)) 45)) 1 0 (some 45)) 47)) 1 1 (some 47)) 49)) 1 2 (some 49)) 51)) 1 3 (some 51)) 53)) 1 4 (some 53)) 55)) 1 5 (some 55)) 57)) 1 6 (some 57)) 59) (by omega) rfl w115 rfl rfl)
    refine g_callKN (pc := 108) (As := []) (rest := [.ref (ad113 59), .int (7 : Int32), .ref (ad113 1)]) (q := 8) X mi_X6_init rfl im_X6_init rfl hc116.1 rfl rfl (Nat.le_of_ble_eq_true rfl) ⟨by decide, by decide, by decide, by decide⟩ dX11_init_108 (fun ad117 hA118 => ?_)
    rw [← hA118 0 (by omega)]
    rw [← hA118 1 (by omega)]
    rw [← hA118 59 (by omega)]
    have w119 : Wf (61) (fX6_init 59 60 (clr (uR (fX6_init 57 58 (clr (uR (fX6_init 55 56 (clr (uR (fX6_init 53 54 (clr (uR (fX6_init 51 52 (clr (uR (fX6_init 49 50 (clr (uR (fX6_init 47 48 (clr (uR (fX6_init 45 46 (clr (uR (fX10_init 30 31 (clr (uR (fX10_init 15 16 (clr (uR (fX0_init 13 14 (clr (uR (fX3_init 7 8 (clr (uR (clr (uR (fX5_init 4 2 5 (clr (uR (fX7_init 2 3 (clr (uR (clr m 1) 0 0 (some 1)) 2)) 0 1 (some 2)) 4)) 0 2 (some 4)) 6) 0 3 (some 6)) 7)) 0 4 (some 7)) 13)) 0 5 (some 13)) 15)) 0 6 (some 15)) 30)) 0 7 (some 30)) 45)) 1 0 (some 45)) 47)) 1 1 (some 47)) 49)) 1 2 (some 49)) 51)) 1 3 (some 51)) 53)) 1 4 (some 53)) 55)) 1 5 (some 55)) 57)) 1 6 (some 57)) 59)) := hc116.2
    refine g_cs (cs2 := 60) (ss2 := 1722) rfl rfl ?_
    refine g_aast (pc := 111) X clX6 (by omega) rfl (Or.inl ⟨rfl, rfl⟩) (by omega) rfl (by decide) dX11_init_111 ?_
    have w120 : Wf (61) (uR (fX6_init 59 60 (clr (uR (fX6_init 57 58 (clr (uR (fX6_init 55 56 (clr (uR (fX6_init 53 54 (clr (uR (fX6_init 51 52 (clr (uR (fX6_init 49 50 (clr (uR (fX6_init 47 48 (clr (uR (fX6_init 45 46 (clr (uR (fX10_init 30 31 (clr (uR (fX10_init 15 16 (clr (uR (fX0_init 13 14 (clr (uR (fX3_init 7 8 (clr (uR (clr (uR (fX5_init 4 2 5 (clr (uR (fX7_init 2 3 (clr (uR (clr m 1) 0 0 (some 1)) 2)) 0 1 (some 2)) 4)) 0 2 (some 4)) 6) 0 3 (some 6)) 7)) 0 4 (some 7)) 13)) 0 5 (some 13)) 15)) 0 6 (some 15)) 30)) 0 7 (some 30)) 45)) 1 0 (some 45)) 47)) 1 1 (some 47)) 49)) 1 2 (some 49)) 51)) 1 3 (some 51)) 53)) 1 4 (some 53)) 55)) 1 5 (some 55)) 57)) 1 6 (some 57)) 59)) 1 7 (some 59)) := wf_uR w119 (by omega)
    refine g_iinc (v2 := (8 : Int32)) (lv2 := [(0, .ref (ad117 0)), (1, .int (8 : Int32))]) (pc := 112) X dX11_init_112 1 rfl (by decide) (by decide) [1, 0] rfl ?_
    refine g_goto (pc := 115) (tgt := 93) X dX11_init_115 (by decide) ?_
    refine g_iload_n (pc := 93) X dX11_init_93 rfl 1 rfl ?_
    refine g_bipush (v := (8 : Int32)) (pc := 94) X dX11_init_94 (by decide) ?_
    refine g_icmp_ge (pc := 96) (tgt := 118) X dX11_init_96 (by decide) (fun _ => ?_) (fun hc => absurd (by decide) hc)
    refine g_iconst (v := (0 : Int32)) (pc := 118) X dX11_init_118 (by decide) ?_
    refine g_istore_n (lv2 := [(0, .ref (ad117 0)), (1, .int (0 : Int32))]) (pc := 119) X dX11_init_119 rfl (by decide) [1, 0] rfl ?_
    refine g_iload_n (pc := 120) X dX11_init_120 rfl 1 rfl ?_
    refine g_iconst (v := (2 : Int32)) (pc := 121) X dX11_init_121 (by decide) ?_
    refine g_icmp_ge (pc := 122) (tgt := 144) X dX11_init_122 (by decide) (fun hc => absurd hc (by decide)) (fun _ => ?_)
    refine g_aload_n (pc := 125) X dX11_init_125 rfl 0 rfl ?_
    refine g_getR (pc := 126) (b := 6) X fl_X11_33 (by omega) rfl (by rfl) dX11_init_126 ?_
    refine g_iload_n (pc := 129) X dX11_init_129 rfl 1 rfl ?_
    refine g_new (pc := 130) X clX10 dfX10 cl_X11_31 it_X10 ii_X10 rfl w120 (by decide) (by decide) dX11_init_130 (fun ad121 hA122 => ?_)
    rw [← hA122 0 (by omega)]
    rw [← hA122 6 (by omega)]
    have w123 : Wf (62) (clr (uR (fX6_init 59 60 (clr (uR (fX6_init 57 58 (clr (uR (fX6_init 55 56 (clr (uR (fX6_init 53 54 (clr (uR (fX6_init 51 52 (clr (uR (fX6_init 49 50 (clr (uR (fX6_init 47 48 (clr (uR (fX6_init 45 46 (clr (uR (fX10_init 30 31 (clr (uR (fX10_init 15 16 (clr (uR (fX0_init 13 14 (clr (uR (fX3_init 7 8 (clr (uR (clr (uR (fX5_init 4 2 5 (clr (uR (fX7_init 2 3 (clr (uR (clr m 1) 0 0 (some 1)) 2)) 0 1 (some 2)) 4)) 0 2 (some 4)) 6) 0 3 (some 6)) 7)) 0 4 (some 7)) 13)) 0 5 (some 13)) 15)) 0 6 (some 15)) 30)) 0 7 (some 30)) 45)) 1 0 (some 45)) 47)) 1 1 (some 47)) 49)) 1 2 (some 49)) 51)) 1 3 (some 51)) 53)) 1 4 (some 53)) 55)) 1 5 (some 55)) 57)) 1 6 (some 57)) 59)) 1 7 (some 59)) 61) := wf_clr w120
    refine g_cs (cs2 := 61) (ss2 := 1727) rfl rfl ?_
    refine g_dup (pc := 133) X dX11_init_133 rfl ?_
    have hc124 := (cX10_init_ct z ad121 61 62 (clr (uR (fX6_init 59 60 (clr (uR (fX6_init 57 58 (clr (uR (fX6_init 55 56 (clr (uR (fX6_init 53 54 (clr (uR (fX6_init 51 52 (clr (uR (fX6_init 49 50 (clr (uR (fX6_init 47 48 (clr (uR (fX6_init 45 46 (clr (uR (fX10_init 30 31 (clr (uR (fX10_init 15 16 (clr (uR (fX0_init 13 14 (clr (uR (fX3_init 7 8 (clr (uR (clr (uR (fX5_init 4 2 5 (clr (uR (fX7_init 2 3 (clr (uR (clr m 1) 0 0 (some 1)) 2)) 0 1 (some 2)) 4)) 0 2 (some 4)) 6) 0 3 (some 6)) 7)) 0 4 (some 7)) 13)) 0 5 (some 13)) 15)) 0 6 (some 15)) 30)) 0 7 (some 30)) 45)) 1 0 (some 45)) 47)) 1 1 (some 47)) 49)) 1 2 (some 49)) 51)) 1 3 (some 51)) 53)) 1 4 (some 53)) 55)) 1 5 (some 55)) 57)) 1 6 (some 57)) 59)) 1 7 (some 59)) 61) (by omega) rfl w123 rfl rfl rfl rfl rfl rfl rfl rfl rfl rfl rfl rfl rfl rfl rfl rfl rfl rfl rfl rfl rfl rfl rfl rfl)
    refine g_callKN (pc := 134) (As := []) (rest := [.ref (ad121 61), .int (0 : Int32), .ref (ad121 6)]) (q := 3) X mi_X10_init rfl im_X10_init rfl hc124.1 rfl rfl (Nat.le_of_ble_eq_true rfl) ⟨by decide, by decide, by decide, by decide⟩ dX11_init_134 (fun ad125 hA126 => ?_)
    rw [← hA126 0 (by omega)]
    rw [← hA126 6 (by omega)]
    rw [← hA126 61 (by omega)]
    have w127 : Wf (76) (fX10_init 61 62 (clr (uR (fX6_init 59 60 (clr (uR (fX6_init 57 58 (clr (uR (fX6_init 55 56 (clr (uR (fX6_init 53 54 (clr (uR (fX6_init 51 52 (clr (uR (fX6_init 49 50 (clr (uR (fX6_init 47 48 (clr (uR (fX6_init 45 46 (clr (uR (fX10_init 30 31 (clr (uR (fX10_init 15 16 (clr (uR (fX0_init 13 14 (clr (uR (fX3_init 7 8 (clr (uR (clr (uR (fX5_init 4 2 5 (clr (uR (fX7_init 2 3 (clr (uR (clr m 1) 0 0 (some 1)) 2)) 0 1 (some 2)) 4)) 0 2 (some 4)) 6) 0 3 (some 6)) 7)) 0 4 (some 7)) 13)) 0 5 (some 13)) 15)) 0 6 (some 15)) 30)) 0 7 (some 30)) 45)) 1 0 (some 45)) 47)) 1 1 (some 47)) 49)) 1 2 (some 49)) 51)) 1 3 (some 51)) 53)) 1 4 (some 53)) 55)) 1 5 (some 55)) 57)) 1 6 (some 57)) 59)) 1 7 (some 59)) 61)) := hc124.2
    refine g_cs (cs2 := 75) (ss2 := 1827) rfl rfl ?_
    refine g_aast (pc := 137) X clX10 (by omega) rfl (Or.inr ⟨rfl, rfl⟩) (by omega) rfl (by decide) dX11_init_137 ?_
    have w128 : Wf (76) (uR (fX10_init 61 62 (clr (uR (fX6_init 59 60 (clr (uR (fX6_init 57 58 (clr (uR (fX6_init 55 56 (clr (uR (fX6_init 53 54 (clr (uR (fX6_init 51 52 (clr (uR (fX6_init 49 50 (clr (uR (fX6_init 47 48 (clr (uR (fX6_init 45 46 (clr (uR (fX10_init 30 31 (clr (uR (fX10_init 15 16 (clr (uR (fX0_init 13 14 (clr (uR (fX3_init 7 8 (clr (uR (clr (uR (fX5_init 4 2 5 (clr (uR (fX7_init 2 3 (clr (uR (clr m 1) 0 0 (some 1)) 2)) 0 1 (some 2)) 4)) 0 2 (some 4)) 6) 0 3 (some 6)) 7)) 0 4 (some 7)) 13)) 0 5 (some 13)) 15)) 0 6 (some 15)) 30)) 0 7 (some 30)) 45)) 1 0 (some 45)) 47)) 1 1 (some 47)) 49)) 1 2 (some 49)) 51)) 1 3 (some 51)) 53)) 1 4 (some 53)) 55)) 1 5 (some 55)) 57)) 1 6 (some 57)) 59)) 1 7 (some 59)) 61)) 6 0 (some 61)) := wf_uR w127 (by omega)
    refine g_iinc (v2 := (1 : Int32)) (lv2 := [(0, .ref (ad125 0)), (1, .int (1 : Int32))]) (pc := 138) X dX11_init_138 1 rfl (by decide) (by decide) [1, 0] rfl ?_
    refine g_goto (pc := 141) (tgt := 120) X dX11_init_141 (by decide) ?_
    refine g_iload_n (pc := 120) X dX11_init_120 rfl 1 rfl ?_
    refine g_iconst (v := (2 : Int32)) (pc := 121) X dX11_init_121 (by decide) ?_
    refine g_icmp_ge (pc := 122) (tgt := 144) X dX11_init_122 (by decide) (fun hc => absurd hc (by decide)) (fun _ => ?_)
    refine g_aload_n (pc := 125) X dX11_init_125 rfl 0 rfl ?_
    refine g_getR (pc := 126) (b := 6) X fl_X11_33 (by omega) rfl (by rfl) dX11_init_126 ?_
    refine g_iload_n (pc := 129) X dX11_init_129 rfl 1 rfl ?_
    refine g_new (pc := 130) X clX10 dfX10 cl_X11_31 it_X10 ii_X10 rfl w128 (by decide) (by decide) dX11_init_130 (fun ad129 hA130 => ?_)
    rw [← hA130 0 (by omega)]
    rw [← hA130 6 (by omega)]
    have w131 : Wf (77) (clr (uR (fX10_init 61 62 (clr (uR (fX6_init 59 60 (clr (uR (fX6_init 57 58 (clr (uR (fX6_init 55 56 (clr (uR (fX6_init 53 54 (clr (uR (fX6_init 51 52 (clr (uR (fX6_init 49 50 (clr (uR (fX6_init 47 48 (clr (uR (fX6_init 45 46 (clr (uR (fX10_init 30 31 (clr (uR (fX10_init 15 16 (clr (uR (fX0_init 13 14 (clr (uR (fX3_init 7 8 (clr (uR (clr (uR (fX5_init 4 2 5 (clr (uR (fX7_init 2 3 (clr (uR (clr m 1) 0 0 (some 1)) 2)) 0 1 (some 2)) 4)) 0 2 (some 4)) 6) 0 3 (some 6)) 7)) 0 4 (some 7)) 13)) 0 5 (some 13)) 15)) 0 6 (some 15)) 30)) 0 7 (some 30)) 45)) 1 0 (some 45)) 47)) 1 1 (some 47)) 49)) 1 2 (some 49)) 51)) 1 3 (some 51)) 53)) 1 4 (some 53)) 55)) 1 5 (some 55)) 57)) 1 6 (some 57)) 59)) 1 7 (some 59)) 61)) 6 0 (some 61)) 76) := wf_clr w128
    refine g_cs (cs2 := 76) (ss2 := 1832) rfl rfl ?_
    refine g_dup (pc := 133) X dX11_init_133 rfl ?_
    have hc132 := (cX10_init_ct z ad129 76 77 (clr (uR (fX10_init 61 62 (clr (uR (fX6_init 59 60 (clr (uR (fX6_init 57 58 (clr (uR (fX6_init 55 56 (clr (uR (fX6_init 53 54 (clr (uR (fX6_init 51 52 (clr (uR (fX6_init 49 50 (clr (uR (fX6_init 47 48 (clr (uR (fX6_init 45 46 (clr (uR (fX10_init 30 31 (clr (uR (fX10_init 15 16 (clr (uR (fX0_init 13 14 (clr (uR (fX3_init 7 8 (clr (uR (clr (uR (fX5_init 4 2 5 (clr (uR (fX7_init 2 3 (clr (uR (clr m 1) 0 0 (some 1)) 2)) 0 1 (some 2)) 4)) 0 2 (some 4)) 6) 0 3 (some 6)) 7)) 0 4 (some 7)) 13)) 0 5 (some 13)) 15)) 0 6 (some 15)) 30)) 0 7 (some 30)) 45)) 1 0 (some 45)) 47)) 1 1 (some 47)) 49)) 1 2 (some 49)) 51)) 1 3 (some 51)) 53)) 1 4 (some 53)) 55)) 1 5 (some 55)) 57)) 1 6 (some 57)) 59)) 1 7 (some 59)) 61)) 6 0 (some 61)) 76) (by omega) rfl w131 rfl rfl rfl rfl rfl rfl rfl rfl rfl rfl rfl rfl rfl rfl rfl rfl rfl rfl rfl rfl rfl rfl rfl rfl)
    refine g_callKN (pc := 134) (As := []) (rest := [.ref (ad129 76), .int (1 : Int32), .ref (ad129 6)]) (q := 3) X mi_X10_init rfl im_X10_init rfl hc132.1 rfl rfl (Nat.le_of_ble_eq_true rfl) ⟨by decide, by decide, by decide, by decide⟩ dX11_init_134 (fun ad133 hA134 => ?_)
    rw [← hA134 0 (by omega)]
    rw [← hA134 6 (by omega)]
    rw [← hA134 76 (by omega)]
    have w135 : Wf (91) (fX10_init 76 77 (clr (uR (fX10_init 61 62 (clr (uR (fX6_init 59 60 (clr (uR (fX6_init 57 58 (clr (uR (fX6_init 55 56 (clr (uR (fX6_init 53 54 (clr (uR (fX6_init 51 52 (clr (uR (fX6_init 49 50 (clr (uR (fX6_init 47 48 (clr (uR (fX6_init 45 46 (clr (uR (fX10_init 30 31 (clr (uR (fX10_init 15 16 (clr (uR (fX0_init 13 14 (clr (uR (fX3_init 7 8 (clr (uR (clr (uR (fX5_init 4 2 5 (clr (uR (fX7_init 2 3 (clr (uR (clr m 1) 0 0 (some 1)) 2)) 0 1 (some 2)) 4)) 0 2 (some 4)) 6) 0 3 (some 6)) 7)) 0 4 (some 7)) 13)) 0 5 (some 13)) 15)) 0 6 (some 15)) 30)) 0 7 (some 30)) 45)) 1 0 (some 45)) 47)) 1 1 (some 47)) 49)) 1 2 (some 49)) 51)) 1 3 (some 51)) 53)) 1 4 (some 53)) 55)) 1 5 (some 55)) 57)) 1 6 (some 57)) 59)) 1 7 (some 59)) 61)) 6 0 (some 61)) 76)) := hc132.2
    refine g_cs (cs2 := 90) (ss2 := 1932) rfl rfl ?_
    refine g_aast (pc := 137) X clX10 (by omega) rfl (Or.inr ⟨rfl, rfl⟩) (by omega) rfl (by decide) dX11_init_137 ?_
    have w136 : Wf (91) (uR (fX10_init 76 77 (clr (uR (fX10_init 61 62 (clr (uR (fX6_init 59 60 (clr (uR (fX6_init 57 58 (clr (uR (fX6_init 55 56 (clr (uR (fX6_init 53 54 (clr (uR (fX6_init 51 52 (clr (uR (fX6_init 49 50 (clr (uR (fX6_init 47 48 (clr (uR (fX6_init 45 46 (clr (uR (fX10_init 30 31 (clr (uR (fX10_init 15 16 (clr (uR (fX0_init 13 14 (clr (uR (fX3_init 7 8 (clr (uR (clr (uR (fX5_init 4 2 5 (clr (uR (fX7_init 2 3 (clr (uR (clr m 1) 0 0 (some 1)) 2)) 0 1 (some 2)) 4)) 0 2 (some 4)) 6) 0 3 (some 6)) 7)) 0 4 (some 7)) 13)) 0 5 (some 13)) 15)) 0 6 (some 15)) 30)) 0 7 (some 30)) 45)) 1 0 (some 45)) 47)) 1 1 (some 47)) 49)) 1 2 (some 49)) 51)) 1 3 (some 51)) 53)) 1 4 (some 53)) 55)) 1 5 (some 55)) 57)) 1 6 (some 57)) 59)) 1 7 (some 59)) 61)) 6 0 (some 61)) 76)) 6 1 (some 76)) := wf_uR w135 (by omega)
    refine g_iinc (v2 := (2 : Int32)) (lv2 := [(0, .ref (ad133 0)), (1, .int (2 : Int32))]) (pc := 138) X dX11_init_138 1 rfl (by decide) (by decide) [1, 0] rfl ?_
    refine g_goto (pc := 141) (tgt := 120) X dX11_init_141 (by decide) ?_
    refine g_iload_n (pc := 120) X dX11_init_120 rfl 1 rfl ?_
    refine g_iconst (v := (2 : Int32)) (pc := 121) X dX11_init_121 (by decide) ?_
    refine g_icmp_ge (pc := 122) (tgt := 144) X dX11_init_122 (by decide) (fun _ => ?_) (fun hc => absurd (by decide) hc)
    exact hret ad133 _ _ (fun i hi => by rw [hA134 i (by omega), hA130 i (by omega), hA126 i (by omega), hA122 i (by omega), hA118 i (by omega), hA114 i (by omega), hA110 i (by omega), hA106 i (by omega), hA102 i (by omega), hA98 i (by omega), hA94 i (by omega), hA90 i (by omega), hA86 i (by omega), hA82 i (by omega), hA78 i (by omega), hA74 i (by omega), hA70 i (by omega), hA66 i (by omega), hA62 i (by omega), hA58 i (by omega), hA54 i (by omega), hA50 i (by omega), hA46 i (by omega), hA42 i (by omega), hA38 i (by omega), hA34 i (by omega), hA30 i (by omega), hA26 i (by omega), hA22 i (by omega), hA18 i (by omega), hA14 i (by omega), hA10 i (by omega), hA6 i (by omega), hA2 i (by omega)]) dX11_init_144
  · unfold fX11_init
    have w3 : Wf (2) (clr m 1) := wf_clr hw
    have w4 : Wf (2) (uR (clr m 1) 0 0 (some 1)) := wf_uR w3 (by omega)
    have w7 : Wf (3) (clr (uR (clr m 1) 0 0 (some 1)) 2) := wf_clr w4
    have hc8 := (cX7_init_ct z ad 2 3 (clr (uR (clr m 1) 0 0 (some 1)) 2) (by omega) rfl w7 rfl rfl)
    have w11 : Wf (4) (fX7_init 2 3 (clr (uR (clr m 1) 0 0 (some 1)) 2)) := hc8.2
    have w12 : Wf (4) (uR (fX7_init 2 3 (clr (uR (clr m 1) 0 0 (some 1)) 2)) 0 1 (some 2)) := wf_uR w11 (by omega)
    have w15 : Wf (5) (clr (uR (fX7_init 2 3 (clr (uR (clr m 1) 0 0 (some 1)) 2)) 0 1 (some 2)) 4) := wf_clr w12
    have hc16 := (cX5_init_ct z ad 4 2 5 (clr (uR (fX7_init 2 3 (clr (uR (clr m 1) 0 0 (some 1)) 2)) 0 1 (some 2)) 4) (by omega) (by omega) rfl rfl w15 rfl)
    have w19 : Wf (6) (fX5_init 4 2 5 (clr (uR (fX7_init 2 3 (clr (uR (clr m 1) 0 0 (some 1)) 2)) 0 1 (some 2)) 4)) := hc16.2
    have w20 : Wf (6) (uR (fX5_init 4 2 5 (clr (uR (fX7_init 2 3 (clr (uR (clr m 1) 0 0 (some 1)) 2)) 0 1 (some 2)) 4)) 0 2 (some 4)) := wf_uR w19 (by omega)
    have w23 : Wf (7) (clr (uR (fX5_init 4 2 5 (clr (uR (fX7_init 2 3 (clr (uR (clr m 1) 0 0 (some 1)) 2)) 0 1 (some 2)) 4)) 0 2 (some 4)) 6) := wf_clr w20
    have w24 : Wf (7) (uR (clr (uR (fX5_init 4 2 5 (clr (uR (fX7_init 2 3 (clr (uR (clr m 1) 0 0 (some 1)) 2)) 0 1 (some 2)) 4)) 0 2 (some 4)) 6) 0 3 (some 6)) := wf_uR w23 (by omega)
    have w27 : Wf (8) (clr (uR (clr (uR (fX5_init 4 2 5 (clr (uR (fX7_init 2 3 (clr (uR (clr m 1) 0 0 (some 1)) 2)) 0 1 (some 2)) 4)) 0 2 (some 4)) 6) 0 3 (some 6)) 7) := wf_clr w24
    have hc28 := (cX3_init_ct z ad 7 8 (clr (uR (clr (uR (fX5_init 4 2 5 (clr (uR (fX7_init 2 3 (clr (uR (clr m 1) 0 0 (some 1)) 2)) 0 1 (some 2)) 4)) 0 2 (some 4)) 6) 0 3 (some 6)) 7) (by omega) rfl w27 rfl rfl rfl rfl rfl rfl rfl rfl rfl rfl)
    have w31 : Wf (13) (fX3_init 7 8 (clr (uR (clr (uR (fX5_init 4 2 5 (clr (uR (fX7_init 2 3 (clr (uR (clr m 1) 0 0 (some 1)) 2)) 0 1 (some 2)) 4)) 0 2 (some 4)) 6) 0 3 (some 6)) 7)) := hc28.2
    have w32 : Wf (13) (uR (fX3_init 7 8 (clr (uR (clr (uR (fX5_init 4 2 5 (clr (uR (fX7_init 2 3 (clr (uR (clr m 1) 0 0 (some 1)) 2)) 0 1 (some 2)) 4)) 0 2 (some 4)) 6) 0 3 (some 6)) 7)) 0 4 (some 7)) := wf_uR w31 (by omega)
    have w35 : Wf (14) (clr (uR (fX3_init 7 8 (clr (uR (clr (uR (fX5_init 4 2 5 (clr (uR (fX7_init 2 3 (clr (uR (clr m 1) 0 0 (some 1)) 2)) 0 1 (some 2)) 4)) 0 2 (some 4)) 6) 0 3 (some 6)) 7)) 0 4 (some 7)) 13) := wf_clr w32
    have hc36 := (cX0_init_ct z ad 13 14 (clr (uR (fX3_init 7 8 (clr (uR (clr (uR (fX5_init 4 2 5 (clr (uR (fX7_init 2 3 (clr (uR (clr m 1) 0 0 (some 1)) 2)) 0 1 (some 2)) 4)) 0 2 (some 4)) 6) 0 3 (some 6)) 7)) 0 4 (some 7)) 13) (by omega) rfl w35 rfl rfl)
    have w39 : Wf (15) (fX0_init 13 14 (clr (uR (fX3_init 7 8 (clr (uR (clr (uR (fX5_init 4 2 5 (clr (uR (fX7_init 2 3 (clr (uR (clr m 1) 0 0 (some 1)) 2)) 0 1 (some 2)) 4)) 0 2 (some 4)) 6) 0 3 (some 6)) 7)) 0 4 (some 7)) 13)) := hc36.2
    have w40 : Wf (15) (uR (fX0_init 13 14 (clr (uR (fX3_init 7 8 (clr (uR (clr (uR (fX5_init 4 2 5 (clr (uR (fX7_init 2 3 (clr (uR (clr m 1) 0 0 (some 1)) 2)) 0 1 (some 2)) 4)) 0 2 (some 4)) 6) 0 3 (some 6)) 7)) 0 4 (some 7)) 13)) 0 5 (some 13)) := wf_uR w39 (by omega)
    have w43 : Wf (16) (clr (uR (fX0_init 13 14 (clr (uR (fX3_init 7 8 (clr (uR (clr (uR (fX5_init 4 2 5 (clr (uR (fX7_init 2 3 (clr (uR (clr m 1) 0 0 (some 1)) 2)) 0 1 (some 2)) 4)) 0 2 (some 4)) 6) 0 3 (some 6)) 7)) 0 4 (some 7)) 13)) 0 5 (some 13)) 15) := wf_clr w40
    have hc44 := (cX10_init_ct z ad 15 16 (clr (uR (fX0_init 13 14 (clr (uR (fX3_init 7 8 (clr (uR (clr (uR (fX5_init 4 2 5 (clr (uR (fX7_init 2 3 (clr (uR (clr m 1) 0 0 (some 1)) 2)) 0 1 (some 2)) 4)) 0 2 (some 4)) 6) 0 3 (some 6)) 7)) 0 4 (some 7)) 13)) 0 5 (some 13)) 15) (by omega) rfl w43 rfl rfl rfl rfl rfl rfl rfl rfl rfl rfl rfl rfl rfl rfl rfl rfl rfl rfl rfl rfl rfl rfl rfl rfl)
    have w47 : Wf (30) (fX10_init 15 16 (clr (uR (fX0_init 13 14 (clr (uR (fX3_init 7 8 (clr (uR (clr (uR (fX5_init 4 2 5 (clr (uR (fX7_init 2 3 (clr (uR (clr m 1) 0 0 (some 1)) 2)) 0 1 (some 2)) 4)) 0 2 (some 4)) 6) 0 3 (some 6)) 7)) 0 4 (some 7)) 13)) 0 5 (some 13)) 15)) := hc44.2
    have w48 : Wf (30) (uR (fX10_init 15 16 (clr (uR (fX0_init 13 14 (clr (uR (fX3_init 7 8 (clr (uR (clr (uR (fX5_init 4 2 5 (clr (uR (fX7_init 2 3 (clr (uR (clr m 1) 0 0 (some 1)) 2)) 0 1 (some 2)) 4)) 0 2 (some 4)) 6) 0 3 (some 6)) 7)) 0 4 (some 7)) 13)) 0 5 (some 13)) 15)) 0 6 (some 15)) := wf_uR w47 (by omega)
    have w51 : Wf (31) (clr (uR (fX10_init 15 16 (clr (uR (fX0_init 13 14 (clr (uR (fX3_init 7 8 (clr (uR (clr (uR (fX5_init 4 2 5 (clr (uR (fX7_init 2 3 (clr (uR (clr m 1) 0 0 (some 1)) 2)) 0 1 (some 2)) 4)) 0 2 (some 4)) 6) 0 3 (some 6)) 7)) 0 4 (some 7)) 13)) 0 5 (some 13)) 15)) 0 6 (some 15)) 30) := wf_clr w48
    have hc52 := (cX10_init_ct z ad 30 31 (clr (uR (fX10_init 15 16 (clr (uR (fX0_init 13 14 (clr (uR (fX3_init 7 8 (clr (uR (clr (uR (fX5_init 4 2 5 (clr (uR (fX7_init 2 3 (clr (uR (clr m 1) 0 0 (some 1)) 2)) 0 1 (some 2)) 4)) 0 2 (some 4)) 6) 0 3 (some 6)) 7)) 0 4 (some 7)) 13)) 0 5 (some 13)) 15)) 0 6 (some 15)) 30) (by omega) rfl w51 rfl rfl rfl rfl rfl rfl rfl rfl rfl rfl rfl rfl rfl rfl rfl rfl rfl rfl rfl rfl rfl rfl rfl rfl)
    have w55 : Wf (45) (fX10_init 30 31 (clr (uR (fX10_init 15 16 (clr (uR (fX0_init 13 14 (clr (uR (fX3_init 7 8 (clr (uR (clr (uR (fX5_init 4 2 5 (clr (uR (fX7_init 2 3 (clr (uR (clr m 1) 0 0 (some 1)) 2)) 0 1 (some 2)) 4)) 0 2 (some 4)) 6) 0 3 (some 6)) 7)) 0 4 (some 7)) 13)) 0 5 (some 13)) 15)) 0 6 (some 15)) 30)) := hc52.2
    have w56 : Wf (45) (uR (fX10_init 30 31 (clr (uR (fX10_init 15 16 (clr (uR (fX0_init 13 14 (clr (uR (fX3_init 7 8 (clr (uR (clr (uR (fX5_init 4 2 5 (clr (uR (fX7_init 2 3 (clr (uR (clr m 1) 0 0 (some 1)) 2)) 0 1 (some 2)) 4)) 0 2 (some 4)) 6) 0 3 (some 6)) 7)) 0 4 (some 7)) 13)) 0 5 (some 13)) 15)) 0 6 (some 15)) 30)) 0 7 (some 30)) := wf_uR w55 (by omega)
    have w59 : Wf (46) (clr (uR (fX10_init 30 31 (clr (uR (fX10_init 15 16 (clr (uR (fX0_init 13 14 (clr (uR (fX3_init 7 8 (clr (uR (clr (uR (fX5_init 4 2 5 (clr (uR (fX7_init 2 3 (clr (uR (clr m 1) 0 0 (some 1)) 2)) 0 1 (some 2)) 4)) 0 2 (some 4)) 6) 0 3 (some 6)) 7)) 0 4 (some 7)) 13)) 0 5 (some 13)) 15)) 0 6 (some 15)) 30)) 0 7 (some 30)) 45) := wf_clr w56
    have hc60 := (cX6_init_ct z ad 45 46 (clr (uR (fX10_init 30 31 (clr (uR (fX10_init 15 16 (clr (uR (fX0_init 13 14 (clr (uR (fX3_init 7 8 (clr (uR (clr (uR (fX5_init 4 2 5 (clr (uR (fX7_init 2 3 (clr (uR (clr m 1) 0 0 (some 1)) 2)) 0 1 (some 2)) 4)) 0 2 (some 4)) 6) 0 3 (some 6)) 7)) 0 4 (some 7)) 13)) 0 5 (some 13)) 15)) 0 6 (some 15)) 30)) 0 7 (some 30)) 45) (by omega) rfl w59 rfl rfl)
    have w63 : Wf (47) (fX6_init 45 46 (clr (uR (fX10_init 30 31 (clr (uR (fX10_init 15 16 (clr (uR (fX0_init 13 14 (clr (uR (fX3_init 7 8 (clr (uR (clr (uR (fX5_init 4 2 5 (clr (uR (fX7_init 2 3 (clr (uR (clr m 1) 0 0 (some 1)) 2)) 0 1 (some 2)) 4)) 0 2 (some 4)) 6) 0 3 (some 6)) 7)) 0 4 (some 7)) 13)) 0 5 (some 13)) 15)) 0 6 (some 15)) 30)) 0 7 (some 30)) 45)) := hc60.2
    have w64 : Wf (47) (uR (fX6_init 45 46 (clr (uR (fX10_init 30 31 (clr (uR (fX10_init 15 16 (clr (uR (fX0_init 13 14 (clr (uR (fX3_init 7 8 (clr (uR (clr (uR (fX5_init 4 2 5 (clr (uR (fX7_init 2 3 (clr (uR (clr m 1) 0 0 (some 1)) 2)) 0 1 (some 2)) 4)) 0 2 (some 4)) 6) 0 3 (some 6)) 7)) 0 4 (some 7)) 13)) 0 5 (some 13)) 15)) 0 6 (some 15)) 30)) 0 7 (some 30)) 45)) 1 0 (some 45)) := wf_uR w63 (by omega)
    have w67 : Wf (48) (clr (uR (fX6_init 45 46 (clr (uR (fX10_init 30 31 (clr (uR (fX10_init 15 16 (clr (uR (fX0_init 13 14 (clr (uR (fX3_init 7 8 (clr (uR (clr (uR (fX5_init 4 2 5 (clr (uR (fX7_init 2 3 (clr (uR (clr m 1) 0 0 (some 1)) 2)) 0 1 (some 2)) 4)) 0 2 (some 4)) 6) 0 3 (some 6)) 7)) 0 4 (some 7)) 13)) 0 5 (some 13)) 15)) 0 6 (some 15)) 30)) 0 7 (some 30)) 45)) 1 0 (some 45)) 47) := wf_clr w64
    have hc68 := (cX6_init_ct z ad 47 48 (clr (uR (fX6_init 45 46 (clr (uR (fX10_init 30 31 (clr (uR (fX10_init 15 16 (clr (uR (fX0_init 13 14 (clr (uR (fX3_init 7 8 (clr (uR (clr (uR (fX5_init 4 2 5 (clr (uR (fX7_init 2 3 (clr (uR (clr m 1) 0 0 (some 1)) 2)) 0 1 (some 2)) 4)) 0 2 (some 4)) 6) 0 3 (some 6)) 7)) 0 4 (some 7)) 13)) 0 5 (some 13)) 15)) 0 6 (some 15)) 30)) 0 7 (some 30)) 45)) 1 0 (some 45)) 47) (by omega) rfl w67 rfl rfl)
    have w71 : Wf (49) (fX6_init 47 48 (clr (uR (fX6_init 45 46 (clr (uR (fX10_init 30 31 (clr (uR (fX10_init 15 16 (clr (uR (fX0_init 13 14 (clr (uR (fX3_init 7 8 (clr (uR (clr (uR (fX5_init 4 2 5 (clr (uR (fX7_init 2 3 (clr (uR (clr m 1) 0 0 (some 1)) 2)) 0 1 (some 2)) 4)) 0 2 (some 4)) 6) 0 3 (some 6)) 7)) 0 4 (some 7)) 13)) 0 5 (some 13)) 15)) 0 6 (some 15)) 30)) 0 7 (some 30)) 45)) 1 0 (some 45)) 47)) := hc68.2
    have w72 : Wf (49) (uR (fX6_init 47 48 (clr (uR (fX6_init 45 46 (clr (uR (fX10_init 30 31 (clr (uR (fX10_init 15 16 (clr (uR (fX0_init 13 14 (clr (uR (fX3_init 7 8 (clr (uR (clr (uR (fX5_init 4 2 5 (clr (uR (fX7_init 2 3 (clr (uR (clr m 1) 0 0 (some 1)) 2)) 0 1 (some 2)) 4)) 0 2 (some 4)) 6) 0 3 (some 6)) 7)) 0 4 (some 7)) 13)) 0 5 (some 13)) 15)) 0 6 (some 15)) 30)) 0 7 (some 30)) 45)) 1 0 (some 45)) 47)) 1 1 (some 47)) := wf_uR w71 (by omega)
    have w75 : Wf (50) (clr (uR (fX6_init 47 48 (clr (uR (fX6_init 45 46 (clr (uR (fX10_init 30 31 (clr (uR (fX10_init 15 16 (clr (uR (fX0_init 13 14 (clr (uR (fX3_init 7 8 (clr (uR (clr (uR (fX5_init 4 2 5 (clr (uR (fX7_init 2 3 (clr (uR (clr m 1) 0 0 (some 1)) 2)) 0 1 (some 2)) 4)) 0 2 (some 4)) 6) 0 3 (some 6)) 7)) 0 4 (some 7)) 13)) 0 5 (some 13)) 15)) 0 6 (some 15)) 30)) 0 7 (some 30)) 45)) 1 0 (some 45)) 47)) 1 1 (some 47)) 49) := wf_clr w72
    have hc76 := (cX6_init_ct z ad 49 50 (clr (uR (fX6_init 47 48 (clr (uR (fX6_init 45 46 (clr (uR (fX10_init 30 31 (clr (uR (fX10_init 15 16 (clr (uR (fX0_init 13 14 (clr (uR (fX3_init 7 8 (clr (uR (clr (uR (fX5_init 4 2 5 (clr (uR (fX7_init 2 3 (clr (uR (clr m 1) 0 0 (some 1)) 2)) 0 1 (some 2)) 4)) 0 2 (some 4)) 6) 0 3 (some 6)) 7)) 0 4 (some 7)) 13)) 0 5 (some 13)) 15)) 0 6 (some 15)) 30)) 0 7 (some 30)) 45)) 1 0 (some 45)) 47)) 1 1 (some 47)) 49) (by omega) rfl w75 rfl rfl)
    have w79 : Wf (51) (fX6_init 49 50 (clr (uR (fX6_init 47 48 (clr (uR (fX6_init 45 46 (clr (uR (fX10_init 30 31 (clr (uR (fX10_init 15 16 (clr (uR (fX0_init 13 14 (clr (uR (fX3_init 7 8 (clr (uR (clr (uR (fX5_init 4 2 5 (clr (uR (fX7_init 2 3 (clr (uR (clr m 1) 0 0 (some 1)) 2)) 0 1 (some 2)) 4)) 0 2 (some 4)) 6) 0 3 (some 6)) 7)) 0 4 (some 7)) 13)) 0 5 (some 13)) 15)) 0 6 (some 15)) 30)) 0 7 (some 30)) 45)) 1 0 (some 45)) 47)) 1 1 (some 47)) 49)) := hc76.2
    have w80 : Wf (51) (uR (fX6_init 49 50 (clr (uR (fX6_init 47 48 (clr (uR (fX6_init 45 46 (clr (uR (fX10_init 30 31 (clr (uR (fX10_init 15 16 (clr (uR (fX0_init 13 14 (clr (uR (fX3_init 7 8 (clr (uR (clr (uR (fX5_init 4 2 5 (clr (uR (fX7_init 2 3 (clr (uR (clr m 1) 0 0 (some 1)) 2)) 0 1 (some 2)) 4)) 0 2 (some 4)) 6) 0 3 (some 6)) 7)) 0 4 (some 7)) 13)) 0 5 (some 13)) 15)) 0 6 (some 15)) 30)) 0 7 (some 30)) 45)) 1 0 (some 45)) 47)) 1 1 (some 47)) 49)) 1 2 (some 49)) := wf_uR w79 (by omega)
    have w83 : Wf (52) (clr (uR (fX6_init 49 50 (clr (uR (fX6_init 47 48 (clr (uR (fX6_init 45 46 (clr (uR (fX10_init 30 31 (clr (uR (fX10_init 15 16 (clr (uR (fX0_init 13 14 (clr (uR (fX3_init 7 8 (clr (uR (clr (uR (fX5_init 4 2 5 (clr (uR (fX7_init 2 3 (clr (uR (clr m 1) 0 0 (some 1)) 2)) 0 1 (some 2)) 4)) 0 2 (some 4)) 6) 0 3 (some 6)) 7)) 0 4 (some 7)) 13)) 0 5 (some 13)) 15)) 0 6 (some 15)) 30)) 0 7 (some 30)) 45)) 1 0 (some 45)) 47)) 1 1 (some 47)) 49)) 1 2 (some 49)) 51) := wf_clr w80
    have hc84 := (cX6_init_ct z ad 51 52 (clr (uR (fX6_init 49 50 (clr (uR (fX6_init 47 48 (clr (uR (fX6_init 45 46 (clr (uR (fX10_init 30 31 (clr (uR (fX10_init 15 16 (clr (uR (fX0_init 13 14 (clr (uR (fX3_init 7 8 (clr (uR (clr (uR (fX5_init 4 2 5 (clr (uR (fX7_init 2 3 (clr (uR (clr m 1) 0 0 (some 1)) 2)) 0 1 (some 2)) 4)) 0 2 (some 4)) 6) 0 3 (some 6)) 7)) 0 4 (some 7)) 13)) 0 5 (some 13)) 15)) 0 6 (some 15)) 30)) 0 7 (some 30)) 45)) 1 0 (some 45)) 47)) 1 1 (some 47)) 49)) 1 2 (some 49)) 51) (by omega) rfl w83 rfl rfl)
    have w87 : Wf (53) (fX6_init 51 52 (clr (uR (fX6_init 49 50 (clr (uR (fX6_init 47 48 (clr (uR (fX6_init 45 46 (clr (uR (fX10_init 30 31 (clr (uR (fX10_init 15 16 (clr (uR (fX0_init 13 14 (clr (uR (fX3_init 7 8 (clr (uR (clr (uR (fX5_init 4 2 5 (clr (uR (fX7_init 2 3 (clr (uR (clr m 1) 0 0 (some 1)) 2)) 0 1 (some 2)) 4)) 0 2 (some 4)) 6) 0 3 (some 6)) 7)) 0 4 (some 7)) 13)) 0 5 (some 13)) 15)) 0 6 (some 15)) 30)) 0 7 (some 30)) 45)) 1 0 (some 45)) 47)) 1 1 (some 47)) 49)) 1 2 (some 49)) 51)) := hc84.2
    have w88 : Wf (53) (uR (fX6_init 51 52 (clr (uR (fX6_init 49 50 (clr (uR (fX6_init 47 48 (clr (uR (fX6_init 45 46 (clr (uR (fX10_init 30 31 (clr (uR (fX10_init 15 16 (clr (uR (fX0_init 13 14 (clr (uR (fX3_init 7 8 (clr (uR (clr (uR (fX5_init 4 2 5 (clr (uR (fX7_init 2 3 (clr (uR (clr m 1) 0 0 (some 1)) 2)) 0 1 (some 2)) 4)) 0 2 (some 4)) 6) 0 3 (some 6)) 7)) 0 4 (some 7)) 13)) 0 5 (some 13)) 15)) 0 6 (some 15)) 30)) 0 7 (some 30)) 45)) 1 0 (some 45)) 47)) 1 1 (some 47)) 49)) 1 2 (some 49)) 51)) 1 3 (some 51)) := wf_uR w87 (by omega)
    have w91 : Wf (54) (clr (uR (fX6_init 51 52 (clr (uR (fX6_init 49 50 (clr (uR (fX6_init 47 48 (clr (uR (fX6_init 45 46 (clr (uR (fX10_init 30 31 (clr (uR (fX10_init 15 16 (clr (uR (fX0_init 13 14 (clr (uR (fX3_init 7 8 (clr (uR (clr (uR (fX5_init 4 2 5 (clr (uR (fX7_init 2 3 (clr (uR (clr m 1) 0 0 (some 1)) 2)) 0 1 (some 2)) 4)) 0 2 (some 4)) 6) 0 3 (some 6)) 7)) 0 4 (some 7)) 13)) 0 5 (some 13)) 15)) 0 6 (some 15)) 30)) 0 7 (some 30)) 45)) 1 0 (some 45)) 47)) 1 1 (some 47)) 49)) 1 2 (some 49)) 51)) 1 3 (some 51)) 53) := wf_clr w88
    have hc92 := (cX6_init_ct z ad 53 54 (clr (uR (fX6_init 51 52 (clr (uR (fX6_init 49 50 (clr (uR (fX6_init 47 48 (clr (uR (fX6_init 45 46 (clr (uR (fX10_init 30 31 (clr (uR (fX10_init 15 16 (clr (uR (fX0_init 13 14 (clr (uR (fX3_init 7 8 (clr (uR (clr (uR (fX5_init 4 2 5 (clr (uR (fX7_init 2 3 (clr (uR (clr m 1) 0 0 (some 1)) 2)) 0 1 (some 2)) 4)) 0 2 (some 4)) 6) 0 3 (some 6)) 7)) 0 4 (some 7)) 13)) 0 5 (some 13)) 15)) 0 6 (some 15)) 30)) 0 7 (some 30)) 45)) 1 0 (some 45)) 47)) 1 1 (some 47)) 49)) 1 2 (some 49)) 51)) 1 3 (some 51)) 53) (by omega) rfl w91 rfl rfl)
    have w95 : Wf (55) (fX6_init 53 54 (clr (uR (fX6_init 51 52 (clr (uR (fX6_init 49 50 (clr (uR (fX6_init 47 48 (clr (uR (fX6_init 45 46 (clr (uR (fX10_init 30 31 (clr (uR (fX10_init 15 16 (clr (uR (fX0_init 13 14 (clr (uR (fX3_init 7 8 (clr (uR (clr (uR (fX5_init 4 2 5 (clr (uR (fX7_init 2 3 (clr (uR (clr m 1) 0 0 (some 1)) 2)) 0 1 (some 2)) 4)) 0 2 (some 4)) 6) 0 3 (some 6)) 7)) 0 4 (some 7)) 13)) 0 5 (some 13)) 15)) 0 6 (some 15)) 30)) 0 7 (some 30)) 45)) 1 0 (some 45)) 47)) 1 1 (some 47)) 49)) 1 2 (some 49)) 51)) 1 3 (some 51)) 53)) := hc92.2
    have w96 : Wf (55) (uR (fX6_init 53 54 (clr (uR (fX6_init 51 52 (clr (uR (fX6_init 49 50 (clr (uR (fX6_init 47 48 (clr (uR (fX6_init 45 46 (clr (uR (fX10_init 30 31 (clr (uR (fX10_init 15 16 (clr (uR (fX0_init 13 14 (clr (uR (fX3_init 7 8 (clr (uR (clr (uR (fX5_init 4 2 5 (clr (uR (fX7_init 2 3 (clr (uR (clr m 1) 0 0 (some 1)) 2)) 0 1 (some 2)) 4)) 0 2 (some 4)) 6) 0 3 (some 6)) 7)) 0 4 (some 7)) 13)) 0 5 (some 13)) 15)) 0 6 (some 15)) 30)) 0 7 (some 30)) 45)) 1 0 (some 45)) 47)) 1 1 (some 47)) 49)) 1 2 (some 49)) 51)) 1 3 (some 51)) 53)) 1 4 (some 53)) := wf_uR w95 (by omega)
    have w99 : Wf (56) (clr (uR (fX6_init 53 54 (clr (uR (fX6_init 51 52 (clr (uR (fX6_init 49 50 (clr (uR (fX6_init 47 48 (clr (uR (fX6_init 45 46 (clr (uR (fX10_init 30 31 (clr (uR (fX10_init 15 16 (clr (uR (fX0_init 13 14 (clr (uR (fX3_init 7 8 (clr (uR (clr (uR (fX5_init 4 2 5 (clr (uR (fX7_init 2 3 (clr (uR (clr m 1) 0 0 (some 1)) 2)) 0 1 (some 2)) 4)) 0 2 (some 4)) 6) 0 3 (some 6)) 7)) 0 4 (some 7)) 13)) 0 5 (some 13)) 15)) 0 6 (some 15)) 30)) 0 7 (some 30)) 45)) 1 0 (some 45)) 47)) 1 1 (some 47)) 49)) 1 2 (some 49)) 51)) 1 3 (some 51)) 53)) 1 4 (some 53)) 55) := wf_clr w96
    have hc100 := (cX6_init_ct z ad 55 56 (clr (uR (fX6_init 53 54 (clr (uR (fX6_init 51 52 (clr (uR (fX6_init 49 50 (clr (uR (fX6_init 47 48 (clr (uR (fX6_init 45 46 (clr (uR (fX10_init 30 31 (clr (uR (fX10_init 15 16 (clr (uR (fX0_init 13 14 (clr (uR (fX3_init 7 8 (clr (uR (clr (uR (fX5_init 4 2 5 (clr (uR (fX7_init 2 3 (clr (uR (clr m 1) 0 0 (some 1)) 2)) 0 1 (some 2)) 4)) 0 2 (some 4)) 6) 0 3 (some 6)) 7)) 0 4 (some 7)) 13)) 0 5 (some 13)) 15)) 0 6 (some 15)) 30)) 0 7 (some 30)) 45)) 1 0 (some 45)) 47)) 1 1 (some 47)) 49)) 1 2 (some 49)) 51)) 1 3 (some 51)) 53)) 1 4 (some 53)) 55) (by omega) rfl w99 rfl rfl)
    have w103 : Wf (57) (fX6_init 55 56 (clr (uR (fX6_init 53 54 (clr (uR (fX6_init 51 52 (clr (uR (fX6_init 49 50 (clr (uR (fX6_init 47 48 (clr (uR (fX6_init 45 46 (clr (uR (fX10_init 30 31 (clr (uR (fX10_init 15 16 (clr (uR (fX0_init 13 14 (clr (uR (fX3_init 7 8 (clr (uR (clr (uR (fX5_init 4 2 5 (clr (uR (fX7_init 2 3 (clr (uR (clr m 1) 0 0 (some 1)) 2)) 0 1 (some 2)) 4)) 0 2 (some 4)) 6) 0 3 (some 6)) 7)) 0 4 (some 7)) 13)) 0 5 (some 13)) 15)) 0 6 (some 15)) 30)) 0 7 (some 30)) 45)) 1 0 (some 45)) 47)) 1 1 (some 47)) 49)) 1 2 (some 49)) 51)) 1 3 (some 51)) 53)) 1 4 (some 53)) 55)) := hc100.2
    have w104 : Wf (57) (uR (fX6_init 55 56 (clr (uR (fX6_init 53 54 (clr (uR (fX6_init 51 52 (clr (uR (fX6_init 49 50 (clr (uR (fX6_init 47 48 (clr (uR (fX6_init 45 46 (clr (uR (fX10_init 30 31 (clr (uR (fX10_init 15 16 (clr (uR (fX0_init 13 14 (clr (uR (fX3_init 7 8 (clr (uR (clr (uR (fX5_init 4 2 5 (clr (uR (fX7_init 2 3 (clr (uR (clr m 1) 0 0 (some 1)) 2)) 0 1 (some 2)) 4)) 0 2 (some 4)) 6) 0 3 (some 6)) 7)) 0 4 (some 7)) 13)) 0 5 (some 13)) 15)) 0 6 (some 15)) 30)) 0 7 (some 30)) 45)) 1 0 (some 45)) 47)) 1 1 (some 47)) 49)) 1 2 (some 49)) 51)) 1 3 (some 51)) 53)) 1 4 (some 53)) 55)) 1 5 (some 55)) := wf_uR w103 (by omega)
    have w107 : Wf (58) (clr (uR (fX6_init 55 56 (clr (uR (fX6_init 53 54 (clr (uR (fX6_init 51 52 (clr (uR (fX6_init 49 50 (clr (uR (fX6_init 47 48 (clr (uR (fX6_init 45 46 (clr (uR (fX10_init 30 31 (clr (uR (fX10_init 15 16 (clr (uR (fX0_init 13 14 (clr (uR (fX3_init 7 8 (clr (uR (clr (uR (fX5_init 4 2 5 (clr (uR (fX7_init 2 3 (clr (uR (clr m 1) 0 0 (some 1)) 2)) 0 1 (some 2)) 4)) 0 2 (some 4)) 6) 0 3 (some 6)) 7)) 0 4 (some 7)) 13)) 0 5 (some 13)) 15)) 0 6 (some 15)) 30)) 0 7 (some 30)) 45)) 1 0 (some 45)) 47)) 1 1 (some 47)) 49)) 1 2 (some 49)) 51)) 1 3 (some 51)) 53)) 1 4 (some 53)) 55)) 1 5 (some 55)) 57) := wf_clr w104
    have hc108 := (cX6_init_ct z ad 57 58 (clr (uR (fX6_init 55 56 (clr (uR (fX6_init 53 54 (clr (uR (fX6_init 51 52 (clr (uR (fX6_init 49 50 (clr (uR (fX6_init 47 48 (clr (uR (fX6_init 45 46 (clr (uR (fX10_init 30 31 (clr (uR (fX10_init 15 16 (clr (uR (fX0_init 13 14 (clr (uR (fX3_init 7 8 (clr (uR (clr (uR (fX5_init 4 2 5 (clr (uR (fX7_init 2 3 (clr (uR (clr m 1) 0 0 (some 1)) 2)) 0 1 (some 2)) 4)) 0 2 (some 4)) 6) 0 3 (some 6)) 7)) 0 4 (some 7)) 13)) 0 5 (some 13)) 15)) 0 6 (some 15)) 30)) 0 7 (some 30)) 45)) 1 0 (some 45)) 47)) 1 1 (some 47)) 49)) 1 2 (some 49)) 51)) 1 3 (some 51)) 53)) 1 4 (some 53)) 55)) 1 5 (some 55)) 57) (by omega) rfl w107 rfl rfl)
    have w111 : Wf (59) (fX6_init 57 58 (clr (uR (fX6_init 55 56 (clr (uR (fX6_init 53 54 (clr (uR (fX6_init 51 52 (clr (uR (fX6_init 49 50 (clr (uR (fX6_init 47 48 (clr (uR (fX6_init 45 46 (clr (uR (fX10_init 30 31 (clr (uR (fX10_init 15 16 (clr (uR (fX0_init 13 14 (clr (uR (fX3_init 7 8 (clr (uR (clr (uR (fX5_init 4 2 5 (clr (uR (fX7_init 2 3 (clr (uR (clr m 1) 0 0 (some 1)) 2)) 0 1 (some 2)) 4)) 0 2 (some 4)) 6) 0 3 (some 6)) 7)) 0 4 (some 7)) 13)) 0 5 (some 13)) 15)) 0 6 (some 15)) 30)) 0 7 (some 30)) 45)) 1 0 (some 45)) 47)) 1 1 (some 47)) 49)) 1 2 (some 49)) 51)) 1 3 (some 51)) 53)) 1 4 (some 53)) 55)) 1 5 (some 55)) 57)) := hc108.2
    have w112 : Wf (59) (uR (fX6_init 57 58 (clr (uR (fX6_init 55 56 (clr (uR (fX6_init 53 54 (clr (uR (fX6_init 51 52 (clr (uR (fX6_init 49 50 (clr (uR (fX6_init 47 48 (clr (uR (fX6_init 45 46 (clr (uR (fX10_init 30 31 (clr (uR (fX10_init 15 16 (clr (uR (fX0_init 13 14 (clr (uR (fX3_init 7 8 (clr (uR (clr (uR (fX5_init 4 2 5 (clr (uR (fX7_init 2 3 (clr (uR (clr m 1) 0 0 (some 1)) 2)) 0 1 (some 2)) 4)) 0 2 (some 4)) 6) 0 3 (some 6)) 7)) 0 4 (some 7)) 13)) 0 5 (some 13)) 15)) 0 6 (some 15)) 30)) 0 7 (some 30)) 45)) 1 0 (some 45)) 47)) 1 1 (some 47)) 49)) 1 2 (some 49)) 51)) 1 3 (some 51)) 53)) 1 4 (some 53)) 55)) 1 5 (some 55)) 57)) 1 6 (some 57)) := wf_uR w111 (by omega)
    have w115 : Wf (60) (clr (uR (fX6_init 57 58 (clr (uR (fX6_init 55 56 (clr (uR (fX6_init 53 54 (clr (uR (fX6_init 51 52 (clr (uR (fX6_init 49 50 (clr (uR (fX6_init 47 48 (clr (uR (fX6_init 45 46 (clr (uR (fX10_init 30 31 (clr (uR (fX10_init 15 16 (clr (uR (fX0_init 13 14 (clr (uR (fX3_init 7 8 (clr (uR (clr (uR (fX5_init 4 2 5 (clr (uR (fX7_init 2 3 (clr (uR (clr m 1) 0 0 (some 1)) 2)) 0 1 (some 2)) 4)) 0 2 (some 4)) 6) 0 3 (some 6)) 7)) 0 4 (some 7)) 13)) 0 5 (some 13)) 15)) 0 6 (some 15)) 30)) 0 7 (some 30)) 45)) 1 0 (some 45)) 47)) 1 1 (some 47)) 49)) 1 2 (some 49)) 51)) 1 3 (some 51)) 53)) 1 4 (some 53)) 55)) 1 5 (some 55)) 57)) 1 6 (some 57)) 59) := wf_clr w112
    have hc116 := (cX6_init_ct z ad 59 60 (clr (uR (fX6_init 57 58 (clr (uR (fX6_init 55 56 (clr (uR (fX6_init 53 54 (clr (uR (fX6_init 51 52 (clr (uR (fX6_init 49 50 (clr (uR (fX6_init 47 48 (clr (uR (fX6_init 45 46 (clr (uR (fX10_init 30 31 (clr (uR (fX10_init 15 16 (clr (uR (fX0_init 13 14 (clr (uR (fX3_init 7 8 (clr (uR (clr (uR (fX5_init 4 2 5 (clr (uR (fX7_init 2 3 (clr (uR (clr m 1) 0 0 (some 1)) 2)) 0 1 (some 2)) 4)) 0 2 (some 4)) 6) 0 3 (some 6)) 7)) 0 4 (some 7)) 13)) 0 5 (some 13)) 15)) 0 6 (some 15)) 30)) 0 7 (some 30)) 45)) 1 0 (some 45)) 47)) 1 1 (some 47)) 49)) 1 2 (some 49)) 51)) 1 3 (some 51)) 53)) 1 4 (some 53)) 55)) 1 5 (some 55)) 57)) 1 6 (some 57)) 59) (by omega) rfl w115 rfl rfl)
    have w119 : Wf (61) (fX6_init 59 60 (clr (uR (fX6_init 57 58 (clr (uR (fX6_init 55 56 (clr (uR (fX6_init 53 54 (clr (uR (fX6_init 51 52 (clr (uR (fX6_init 49 50 (clr (uR (fX6_init 47 48 (clr (uR (fX6_init 45 46 (clr (uR (fX10_init 30 31 (clr (uR (fX10_init 15 16 (clr (uR (fX0_init 13 14 (clr (uR (fX3_init 7 8 (clr (uR (clr (uR (fX5_init 4 2 5 (clr (uR (fX7_init 2 3 (clr (uR (clr m 1) 0 0 (some 1)) 2)) 0 1 (some 2)) 4)) 0 2 (some 4)) 6) 0 3 (some 6)) 7)) 0 4 (some 7)) 13)) 0 5 (some 13)) 15)) 0 6 (some 15)) 30)) 0 7 (some 30)) 45)) 1 0 (some 45)) 47)) 1 1 (some 47)) 49)) 1 2 (some 49)) 51)) 1 3 (some 51)) 53)) 1 4 (some 53)) 55)) 1 5 (some 55)) 57)) 1 6 (some 57)) 59)) := hc116.2
    have w120 : Wf (61) (uR (fX6_init 59 60 (clr (uR (fX6_init 57 58 (clr (uR (fX6_init 55 56 (clr (uR (fX6_init 53 54 (clr (uR (fX6_init 51 52 (clr (uR (fX6_init 49 50 (clr (uR (fX6_init 47 48 (clr (uR (fX6_init 45 46 (clr (uR (fX10_init 30 31 (clr (uR (fX10_init 15 16 (clr (uR (fX0_init 13 14 (clr (uR (fX3_init 7 8 (clr (uR (clr (uR (fX5_init 4 2 5 (clr (uR (fX7_init 2 3 (clr (uR (clr m 1) 0 0 (some 1)) 2)) 0 1 (some 2)) 4)) 0 2 (some 4)) 6) 0 3 (some 6)) 7)) 0 4 (some 7)) 13)) 0 5 (some 13)) 15)) 0 6 (some 15)) 30)) 0 7 (some 30)) 45)) 1 0 (some 45)) 47)) 1 1 (some 47)) 49)) 1 2 (some 49)) 51)) 1 3 (some 51)) 53)) 1 4 (some 53)) 55)) 1 5 (some 55)) 57)) 1 6 (some 57)) 59)) 1 7 (some 59)) := wf_uR w119 (by omega)
    have w123 : Wf (62) (clr (uR (fX6_init 59 60 (clr (uR (fX6_init 57 58 (clr (uR (fX6_init 55 56 (clr (uR (fX6_init 53 54 (clr (uR (fX6_init 51 52 (clr (uR (fX6_init 49 50 (clr (uR (fX6_init 47 48 (clr (uR (fX6_init 45 46 (clr (uR (fX10_init 30 31 (clr (uR (fX10_init 15 16 (clr (uR (fX0_init 13 14 (clr (uR (fX3_init 7 8 (clr (uR (clr (uR (fX5_init 4 2 5 (clr (uR (fX7_init 2 3 (clr (uR (clr m 1) 0 0 (some 1)) 2)) 0 1 (some 2)) 4)) 0 2 (some 4)) 6) 0 3 (some 6)) 7)) 0 4 (some 7)) 13)) 0 5 (some 13)) 15)) 0 6 (some 15)) 30)) 0 7 (some 30)) 45)) 1 0 (some 45)) 47)) 1 1 (some 47)) 49)) 1 2 (some 49)) 51)) 1 3 (some 51)) 53)) 1 4 (some 53)) 55)) 1 5 (some 55)) 57)) 1 6 (some 57)) 59)) 1 7 (some 59)) 61) := wf_clr w120
    have hc124 := (cX10_init_ct z ad 61 62 (clr (uR (fX6_init 59 60 (clr (uR (fX6_init 57 58 (clr (uR (fX6_init 55 56 (clr (uR (fX6_init 53 54 (clr (uR (fX6_init 51 52 (clr (uR (fX6_init 49 50 (clr (uR (fX6_init 47 48 (clr (uR (fX6_init 45 46 (clr (uR (fX10_init 30 31 (clr (uR (fX10_init 15 16 (clr (uR (fX0_init 13 14 (clr (uR (fX3_init 7 8 (clr (uR (clr (uR (fX5_init 4 2 5 (clr (uR (fX7_init 2 3 (clr (uR (clr m 1) 0 0 (some 1)) 2)) 0 1 (some 2)) 4)) 0 2 (some 4)) 6) 0 3 (some 6)) 7)) 0 4 (some 7)) 13)) 0 5 (some 13)) 15)) 0 6 (some 15)) 30)) 0 7 (some 30)) 45)) 1 0 (some 45)) 47)) 1 1 (some 47)) 49)) 1 2 (some 49)) 51)) 1 3 (some 51)) 53)) 1 4 (some 53)) 55)) 1 5 (some 55)) 57)) 1 6 (some 57)) 59)) 1 7 (some 59)) 61) (by omega) rfl w123 rfl rfl rfl rfl rfl rfl rfl rfl rfl rfl rfl rfl rfl rfl rfl rfl rfl rfl rfl rfl rfl rfl rfl rfl)
    have w127 : Wf (76) (fX10_init 61 62 (clr (uR (fX6_init 59 60 (clr (uR (fX6_init 57 58 (clr (uR (fX6_init 55 56 (clr (uR (fX6_init 53 54 (clr (uR (fX6_init 51 52 (clr (uR (fX6_init 49 50 (clr (uR (fX6_init 47 48 (clr (uR (fX6_init 45 46 (clr (uR (fX10_init 30 31 (clr (uR (fX10_init 15 16 (clr (uR (fX0_init 13 14 (clr (uR (fX3_init 7 8 (clr (uR (clr (uR (fX5_init 4 2 5 (clr (uR (fX7_init 2 3 (clr (uR (clr m 1) 0 0 (some 1)) 2)) 0 1 (some 2)) 4)) 0 2 (some 4)) 6) 0 3 (some 6)) 7)) 0 4 (some 7)) 13)) 0 5 (some 13)) 15)) 0 6 (some 15)) 30)) 0 7 (some 30)) 45)) 1 0 (some 45)) 47)) 1 1 (some 47)) 49)) 1 2 (some 49)) 51)) 1 3 (some 51)) 53)) 1 4 (some 53)) 55)) 1 5 (some 55)) 57)) 1 6 (some 57)) 59)) 1 7 (some 59)) 61)) := hc124.2
    have w128 : Wf (76) (uR (fX10_init 61 62 (clr (uR (fX6_init 59 60 (clr (uR (fX6_init 57 58 (clr (uR (fX6_init 55 56 (clr (uR (fX6_init 53 54 (clr (uR (fX6_init 51 52 (clr (uR (fX6_init 49 50 (clr (uR (fX6_init 47 48 (clr (uR (fX6_init 45 46 (clr (uR (fX10_init 30 31 (clr (uR (fX10_init 15 16 (clr (uR (fX0_init 13 14 (clr (uR (fX3_init 7 8 (clr (uR (clr (uR (fX5_init 4 2 5 (clr (uR (fX7_init 2 3 (clr (uR (clr m 1) 0 0 (some 1)) 2)) 0 1 (some 2)) 4)) 0 2 (some 4)) 6) 0 3 (some 6)) 7)) 0 4 (some 7)) 13)) 0 5 (some 13)) 15)) 0 6 (some 15)) 30)) 0 7 (some 30)) 45)) 1 0 (some 45)) 47)) 1 1 (some 47)) 49)) 1 2 (some 49)) 51)) 1 3 (some 51)) 53)) 1 4 (some 53)) 55)) 1 5 (some 55)) 57)) 1 6 (some 57)) 59)) 1 7 (some 59)) 61)) 6 0 (some 61)) := wf_uR w127 (by omega)
    have w131 : Wf (77) (clr (uR (fX10_init 61 62 (clr (uR (fX6_init 59 60 (clr (uR (fX6_init 57 58 (clr (uR (fX6_init 55 56 (clr (uR (fX6_init 53 54 (clr (uR (fX6_init 51 52 (clr (uR (fX6_init 49 50 (clr (uR (fX6_init 47 48 (clr (uR (fX6_init 45 46 (clr (uR (fX10_init 30 31 (clr (uR (fX10_init 15 16 (clr (uR (fX0_init 13 14 (clr (uR (fX3_init 7 8 (clr (uR (clr (uR (fX5_init 4 2 5 (clr (uR (fX7_init 2 3 (clr (uR (clr m 1) 0 0 (some 1)) 2)) 0 1 (some 2)) 4)) 0 2 (some 4)) 6) 0 3 (some 6)) 7)) 0 4 (some 7)) 13)) 0 5 (some 13)) 15)) 0 6 (some 15)) 30)) 0 7 (some 30)) 45)) 1 0 (some 45)) 47)) 1 1 (some 47)) 49)) 1 2 (some 49)) 51)) 1 3 (some 51)) 53)) 1 4 (some 53)) 55)) 1 5 (some 55)) 57)) 1 6 (some 57)) 59)) 1 7 (some 59)) 61)) 6 0 (some 61)) 76) := wf_clr w128
    have hc132 := (cX10_init_ct z ad 76 77 (clr (uR (fX10_init 61 62 (clr (uR (fX6_init 59 60 (clr (uR (fX6_init 57 58 (clr (uR (fX6_init 55 56 (clr (uR (fX6_init 53 54 (clr (uR (fX6_init 51 52 (clr (uR (fX6_init 49 50 (clr (uR (fX6_init 47 48 (clr (uR (fX6_init 45 46 (clr (uR (fX10_init 30 31 (clr (uR (fX10_init 15 16 (clr (uR (fX0_init 13 14 (clr (uR (fX3_init 7 8 (clr (uR (clr (uR (fX5_init 4 2 5 (clr (uR (fX7_init 2 3 (clr (uR (clr m 1) 0 0 (some 1)) 2)) 0 1 (some 2)) 4)) 0 2 (some 4)) 6) 0 3 (some 6)) 7)) 0 4 (some 7)) 13)) 0 5 (some 13)) 15)) 0 6 (some 15)) 30)) 0 7 (some 30)) 45)) 1 0 (some 45)) 47)) 1 1 (some 47)) 49)) 1 2 (some 49)) 51)) 1 3 (some 51)) 53)) 1 4 (some 53)) 55)) 1 5 (some 55)) 57)) 1 6 (some 57)) 59)) 1 7 (some 59)) 61)) 6 0 (some 61)) 76) (by omega) rfl w131 rfl rfl rfl rfl rfl rfl rfl rfl rfl rfl rfl rfl rfl rfl rfl rfl rfl rfl rfl rfl rfl rfl rfl rfl)
    have w135 : Wf (91) (fX10_init 76 77 (clr (uR (fX10_init 61 62 (clr (uR (fX6_init 59 60 (clr (uR (fX6_init 57 58 (clr (uR (fX6_init 55 56 (clr (uR (fX6_init 53 54 (clr (uR (fX6_init 51 52 (clr (uR (fX6_init 49 50 (clr (uR (fX6_init 47 48 (clr (uR (fX6_init 45 46 (clr (uR (fX10_init 30 31 (clr (uR (fX10_init 15 16 (clr (uR (fX0_init 13 14 (clr (uR (fX3_init 7 8 (clr (uR (clr (uR (fX5_init 4 2 5 (clr (uR (fX7_init 2 3 (clr (uR (clr m 1) 0 0 (some 1)) 2)) 0 1 (some 2)) 4)) 0 2 (some 4)) 6) 0 3 (some 6)) 7)) 0 4 (some 7)) 13)) 0 5 (some 13)) 15)) 0 6 (some 15)) 30)) 0 7 (some 30)) 45)) 1 0 (some 45)) 47)) 1 1 (some 47)) 49)) 1 2 (some 49)) 51)) 1 3 (some 51)) 53)) 1 4 (some 53)) 55)) 1 5 (some 55)) 57)) 1 6 (some 57)) 59)) 1 7 (some 59)) 61)) 6 0 (some 61)) 76)) := hc132.2
    have w136 : Wf (91) (uR (fX10_init 76 77 (clr (uR (fX10_init 61 62 (clr (uR (fX6_init 59 60 (clr (uR (fX6_init 57 58 (clr (uR (fX6_init 55 56 (clr (uR (fX6_init 53 54 (clr (uR (fX6_init 51 52 (clr (uR (fX6_init 49 50 (clr (uR (fX6_init 47 48 (clr (uR (fX6_init 45 46 (clr (uR (fX10_init 30 31 (clr (uR (fX10_init 15 16 (clr (uR (fX0_init 13 14 (clr (uR (fX3_init 7 8 (clr (uR (clr (uR (fX5_init 4 2 5 (clr (uR (fX7_init 2 3 (clr (uR (clr m 1) 0 0 (some 1)) 2)) 0 1 (some 2)) 4)) 0 2 (some 4)) 6) 0 3 (some 6)) 7)) 0 4 (some 7)) 13)) 0 5 (some 13)) 15)) 0 6 (some 15)) 30)) 0 7 (some 30)) 45)) 1 0 (some 45)) 47)) 1 1 (some 47)) 49)) 1 2 (some 49)) 51)) 1 3 (some 51)) 53)) 1 4 (some 53)) 55)) 1 5 (some 55)) 57)) 1 6 (some 57)) 59)) 1 7 (some 59)) 61)) 6 0 (some 61)) 76)) 6 1 (some 76)) := wf_uR w135 (by omega)
    exact w136

noncomputable def fX12_init (m : Mem) : Mem := uR (clr (uR (clr (uR (clr (uR (clr (uR (clr (uR (clr (uR (clr (uR (clr (uR (clr (uR (clr (uR (clr (uR (clr (uR (clr (uR (clr (uR (clr (uR (uI (uI (uI (uI (uI (uI (uI (uI (clr m 1) 1 0 (-1)) 1 1 (-1)) 1 2 (-1)) 1 3 (-1)) 1 4 (-1)) 1 5 (-1)) 1 6 (-1)) 1 7 (-1)) 0 2 (some 1)) 2) 0 3 (some 2)) 3) 0 4 (some 3)) 4) 0 5 (some 4)) 5) 0 6 (some 5)) 6) 0 8 (some 6)) 7) 0 9 (some 7)) 8) 0 19 (some 8)) 9) 0 20 (some 9)) 10) 0 21 (some 10)) 11) 0 22 (some 11)) 12) 0 23 (some 12)) 13) 0 26 (some 13)) 14) 0 27 (some 14)) 15) 0 28 (some 15)) 16) 0 29 (some 16)
set_option maxHeartbeats 4000000 in
set_option maxRecDepth 100000 in
theorem cX12_init_ct (z : Zx) (ad : Nat → Nat) (m : Mem) (hw : Wf 1 m) : CtK z wM yX12_init cX12_init 1 (RmK 3 16 2323) ad 1 [.ref (ad 0)] m (17) (fX12_init m) ∧ Wf (17) (fX12_init m) := by
  refine ⟨ct_ofK mi_X12_init rfl rfl (Nat.le_of_ble_eq_true rfl) (fun x X Ix hret => ?_), ?_⟩
  · refine g_lv [(0, .ref (ad 0))] [0] rfl ?_
    refine g_aload_n (pc := 0) X dX12_init_0 rfl 0 rfl ?_
    refine g_objInit (pc := 1) X oi_X12_3 oi_in oi_co (by decide) (by decide) (Nat.le_of_ble_eq_true rfl) dX12_init_1 ?_
    refine g_aload_n (pc := 4) X dX12_init_4 rfl 0 rfl ?_
    refine g_bipush (v := (8 : Int32)) (pc := 5) X dX12_init_5 (by decide) ?_
    refine g_newI (pc := 7) X ac_int rfl (by decide) (by decide) (by decide) hw (by decide) (by decide) dX12_init_7 (fun ad1 hA2 => ?_)
    rw [← hA2 0 (by omega)]
    have w3 : Wf (2) (clr m 1) := wf_clr hw
    refine g_cs (cs2 := 1) (ss2 := 8) rfl rfl ?_
    refine g_dup (pc := 9) X dX12_init_9 rfl ?_
    refine g_iconst (v := (0 : Int32)) (pc := 10) X dX12_init_10 (by decide) ?_
    refine g_iconst (v := (-1 : Int32)) (pc := 11) X dX12_init_11 (by decide) ?_
    refine g_iast (pc := 12) X (by omega) rfl (by decide) dX12_init_12 ?_
    have w4 : Wf (2) (uI (clr m 1) 1 0 (-1)) := wf_uI w3
    refine g_dup (pc := 13) X dX12_init_13 rfl ?_
    refine g_iconst (v := (1 : Int32)) (pc := 14) X dX12_init_14 (by decide) ?_
    refine g_iconst (v := (-1 : Int32)) (pc := 15) X dX12_init_15 (by decide) ?_
    refine g_iast (pc := 16) X (by omega) rfl (by decide) dX12_init_16 ?_
    have w5 : Wf (2) (uI (uI (clr m 1) 1 0 (-1)) 1 1 (-1)) := wf_uI w4
    refine g_dup (pc := 17) X dX12_init_17 rfl ?_
    refine g_iconst (v := (2 : Int32)) (pc := 18) X dX12_init_18 (by decide) ?_
    refine g_iconst (v := (-1 : Int32)) (pc := 19) X dX12_init_19 (by decide) ?_
    refine g_iast (pc := 20) X (by omega) rfl (by decide) dX12_init_20 ?_
    have w6 : Wf (2) (uI (uI (uI (clr m 1) 1 0 (-1)) 1 1 (-1)) 1 2 (-1)) := wf_uI w5
    refine g_dup (pc := 21) X dX12_init_21 rfl ?_
    refine g_iconst (v := (3 : Int32)) (pc := 22) X dX12_init_22 (by decide) ?_
    refine g_iconst (v := (-1 : Int32)) (pc := 23) X dX12_init_23 (by decide) ?_
    refine g_iast (pc := 24) X (by omega) rfl (by decide) dX12_init_24 ?_
    have w7 : Wf (2) (uI (uI (uI (uI (clr m 1) 1 0 (-1)) 1 1 (-1)) 1 2 (-1)) 1 3 (-1)) := wf_uI w6
    refine g_dup (pc := 25) X dX12_init_25 rfl ?_
    refine g_iconst (v := (4 : Int32)) (pc := 26) X dX12_init_26 (by decide) ?_
    refine g_iconst (v := (-1 : Int32)) (pc := 27) X dX12_init_27 (by decide) ?_
    refine g_iast (pc := 28) X (by omega) rfl (by decide) dX12_init_28 ?_
    have w8 : Wf (2) (uI (uI (uI (uI (uI (clr m 1) 1 0 (-1)) 1 1 (-1)) 1 2 (-1)) 1 3 (-1)) 1 4 (-1)) := wf_uI w7
    refine g_dup (pc := 29) X dX12_init_29 rfl ?_
    refine g_iconst (v := (5 : Int32)) (pc := 30) X dX12_init_30 (by decide) ?_
    refine g_iconst (v := (-1 : Int32)) (pc := 31) X dX12_init_31 (by decide) ?_
    refine g_iast (pc := 32) X (by omega) rfl (by decide) dX12_init_32 ?_
    have w9 : Wf (2) (uI (uI (uI (uI (uI (uI (clr m 1) 1 0 (-1)) 1 1 (-1)) 1 2 (-1)) 1 3 (-1)) 1 4 (-1)) 1 5 (-1)) := wf_uI w8
    refine g_dup (pc := 33) X dX12_init_33 rfl ?_
    refine g_bipush (v := (6 : Int32)) (pc := 34) X dX12_init_34 (by decide) ?_
    refine g_iconst (v := (-1 : Int32)) (pc := 36) X dX12_init_36 (by decide) ?_
    refine g_iast (pc := 37) X (by omega) rfl (by decide) dX12_init_37 ?_
    have w10 : Wf (2) (uI (uI (uI (uI (uI (uI (uI (clr m 1) 1 0 (-1)) 1 1 (-1)) 1 2 (-1)) 1 3 (-1)) 1 4 (-1)) 1 5 (-1)) 1 6 (-1)) := wf_uI w9
    refine g_dup (pc := 38) X dX12_init_38 rfl ?_
    refine g_bipush (v := (7 : Int32)) (pc := 39) X dX12_init_39 (by decide) ?_
    refine g_iconst (v := (-1 : Int32)) (pc := 41) X dX12_init_41 (by decide) ?_
    refine g_iast (pc := 42) X (by omega) rfl (by decide) dX12_init_42 ?_
    have w11 : Wf (2) (uI (uI (uI (uI (uI (uI (uI (uI (clr m 1) 1 0 (-1)) 1 1 (-1)) 1 2 (-1)) 1 3 (-1)) 1 4 (-1)) 1 5 (-1)) 1 6 (-1)) 1 7 (-1)) := wf_uI w10
    refine g_putRF (pc := 43) X Ix fl_X12_9 ocX12 (by omega) rfl rfl rfl dX12_init_43 ?_
    have w12 : Wf (2) (uR (uI (uI (uI (uI (uI (uI (uI (uI (clr m 1) 1 0 (-1)) 1 1 (-1)) 1 2 (-1)) 1 3 (-1)) 1 4 (-1)) 1 5 (-1)) 1 6 (-1)) 1 7 (-1)) 0 2 (some 1)) := wf_uR w11 (by omega)
    refine g_aload_n (pc := 46) X dX12_init_46 rfl 0 rfl ?_
    refine g_bipush (v := (8 : Int32)) (pc := 47) X dX12_init_47 (by decide) ?_
    refine g_newI (pc := 49) X ac_int rfl (by decide) (by decide) (by decide) w12 (by decide) (by decide) dX12_init_49 (fun ad13 hA14 => ?_)
    rw [← hA14 0 (by omega)]
    have w15 : Wf (3) (clr (uR (uI (uI (uI (uI (uI (uI (uI (uI (clr m 1) 1 0 (-1)) 1 1 (-1)) 1 2 (-1)) 1 3 (-1)) 1 4 (-1)) 1 5 (-1)) 1 6 (-1)) 1 7 (-1)) 0 2 (some 1)) 2) := wf_clr w12
    refine g_cs (cs2 := 2) (ss2 := 16) rfl rfl ?_
    refine g_putRF (pc := 51) X Ix fl_X12_13 ocX12 (by omega) rfl rfl rfl dX12_init_51 ?_
    have w16 : Wf (3) (uR (clr (uR (uI (uI (uI (uI (uI (uI (uI (uI (clr m 1) 1 0 (-1)) 1 1 (-1)) 1 2 (-1)) 1 3 (-1)) 1 4 (-1)) 1 5 (-1)) 1 6 (-1)) 1 7 (-1)) 0 2 (some 1)) 2) 0 3 (some 2)) := wf_uR w15 (by omega)
    refine g_aload_n (pc := 54) X dX12_init_54 rfl 0 rfl ?_
    refine g_sipush (v := (320 : Int32)) (pc := 55) X dX12_init_55 (by decide) ?_
    refine g_newI (pc := 58) X ac_int rfl (by decide) (by decide) (by decide) w16 (by decide) (by decide) dX12_init_58 (fun ad17 hA18 => ?_)
    rw [← hA18 0 (by omega)]
    have w19 : Wf (4) (clr (uR (clr (uR (uI (uI (uI (uI (uI (uI (uI (uI (clr m 1) 1 0 (-1)) 1 1 (-1)) 1 2 (-1)) 1 3 (-1)) 1 4 (-1)) 1 5 (-1)) 1 6 (-1)) 1 7 (-1)) 0 2 (some 1)) 2) 0 3 (some 2)) 3) := wf_clr w16
    refine g_cs (cs2 := 3) (ss2 := 336) rfl rfl ?_
    refine g_putRF (pc := 60) X Ix fl_X12_16 ocX12 (by omega) rfl rfl rfl dX12_init_60 ?_
    have w20 : Wf (4) (uR (clr (uR (clr (uR (uI (uI (uI (uI (uI (uI (uI (uI (clr m 1) 1 0 (-1)) 1 1 (-1)) 1 2 (-1)) 1 3 (-1)) 1 4 (-1)) 1 5 (-1)) 1 6 (-1)) 1 7 (-1)) 0 2 (some 1)) 2) 0 3 (some 2)) 3) 0 4 (some 3)) := wf_uR w19 (by omega)
    refine g_aload_n (pc := 63) X dX12_init_63 rfl 0 rfl ?_
    refine g_sipush (v := (206 : Int32)) (pc := 64) X dX12_init_64 (by decide) ?_
    refine g_newI (pc := 67) X ac_int rfl (by decide) (by decide) (by decide) w20 (by decide) (by decide) dX12_init_67 (fun ad21 hA22 => ?_)
    rw [← hA22 0 (by omega)]
    have w23 : Wf (5) (clr (uR (clr (uR (clr (uR (uI (uI (uI (uI (uI (uI (uI (uI (clr m 1) 1 0 (-1)) 1 1 (-1)) 1 2 (-1)) 1 3 (-1)) 1 4 (-1)) 1 5 (-1)) 1 6 (-1)) 1 7 (-1)) 0 2 (some 1)) 2) 0 3 (some 2)) 3) 0 4 (some 3)) 4) := wf_clr w20
    refine g_cs (cs2 := 4) (ss2 := 542) rfl rfl ?_
    refine g_putRF (pc := 69) X Ix fl_X12_19 ocX12 (by omega) rfl rfl rfl dX12_init_69 ?_
    have w24 : Wf (5) (uR (clr (uR (clr (uR (clr (uR (uI (uI (uI (uI (uI (uI (uI (uI (clr m 1) 1 0 (-1)) 1 1 (-1)) 1 2 (-1)) 1 3 (-1)) 1 4 (-1)) 1 5 (-1)) 1 6 (-1)) 1 7 (-1)) 0 2 (some 1)) 2) 0 3 (some 2)) 3) 0 4 (some 3)) 4) 0 5 (some 4)) := wf_uR w23 (by omega)
    refine g_aload_n (pc := 72) X dX12_init_72 rfl 0 rfl ?_
    refine g_sipush (v := (206 : Int32)) (pc := 73) X dX12_init_73 (by decide) ?_
    refine g_newI (pc := 76) X ac_int rfl (by decide) (by decide) (by decide) w24 (by decide) (by decide) dX12_init_76 (fun ad25 hA26 => ?_)
    rw [← hA26 0 (by omega)]
    have w27 : Wf (6) (clr (uR (clr (uR (clr (uR (clr (uR (uI (uI (uI (uI (uI (uI (uI (uI (clr m 1) 1 0 (-1)) 1 1 (-1)) 1 2 (-1)) 1 3 (-1)) 1 4 (-1)) 1 5 (-1)) 1 6 (-1)) 1 7 (-1)) 0 2 (some 1)) 2) 0 3 (some 2)) 3) 0 4 (some 3)) 4) 0 5 (some 4)) 5) := wf_clr w24
    refine g_cs (cs2 := 5) (ss2 := 748) rfl rfl ?_
    refine g_putRF (pc := 78) X Ix fl_X12_22 ocX12 (by omega) rfl rfl rfl dX12_init_78 ?_
    have w28 : Wf (6) (uR (clr (uR (clr (uR (clr (uR (clr (uR (uI (uI (uI (uI (uI (uI (uI (uI (clr m 1) 1 0 (-1)) 1 1 (-1)) 1 2 (-1)) 1 3 (-1)) 1 4 (-1)) 1 5 (-1)) 1 6 (-1)) 1 7 (-1)) 0 2 (some 1)) 2) 0 3 (some 2)) 3) 0 4 (some 3)) 4) 0 5 (some 4)) 5) 0 6 (some 5)) := wf_uR w27 (by omega)
    refine g_aload_n (pc := 81) X dX12_init_81 rfl 0 rfl ?_
    refine g_bipush (v := (8 : Int32)) (pc := 82) X dX12_init_82 (by decide) ?_
    refine g_newI (pc := 84) X ac_int rfl (by decide) (by decide) (by decide) w28 (by decide) (by decide) dX12_init_84 (fun ad29 hA30 => ?_)
    rw [← hA30 0 (by omega)]
    have w31 : Wf (7) (clr (uR (clr (uR (clr (uR (clr (uR (clr (uR (uI (uI (uI (uI (uI (uI (uI (uI (clr m 1) 1 0 (-1)) 1 1 (-1)) 1 2 (-1)) 1 3 (-1)) 1 4 (-1)) 1 5 (-1)) 1 6 (-1)) 1 7 (-1)) 0 2 (some 1)) 2) 0 3 (some 2)) 3) 0 4 (some 3)) 4) 0 5 (some 4)) 5) 0 6 (some 5)) 6) := wf_clr w28
    refine g_cs (cs2 := 6) (ss2 := 756) rfl rfl ?_
    refine g_putRF (pc := 86) X Ix fl_X12_25 ocX12 (by omega) rfl rfl rfl dX12_init_86 ?_
    have w32 : Wf (7) (uR (clr (uR (clr (uR (clr (uR (clr (uR (clr (uR (uI (uI (uI (uI (uI (uI (uI (uI (clr m 1) 1 0 (-1)) 1 1 (-1)) 1 2 (-1)) 1 3 (-1)) 1 4 (-1)) 1 5 (-1)) 1 6 (-1)) 1 7 (-1)) 0 2 (some 1)) 2) 0 3 (some 2)) 3) 0 4 (some 3)) 4) 0 5 (some 4)) 5) 0 6 (some 5)) 6) 0 8 (some 6)) := wf_uR w31 (by omega)
    refine g_aload_n (pc := 89) X dX12_init_89 rfl 0 rfl ?_
    refine g_sipush (v := (600 : Int32)) (pc := 90) X dX12_init_90 (by decide) ?_
    refine g_newI (pc := 93) X ac_int rfl (by decide) (by decide) (by decide) w32 (by decide) (by decide) dX12_init_93 (fun ad33 hA34 => ?_)
    rw [← hA34 0 (by omega)]
    have w35 : Wf (8) (clr (uR (clr (uR (clr (uR (clr (uR (clr (uR (clr (uR (uI (uI (uI (uI (uI (uI (uI (uI (clr m 1) 1 0 (-1)) 1 1 (-1)) 1 2 (-1)) 1 3 (-1)) 1 4 (-1)) 1 5 (-1)) 1 6 (-1)) 1 7 (-1)) 0 2 (some 1)) 2) 0 3 (some 2)) 3) 0 4 (some 3)) 4) 0 5 (some 4)) 5) 0 6 (some 5)) 6) 0 8 (some 6)) 7) := wf_clr w32
    refine g_cs (cs2 := 7) (ss2 := 1356) rfl rfl ?_
    refine g_putRF (pc := 95) X Ix fl_X12_28 ocX12 (by omega) rfl rfl rfl dX12_init_95 ?_
    have w36 : Wf (8) (uR (clr (uR (clr (uR (clr (uR (clr (uR (clr (uR (clr (uR (uI (uI (uI (uI (uI (uI (uI (uI (clr m 1) 1 0 (-1)) 1 1 (-1)) 1 2 (-1)) 1 3 (-1)) 1 4 (-1)) 1 5 (-1)) 1 6 (-1)) 1 7 (-1)) 0 2 (some 1)) 2) 0 3 (some 2)) 3) 0 4 (some 3)) 4) 0 5 (some 4)) 5) 0 6 (some 5)) 6) 0 8 (some 6)) 7) 0 9 (some 7)) := wf_uR w35 (by omega)
    refine g_aload_n (pc := 98) X dX12_init_98 rfl 0 rfl ?_
    refine g_sipush (v := (128 : Int32)) (pc := 99) X dX12_init_99 (by decide) ?_
    refine g_newJ (pc := 102) X ac_long rfl (by decide) (by decide) (by decide) w36 (by decide) (by decide) dX12_init_102 (fun ad37 hA38 => ?_)
    rw [← hA38 0 (by omega)]
    have w39 : Wf (9) (clr (uR (clr (uR (clr (uR (clr (uR (clr (uR (clr (uR (clr (uR (uI (uI (uI (uI (uI (uI (uI (uI (clr m 1) 1 0 (-1)) 1 1 (-1)) 1 2 (-1)) 1 3 (-1)) 1 4 (-1)) 1 5 (-1)) 1 6 (-1)) 1 7 (-1)) 0 2 (some 1)) 2) 0 3 (some 2)) 3) 0 4 (some 3)) 4) 0 5 (some 4)) 5) 0 6 (some 5)) 6) 0 8 (some 6)) 7) 0 9 (some 7)) 8) := wf_clr w36
    refine g_cs (cs2 := 8) (ss2 := 1484) rfl rfl ?_
    refine g_putRF (pc := 104) X Ix fl_X12_31 ocX12 (by omega) rfl rfl rfl dX12_init_104 ?_
    have w40 : Wf (9) (uR (clr (uR (clr (uR (clr (uR (clr (uR (clr (uR (clr (uR (clr (uR (uI (uI (uI (uI (uI (uI (uI (uI (clr m 1) 1 0 (-1)) 1 1 (-1)) 1 2 (-1)) 1 3 (-1)) 1 4 (-1)) 1 5 (-1)) 1 6 (-1)) 1 7 (-1)) 0 2 (some 1)) 2) 0 3 (some 2)) 3) 0 4 (some 3)) 4) 0 5 (some 4)) 5) 0 6 (some 5)) 6) 0 8 (some 6)) 7) 0 9 (some 7)) 8) 0 19 (some 8)) := wf_uR w39 (by omega)
    refine g_aload_n (pc := 107) X dX12_init_107 rfl 0 rfl ?_
    refine g_sipush (v := (128 : Int32)) (pc := 108) X dX12_init_108 (by decide) ?_
    refine g_newJ (pc := 111) X ac_long rfl (by decide) (by decide) (by decide) w40 (by decide) (by decide) dX12_init_111 (fun ad41 hA42 => ?_)
    rw [← hA42 0 (by omega)]
    have w43 : Wf (10) (clr (uR (clr (uR (clr (uR (clr (uR (clr (uR (clr (uR (clr (uR (clr (uR (uI (uI (uI (uI (uI (uI (uI (uI (clr m 1) 1 0 (-1)) 1 1 (-1)) 1 2 (-1)) 1 3 (-1)) 1 4 (-1)) 1 5 (-1)) 1 6 (-1)) 1 7 (-1)) 0 2 (some 1)) 2) 0 3 (some 2)) 3) 0 4 (some 3)) 4) 0 5 (some 4)) 5) 0 6 (some 5)) 6) 0 8 (some 6)) 7) 0 9 (some 7)) 8) 0 19 (some 8)) 9) := wf_clr w40
    refine g_cs (cs2 := 9) (ss2 := 1612) rfl rfl ?_
    refine g_putRF (pc := 113) X Ix fl_X12_35 ocX12 (by omega) rfl rfl rfl dX12_init_113 ?_
    have w44 : Wf (10) (uR (clr (uR (clr (uR (clr (uR (clr (uR (clr (uR (clr (uR (clr (uR (clr (uR (uI (uI (uI (uI (uI (uI (uI (uI (clr m 1) 1 0 (-1)) 1 1 (-1)) 1 2 (-1)) 1 3 (-1)) 1 4 (-1)) 1 5 (-1)) 1 6 (-1)) 1 7 (-1)) 0 2 (some 1)) 2) 0 3 (some 2)) 3) 0 4 (some 3)) 4) 0 5 (some 4)) 5) 0 6 (some 5)) 6) 0 8 (some 6)) 7) 0 9 (some 7)) 8) 0 19 (some 8)) 9) 0 20 (some 9)) := wf_uR w43 (by omega)
    refine g_aload_n (pc := 116) X dX12_init_116 rfl 0 rfl ?_
    refine g_sipush (v := (128 : Int32)) (pc := 117) X dX12_init_117 (by decide) ?_
    refine g_newJ (pc := 120) X ac_long rfl (by decide) (by decide) (by decide) w44 (by decide) (by decide) dX12_init_120 (fun ad45 hA46 => ?_)
    rw [← hA46 0 (by omega)]
    have w47 : Wf (11) (clr (uR (clr (uR (clr (uR (clr (uR (clr (uR (clr (uR (clr (uR (clr (uR (clr (uR (uI (uI (uI (uI (uI (uI (uI (uI (clr m 1) 1 0 (-1)) 1 1 (-1)) 1 2 (-1)) 1 3 (-1)) 1 4 (-1)) 1 5 (-1)) 1 6 (-1)) 1 7 (-1)) 0 2 (some 1)) 2) 0 3 (some 2)) 3) 0 4 (some 3)) 4) 0 5 (some 4)) 5) 0 6 (some 5)) 6) 0 8 (some 6)) 7) 0 9 (some 7)) 8) 0 19 (some 8)) 9) 0 20 (some 9)) 10) := wf_clr w44
    refine g_cs (cs2 := 10) (ss2 := 1740) rfl rfl ?_
    refine g_putRF (pc := 122) X Ix fl_X12_38 ocX12 (by omega) rfl rfl rfl dX12_init_122 ?_
    have w48 : Wf (11) (uR (clr (uR (clr (uR (clr (uR (clr (uR (clr (uR (clr (uR (clr (uR (clr (uR (clr (uR (uI (uI (uI (uI (uI (uI (uI (uI (clr m 1) 1 0 (-1)) 1 1 (-1)) 1 2 (-1)) 1 3 (-1)) 1 4 (-1)) 1 5 (-1)) 1 6 (-1)) 1 7 (-1)) 0 2 (some 1)) 2) 0 3 (some 2)) 3) 0 4 (some 3)) 4) 0 5 (some 4)) 5) 0 6 (some 5)) 6) 0 8 (some 6)) 7) 0 9 (some 7)) 8) 0 19 (some 8)) 9) 0 20 (some 9)) 10) 0 21 (some 10)) := wf_uR w47 (by omega)
    refine g_aload_n (pc := 125) X dX12_init_125 rfl 0 rfl ?_
    refine g_sipush (v := (128 : Int32)) (pc := 126) X dX12_init_126 (by decide) ?_
    refine g_newJ (pc := 129) X ac_long rfl (by decide) (by decide) (by decide) w48 (by decide) (by decide) dX12_init_129 (fun ad49 hA50 => ?_)
    rw [← hA50 0 (by omega)]
    have w51 : Wf (12) (clr (uR (clr (uR (clr (uR (clr (uR (clr (uR (clr (uR (clr (uR (clr (uR (clr (uR (clr (uR (uI (uI (uI (uI (uI (uI (uI (uI (clr m 1) 1 0 (-1)) 1 1 (-1)) 1 2 (-1)) 1 3 (-1)) 1 4 (-1)) 1 5 (-1)) 1 6 (-1)) 1 7 (-1)) 0 2 (some 1)) 2) 0 3 (some 2)) 3) 0 4 (some 3)) 4) 0 5 (some 4)) 5) 0 6 (some 5)) 6) 0 8 (some 6)) 7) 0 9 (some 7)) 8) 0 19 (some 8)) 9) 0 20 (some 9)) 10) 0 21 (some 10)) 11) := wf_clr w48
    refine g_cs (cs2 := 11) (ss2 := 1868) rfl rfl ?_
    refine g_putRF (pc := 131) X Ix fl_X12_41 ocX12 (by omega) rfl rfl rfl dX12_init_131 ?_
    have w52 : Wf (12) (uR (clr (uR (clr (uR (clr (uR (clr (uR (clr (uR (clr (uR (clr (uR (clr (uR (clr (uR (clr (uR (uI (uI (uI (uI (uI (uI (uI (uI (clr m 1) 1 0 (-1)) 1 1 (-1)) 1 2 (-1)) 1 3 (-1)) 1 4 (-1)) 1 5 (-1)) 1 6 (-1)) 1 7 (-1)) 0 2 (some 1)) 2) 0 3 (some 2)) 3) 0 4 (some 3)) 4) 0 5 (some 4)) 5) 0 6 (some 5)) 6) 0 8 (some 6)) 7) 0 9 (some 7)) 8) 0 19 (some 8)) 9) 0 20 (some 9)) 10) 0 21 (some 10)) 11) 0 22 (some 11)) := wf_uR w51 (by omega)
    refine g_aload_n (pc := 134) X dX12_init_134 rfl 0 rfl ?_
    refine g_bipush (v := (9 : Int32)) (pc := 135) X dX12_init_135 (by decide) ?_
    refine g_newJ (pc := 137) X ac_long rfl (by decide) (by decide) (by decide) w52 (by decide) (by decide) dX12_init_137 (fun ad53 hA54 => ?_)
    rw [← hA54 0 (by omega)]
    have w55 : Wf (13) (clr (uR (clr (uR (clr (uR (clr (uR (clr (uR (clr (uR (clr (uR (clr (uR (clr (uR (clr (uR (clr (uR (uI (uI (uI (uI (uI (uI (uI (uI (clr m 1) 1 0 (-1)) 1 1 (-1)) 1 2 (-1)) 1 3 (-1)) 1 4 (-1)) 1 5 (-1)) 1 6 (-1)) 1 7 (-1)) 0 2 (some 1)) 2) 0 3 (some 2)) 3) 0 4 (some 3)) 4) 0 5 (some 4)) 5) 0 6 (some 5)) 6) 0 8 (some 6)) 7) 0 9 (some 7)) 8) 0 19 (some 8)) 9) 0 20 (some 9)) 10) 0 21 (some 10)) 11) 0 22 (some 11)) 12) := wf_clr w52
    refine g_cs (cs2 := 12) (ss2 := 1877) rfl rfl ?_
    refine g_putRF (pc := 139) X Ix fl_X12_44 ocX12 (by omega) rfl rfl rfl dX12_init_139 ?_
    have w56 : Wf (13) (uR (clr (uR (clr (uR (clr (uR (clr (uR (clr (uR (clr (uR (clr (uR (clr (uR (clr (uR (clr (uR (clr (uR (uI (uI (uI (uI (uI (uI (uI (uI (clr m 1) 1 0 (-1)) 1 1 (-1)) 1 2 (-1)) 1 3 (-1)) 1 4 (-1)) 1 5 (-1)) 1 6 (-1)) 1 7 (-1)) 0 2 (some 1)) 2) 0 3 (some 2)) 3) 0 4 (some 3)) 4) 0 5 (some 4)) 5) 0 6 (some 5)) 6) 0 8 (some 6)) 7) 0 9 (some 7)) 8) 0 19 (some 8)) 9) 0 20 (some 9)) 10) 0 21 (some 10)) 11) 0 22 (some 11)) 12) 0 23 (some 12)) := wf_uR w55 (by omega)
    refine g_aload_n (pc := 142) X dX12_init_142 rfl 0 rfl ?_
    refine g_iconst (v := (2 : Int32)) (pc := 143) X dX12_init_143 (by decide) ?_
    refine g_newZ (pc := 144) X ac_boolean rfl (by decide) (by decide) (by decide) w56 (by decide) (by decide) dX12_init_144 (fun ad57 hA58 => ?_)
    rw [← hA58 0 (by omega)]
    have w59 : Wf (14) (clr (uR (clr (uR (clr (uR (clr (uR (clr (uR (clr (uR (clr (uR (clr (uR (clr (uR (clr (uR (clr (uR (clr (uR (uI (uI (uI (uI (uI (uI (uI (uI (clr m 1) 1 0 (-1)) 1 1 (-1)) 1 2 (-1)) 1 3 (-1)) 1 4 (-1)) 1 5 (-1)) 1 6 (-1)) 1 7 (-1)) 0 2 (some 1)) 2) 0 3 (some 2)) 3) 0 4 (some 3)) 4) 0 5 (some 4)) 5) 0 6 (some 5)) 6) 0 8 (some 6)) 7) 0 9 (some 7)) 8) 0 19 (some 8)) 9) 0 20 (some 9)) 10) 0 21 (some 10)) 11) 0 22 (some 11)) 12) 0 23 (some 12)) 13) := wf_clr w56
    refine g_cs (cs2 := 13) (ss2 := 1879) rfl rfl ?_
    refine g_putRF (pc := 146) X Ix fl_X12_47 ocX12 (by omega) rfl rfl rfl dX12_init_146 ?_
    have w60 : Wf (14) (uR (clr (uR (clr (uR (clr (uR (clr (uR (clr (uR (clr (uR (clr (uR (clr (uR (clr (uR (clr (uR (clr (uR (clr (uR (uI (uI (uI (uI (uI (uI (uI (uI (clr m 1) 1 0 (-1)) 1 1 (-1)) 1 2 (-1)) 1 3 (-1)) 1 4 (-1)) 1 5 (-1)) 1 6 (-1)) 1 7 (-1)) 0 2 (some 1)) 2) 0 3 (some 2)) 3) 0 4 (some 3)) 4) 0 5 (some 4)) 5) 0 6 (some 5)) 6) 0 8 (some 6)) 7) 0 9 (some 7)) 8) 0 19 (some 8)) 9) 0 20 (some 9)) 10) 0 21 (some 10)) 11) 0 22 (some 11)) 12) 0 23 (some 12)) 13) 0 26 (some 13)) := wf_uR w59 (by omega)
    refine g_aload_n (pc := 149) X dX12_init_149 rfl 0 rfl ?_
    refine g_sipush (v := (412 : Int32)) (pc := 150) X dX12_init_150 (by decide) ?_
    refine g_newI (pc := 153) X ac_int rfl (by decide) (by decide) (by decide) w60 (by decide) (by decide) dX12_init_153 (fun ad61 hA62 => ?_)
    rw [← hA62 0 (by omega)]
    have w63 : Wf (15) (clr (uR (clr (uR (clr (uR (clr (uR (clr (uR (clr (uR (clr (uR (clr (uR (clr (uR (clr (uR (clr (uR (clr (uR (clr (uR (uI (uI (uI (uI (uI (uI (uI (uI (clr m 1) 1 0 (-1)) 1 1 (-1)) 1 2 (-1)) 1 3 (-1)) 1 4 (-1)) 1 5 (-1)) 1 6 (-1)) 1 7 (-1)) 0 2 (some 1)) 2) 0 3 (some 2)) 3) 0 4 (some 3)) 4) 0 5 (some 4)) 5) 0 6 (some 5)) 6) 0 8 (some 6)) 7) 0 9 (some 7)) 8) 0 19 (some 8)) 9) 0 20 (some 9)) 10) 0 21 (some 10)) 11) 0 22 (some 11)) 12) 0 23 (some 12)) 13) 0 26 (some 13)) 14) := wf_clr w60
    refine g_cs (cs2 := 14) (ss2 := 2291) rfl rfl ?_
    refine g_putRF (pc := 155) X Ix fl_X12_51 ocX12 (by omega) rfl rfl rfl dX12_init_155 ?_
    have w64 : Wf (15) (uR (clr (uR (clr (uR (clr (uR (clr (uR (clr (uR (clr (uR (clr (uR (clr (uR (clr (uR (clr (uR (clr (uR (clr (uR (clr (uR (uI (uI (uI (uI (uI (uI (uI (uI (clr m 1) 1 0 (-1)) 1 1 (-1)) 1 2 (-1)) 1 3 (-1)) 1 4 (-1)) 1 5 (-1)) 1 6 (-1)) 1 7 (-1)) 0 2 (some 1)) 2) 0 3 (some 2)) 3) 0 4 (some 3)) 4) 0 5 (some 4)) 5) 0 6 (some 5)) 6) 0 8 (some 6)) 7) 0 9 (some 7)) 8) 0 19 (some 8)) 9) 0 20 (some 9)) 10) 0 21 (some 10)) 11) 0 22 (some 11)) 12) 0 23 (some 12)) 13) 0 26 (some 13)) 14) 0 27 (some 14)) := wf_uR w63 (by omega)
    refine g_aload_n (pc := 158) X dX12_init_158 rfl 0 rfl ?_
    refine g_bipush (v := (16 : Int32)) (pc := 159) X dX12_init_159 (by decide) ?_
    refine g_newI (pc := 161) X ac_int rfl (by decide) (by decide) (by decide) w64 (by decide) (by decide) dX12_init_161 (fun ad65 hA66 => ?_)
    rw [← hA66 0 (by omega)]
    have w67 : Wf (16) (clr (uR (clr (uR (clr (uR (clr (uR (clr (uR (clr (uR (clr (uR (clr (uR (clr (uR (clr (uR (clr (uR (clr (uR (clr (uR (clr (uR (uI (uI (uI (uI (uI (uI (uI (uI (clr m 1) 1 0 (-1)) 1 1 (-1)) 1 2 (-1)) 1 3 (-1)) 1 4 (-1)) 1 5 (-1)) 1 6 (-1)) 1 7 (-1)) 0 2 (some 1)) 2) 0 3 (some 2)) 3) 0 4 (some 3)) 4) 0 5 (some 4)) 5) 0 6 (some 5)) 6) 0 8 (some 6)) 7) 0 9 (some 7)) 8) 0 19 (some 8)) 9) 0 20 (some 9)) 10) 0 21 (some 10)) 11) 0 22 (some 11)) 12) 0 23 (some 12)) 13) 0 26 (some 13)) 14) 0 27 (some 14)) 15) := wf_clr w64
    refine g_cs (cs2 := 15) (ss2 := 2307) rfl rfl ?_
    refine g_putRF (pc := 163) X Ix fl_X12_54 ocX12 (by omega) rfl rfl rfl dX12_init_163 ?_
    have w68 : Wf (16) (uR (clr (uR (clr (uR (clr (uR (clr (uR (clr (uR (clr (uR (clr (uR (clr (uR (clr (uR (clr (uR (clr (uR (clr (uR (clr (uR (clr (uR (uI (uI (uI (uI (uI (uI (uI (uI (clr m 1) 1 0 (-1)) 1 1 (-1)) 1 2 (-1)) 1 3 (-1)) 1 4 (-1)) 1 5 (-1)) 1 6 (-1)) 1 7 (-1)) 0 2 (some 1)) 2) 0 3 (some 2)) 3) 0 4 (some 3)) 4) 0 5 (some 4)) 5) 0 6 (some 5)) 6) 0 8 (some 6)) 7) 0 9 (some 7)) 8) 0 19 (some 8)) 9) 0 20 (some 9)) 10) 0 21 (some 10)) 11) 0 22 (some 11)) 12) 0 23 (some 12)) 13) 0 26 (some 13)) 14) 0 27 (some 14)) 15) 0 28 (some 15)) := wf_uR w67 (by omega)
    refine g_aload_n (pc := 166) X dX12_init_166 rfl 0 rfl ?_
    refine g_bipush (v := (16 : Int32)) (pc := 167) X dX12_init_167 (by decide) ?_
    refine g_newI (pc := 169) X ac_int rfl (by decide) (by decide) (by decide) w68 (by decide) (by decide) dX12_init_169 (fun ad69 hA70 => ?_)
    rw [← hA70 0 (by omega)]
    have w71 : Wf (17) (clr (uR (clr (uR (clr (uR (clr (uR (clr (uR (clr (uR (clr (uR (clr (uR (clr (uR (clr (uR (clr (uR (clr (uR (clr (uR (clr (uR (clr (uR (uI (uI (uI (uI (uI (uI (uI (uI (clr m 1) 1 0 (-1)) 1 1 (-1)) 1 2 (-1)) 1 3 (-1)) 1 4 (-1)) 1 5 (-1)) 1 6 (-1)) 1 7 (-1)) 0 2 (some 1)) 2) 0 3 (some 2)) 3) 0 4 (some 3)) 4) 0 5 (some 4)) 5) 0 6 (some 5)) 6) 0 8 (some 6)) 7) 0 9 (some 7)) 8) 0 19 (some 8)) 9) 0 20 (some 9)) 10) 0 21 (some 10)) 11) 0 22 (some 11)) 12) 0 23 (some 12)) 13) 0 26 (some 13)) 14) 0 27 (some 14)) 15) 0 28 (some 15)) 16) := wf_clr w68
    refine g_cs (cs2 := 16) (ss2 := 2323) rfl rfl ?_
    refine g_putRF (pc := 171) X Ix fl_X12_57 ocX12 (by omega) rfl rfl rfl dX12_init_171 ?_
    have w72 : Wf (17) (uR (clr (uR (clr (uR (clr (uR (clr (uR (clr (uR (clr (uR (clr (uR (clr (uR (clr (uR (clr (uR (clr (uR (clr (uR (clr (uR (clr (uR (clr (uR (uI (uI (uI (uI (uI (uI (uI (uI (clr m 1) 1 0 (-1)) 1 1 (-1)) 1 2 (-1)) 1 3 (-1)) 1 4 (-1)) 1 5 (-1)) 1 6 (-1)) 1 7 (-1)) 0 2 (some 1)) 2) 0 3 (some 2)) 3) 0 4 (some 3)) 4) 0 5 (some 4)) 5) 0 6 (some 5)) 6) 0 8 (some 6)) 7) 0 9 (some 7)) 8) 0 19 (some 8)) 9) 0 20 (some 9)) 10) 0 21 (some 10)) 11) 0 22 (some 11)) 12) 0 23 (some 12)) 13) 0 26 (some 13)) 14) 0 27 (some 14)) 15) 0 28 (some 15)) 16) 0 29 (some 16)) := wf_uR w71 (by omega)
    exact hret ad69 _ _ (fun i hi => by rw [hA70 i (by omega), hA66 i (by omega), hA62 i (by omega), hA58 i (by omega), hA54 i (by omega), hA50 i (by omega), hA46 i (by omega), hA42 i (by omega), hA38 i (by omega), hA34 i (by omega), hA30 i (by omega), hA26 i (by omega), hA22 i (by omega), hA18 i (by omega), hA14 i (by omega), hA2 i (by omega)]) dX12_init_174
  · unfold fX12_init
    have w3 : Wf (2) (clr m 1) := wf_clr hw
    have w4 : Wf (2) (uI (clr m 1) 1 0 (-1)) := wf_uI w3
    have w5 : Wf (2) (uI (uI (clr m 1) 1 0 (-1)) 1 1 (-1)) := wf_uI w4
    have w6 : Wf (2) (uI (uI (uI (clr m 1) 1 0 (-1)) 1 1 (-1)) 1 2 (-1)) := wf_uI w5
    have w7 : Wf (2) (uI (uI (uI (uI (clr m 1) 1 0 (-1)) 1 1 (-1)) 1 2 (-1)) 1 3 (-1)) := wf_uI w6
    have w8 : Wf (2) (uI (uI (uI (uI (uI (clr m 1) 1 0 (-1)) 1 1 (-1)) 1 2 (-1)) 1 3 (-1)) 1 4 (-1)) := wf_uI w7
    have w9 : Wf (2) (uI (uI (uI (uI (uI (uI (clr m 1) 1 0 (-1)) 1 1 (-1)) 1 2 (-1)) 1 3 (-1)) 1 4 (-1)) 1 5 (-1)) := wf_uI w8
    have w10 : Wf (2) (uI (uI (uI (uI (uI (uI (uI (clr m 1) 1 0 (-1)) 1 1 (-1)) 1 2 (-1)) 1 3 (-1)) 1 4 (-1)) 1 5 (-1)) 1 6 (-1)) := wf_uI w9
    have w11 : Wf (2) (uI (uI (uI (uI (uI (uI (uI (uI (clr m 1) 1 0 (-1)) 1 1 (-1)) 1 2 (-1)) 1 3 (-1)) 1 4 (-1)) 1 5 (-1)) 1 6 (-1)) 1 7 (-1)) := wf_uI w10
    have w12 : Wf (2) (uR (uI (uI (uI (uI (uI (uI (uI (uI (clr m 1) 1 0 (-1)) 1 1 (-1)) 1 2 (-1)) 1 3 (-1)) 1 4 (-1)) 1 5 (-1)) 1 6 (-1)) 1 7 (-1)) 0 2 (some 1)) := wf_uR w11 (by omega)
    have w15 : Wf (3) (clr (uR (uI (uI (uI (uI (uI (uI (uI (uI (clr m 1) 1 0 (-1)) 1 1 (-1)) 1 2 (-1)) 1 3 (-1)) 1 4 (-1)) 1 5 (-1)) 1 6 (-1)) 1 7 (-1)) 0 2 (some 1)) 2) := wf_clr w12
    have w16 : Wf (3) (uR (clr (uR (uI (uI (uI (uI (uI (uI (uI (uI (clr m 1) 1 0 (-1)) 1 1 (-1)) 1 2 (-1)) 1 3 (-1)) 1 4 (-1)) 1 5 (-1)) 1 6 (-1)) 1 7 (-1)) 0 2 (some 1)) 2) 0 3 (some 2)) := wf_uR w15 (by omega)
    have w19 : Wf (4) (clr (uR (clr (uR (uI (uI (uI (uI (uI (uI (uI (uI (clr m 1) 1 0 (-1)) 1 1 (-1)) 1 2 (-1)) 1 3 (-1)) 1 4 (-1)) 1 5 (-1)) 1 6 (-1)) 1 7 (-1)) 0 2 (some 1)) 2) 0 3 (some 2)) 3) := wf_clr w16
    have w20 : Wf (4) (uR (clr (uR (clr (uR (uI (uI (uI (uI (uI (uI (uI (uI (clr m 1) 1 0 (-1)) 1 1 (-1)) 1 2 (-1)) 1 3 (-1)) 1 4 (-1)) 1 5 (-1)) 1 6 (-1)) 1 7 (-1)) 0 2 (some 1)) 2) 0 3 (some 2)) 3) 0 4 (some 3)) := wf_uR w19 (by omega)
    have w23 : Wf (5) (clr (uR (clr (uR (clr (uR (uI (uI (uI (uI (uI (uI (uI (uI (clr m 1) 1 0 (-1)) 1 1 (-1)) 1 2 (-1)) 1 3 (-1)) 1 4 (-1)) 1 5 (-1)) 1 6 (-1)) 1 7 (-1)) 0 2 (some 1)) 2) 0 3 (some 2)) 3) 0 4 (some 3)) 4) := wf_clr w20
    have w24 : Wf (5) (uR (clr (uR (clr (uR (clr (uR (uI (uI (uI (uI (uI (uI (uI (uI (clr m 1) 1 0 (-1)) 1 1 (-1)) 1 2 (-1)) 1 3 (-1)) 1 4 (-1)) 1 5 (-1)) 1 6 (-1)) 1 7 (-1)) 0 2 (some 1)) 2) 0 3 (some 2)) 3) 0 4 (some 3)) 4) 0 5 (some 4)) := wf_uR w23 (by omega)
    have w27 : Wf (6) (clr (uR (clr (uR (clr (uR (clr (uR (uI (uI (uI (uI (uI (uI (uI (uI (clr m 1) 1 0 (-1)) 1 1 (-1)) 1 2 (-1)) 1 3 (-1)) 1 4 (-1)) 1 5 (-1)) 1 6 (-1)) 1 7 (-1)) 0 2 (some 1)) 2) 0 3 (some 2)) 3) 0 4 (some 3)) 4) 0 5 (some 4)) 5) := wf_clr w24
    have w28 : Wf (6) (uR (clr (uR (clr (uR (clr (uR (clr (uR (uI (uI (uI (uI (uI (uI (uI (uI (clr m 1) 1 0 (-1)) 1 1 (-1)) 1 2 (-1)) 1 3 (-1)) 1 4 (-1)) 1 5 (-1)) 1 6 (-1)) 1 7 (-1)) 0 2 (some 1)) 2) 0 3 (some 2)) 3) 0 4 (some 3)) 4) 0 5 (some 4)) 5) 0 6 (some 5)) := wf_uR w27 (by omega)
    have w31 : Wf (7) (clr (uR (clr (uR (clr (uR (clr (uR (clr (uR (uI (uI (uI (uI (uI (uI (uI (uI (clr m 1) 1 0 (-1)) 1 1 (-1)) 1 2 (-1)) 1 3 (-1)) 1 4 (-1)) 1 5 (-1)) 1 6 (-1)) 1 7 (-1)) 0 2 (some 1)) 2) 0 3 (some 2)) 3) 0 4 (some 3)) 4) 0 5 (some 4)) 5) 0 6 (some 5)) 6) := wf_clr w28
    have w32 : Wf (7) (uR (clr (uR (clr (uR (clr (uR (clr (uR (clr (uR (uI (uI (uI (uI (uI (uI (uI (uI (clr m 1) 1 0 (-1)) 1 1 (-1)) 1 2 (-1)) 1 3 (-1)) 1 4 (-1)) 1 5 (-1)) 1 6 (-1)) 1 7 (-1)) 0 2 (some 1)) 2) 0 3 (some 2)) 3) 0 4 (some 3)) 4) 0 5 (some 4)) 5) 0 6 (some 5)) 6) 0 8 (some 6)) := wf_uR w31 (by omega)
    have w35 : Wf (8) (clr (uR (clr (uR (clr (uR (clr (uR (clr (uR (clr (uR (uI (uI (uI (uI (uI (uI (uI (uI (clr m 1) 1 0 (-1)) 1 1 (-1)) 1 2 (-1)) 1 3 (-1)) 1 4 (-1)) 1 5 (-1)) 1 6 (-1)) 1 7 (-1)) 0 2 (some 1)) 2) 0 3 (some 2)) 3) 0 4 (some 3)) 4) 0 5 (some 4)) 5) 0 6 (some 5)) 6) 0 8 (some 6)) 7) := wf_clr w32
    have w36 : Wf (8) (uR (clr (uR (clr (uR (clr (uR (clr (uR (clr (uR (clr (uR (uI (uI (uI (uI (uI (uI (uI (uI (clr m 1) 1 0 (-1)) 1 1 (-1)) 1 2 (-1)) 1 3 (-1)) 1 4 (-1)) 1 5 (-1)) 1 6 (-1)) 1 7 (-1)) 0 2 (some 1)) 2) 0 3 (some 2)) 3) 0 4 (some 3)) 4) 0 5 (some 4)) 5) 0 6 (some 5)) 6) 0 8 (some 6)) 7) 0 9 (some 7)) := wf_uR w35 (by omega)
    have w39 : Wf (9) (clr (uR (clr (uR (clr (uR (clr (uR (clr (uR (clr (uR (clr (uR (uI (uI (uI (uI (uI (uI (uI (uI (clr m 1) 1 0 (-1)) 1 1 (-1)) 1 2 (-1)) 1 3 (-1)) 1 4 (-1)) 1 5 (-1)) 1 6 (-1)) 1 7 (-1)) 0 2 (some 1)) 2) 0 3 (some 2)) 3) 0 4 (some 3)) 4) 0 5 (some 4)) 5) 0 6 (some 5)) 6) 0 8 (some 6)) 7) 0 9 (some 7)) 8) := wf_clr w36
    have w40 : Wf (9) (uR (clr (uR (clr (uR (clr (uR (clr (uR (clr (uR (clr (uR (clr (uR (uI (uI (uI (uI (uI (uI (uI (uI (clr m 1) 1 0 (-1)) 1 1 (-1)) 1 2 (-1)) 1 3 (-1)) 1 4 (-1)) 1 5 (-1)) 1 6 (-1)) 1 7 (-1)) 0 2 (some 1)) 2) 0 3 (some 2)) 3) 0 4 (some 3)) 4) 0 5 (some 4)) 5) 0 6 (some 5)) 6) 0 8 (some 6)) 7) 0 9 (some 7)) 8) 0 19 (some 8)) := wf_uR w39 (by omega)
    have w43 : Wf (10) (clr (uR (clr (uR (clr (uR (clr (uR (clr (uR (clr (uR (clr (uR (clr (uR (uI (uI (uI (uI (uI (uI (uI (uI (clr m 1) 1 0 (-1)) 1 1 (-1)) 1 2 (-1)) 1 3 (-1)) 1 4 (-1)) 1 5 (-1)) 1 6 (-1)) 1 7 (-1)) 0 2 (some 1)) 2) 0 3 (some 2)) 3) 0 4 (some 3)) 4) 0 5 (some 4)) 5) 0 6 (some 5)) 6) 0 8 (some 6)) 7) 0 9 (some 7)) 8) 0 19 (some 8)) 9) := wf_clr w40
    have w44 : Wf (10) (uR (clr (uR (clr (uR (clr (uR (clr (uR (clr (uR (clr (uR (clr (uR (clr (uR (uI (uI (uI (uI (uI (uI (uI (uI (clr m 1) 1 0 (-1)) 1 1 (-1)) 1 2 (-1)) 1 3 (-1)) 1 4 (-1)) 1 5 (-1)) 1 6 (-1)) 1 7 (-1)) 0 2 (some 1)) 2) 0 3 (some 2)) 3) 0 4 (some 3)) 4) 0 5 (some 4)) 5) 0 6 (some 5)) 6) 0 8 (some 6)) 7) 0 9 (some 7)) 8) 0 19 (some 8)) 9) 0 20 (some 9)) := wf_uR w43 (by omega)
    have w47 : Wf (11) (clr (uR (clr (uR (clr (uR (clr (uR (clr (uR (clr (uR (clr (uR (clr (uR (clr (uR (uI (uI (uI (uI (uI (uI (uI (uI (clr m 1) 1 0 (-1)) 1 1 (-1)) 1 2 (-1)) 1 3 (-1)) 1 4 (-1)) 1 5 (-1)) 1 6 (-1)) 1 7 (-1)) 0 2 (some 1)) 2) 0 3 (some 2)) 3) 0 4 (some 3)) 4) 0 5 (some 4)) 5) 0 6 (some 5)) 6) 0 8 (some 6)) 7) 0 9 (some 7)) 8) 0 19 (some 8)) 9) 0 20 (some 9)) 10) := wf_clr w44
    have w48 : Wf (11) (uR (clr (uR (clr (uR (clr (uR (clr (uR (clr (uR (clr (uR (clr (uR (clr (uR (clr (uR (uI (uI (uI (uI (uI (uI (uI (uI (clr m 1) 1 0 (-1)) 1 1 (-1)) 1 2 (-1)) 1 3 (-1)) 1 4 (-1)) 1 5 (-1)) 1 6 (-1)) 1 7 (-1)) 0 2 (some 1)) 2) 0 3 (some 2)) 3) 0 4 (some 3)) 4) 0 5 (some 4)) 5) 0 6 (some 5)) 6) 0 8 (some 6)) 7) 0 9 (some 7)) 8) 0 19 (some 8)) 9) 0 20 (some 9)) 10) 0 21 (some 10)) := wf_uR w47 (by omega)
    have w51 : Wf (12) (clr (uR (clr (uR (clr (uR (clr (uR (clr (uR (clr (uR (clr (uR (clr (uR (clr (uR (clr (uR (uI (uI (uI (uI (uI (uI (uI (uI (clr m 1) 1 0 (-1)) 1 1 (-1)) 1 2 (-1)) 1 3 (-1)) 1 4 (-1)) 1 5 (-1)) 1 6 (-1)) 1 7 (-1)) 0 2 (some 1)) 2) 0 3 (some 2)) 3) 0 4 (some 3)) 4) 0 5 (some 4)) 5) 0 6 (some 5)) 6) 0 8 (some 6)) 7) 0 9 (some 7)) 8) 0 19 (some 8)) 9) 0 20 (some 9)) 10) 0 21 (some 10)) 11) := wf_clr w48
    have w52 : Wf (12) (uR (clr (uR (clr (uR (clr (uR (clr (uR (clr (uR (clr (uR (clr (uR (clr (uR (clr (uR (clr (uR (uI (uI (uI (uI (uI (uI (uI (uI (clr m 1) 1 0 (-1)) 1 1 (-1)) 1 2 (-1)) 1 3 (-1)) 1 4 (-1)) 1 5 (-1)) 1 6 (-1)) 1 7 (-1)) 0 2 (some 1)) 2) 0 3 (some 2)) 3) 0 4 (some 3)) 4) 0 5 (some 4)) 5) 0 6 (some 5)) 6) 0 8 (some 6)) 7) 0 9 (some 7)) 8) 0 19 (some 8)) 9) 0 20 (some 9)) 10) 0 21 (some 10)) 11) 0 22 (some 11)) := wf_uR w51 (by omega)
    have w55 : Wf (13) (clr (uR (clr (uR (clr (uR (clr (uR (clr (uR (clr (uR (clr (uR (clr (uR (clr (uR (clr (uR (clr (uR (uI (uI (uI (uI (uI (uI (uI (uI (clr m 1) 1 0 (-1)) 1 1 (-1)) 1 2 (-1)) 1 3 (-1)) 1 4 (-1)) 1 5 (-1)) 1 6 (-1)) 1 7 (-1)) 0 2 (some 1)) 2) 0 3 (some 2)) 3) 0 4 (some 3)) 4) 0 5 (some 4)) 5) 0 6 (some 5)) 6) 0 8 (some 6)) 7) 0 9 (some 7)) 8) 0 19 (some 8)) 9) 0 20 (some 9)) 10) 0 21 (some 10)) 11) 0 22 (some 11)) 12) := wf_clr w52
    have w56 : Wf (13) (uR (clr (uR (clr (uR (clr (uR (clr (uR (clr (uR (clr (uR (clr (uR (clr (uR (clr (uR (clr (uR (clr (uR (uI (uI (uI (uI (uI (uI (uI (uI (clr m 1) 1 0 (-1)) 1 1 (-1)) 1 2 (-1)) 1 3 (-1)) 1 4 (-1)) 1 5 (-1)) 1 6 (-1)) 1 7 (-1)) 0 2 (some 1)) 2) 0 3 (some 2)) 3) 0 4 (some 3)) 4) 0 5 (some 4)) 5) 0 6 (some 5)) 6) 0 8 (some 6)) 7) 0 9 (some 7)) 8) 0 19 (some 8)) 9) 0 20 (some 9)) 10) 0 21 (some 10)) 11) 0 22 (some 11)) 12) 0 23 (some 12)) := wf_uR w55 (by omega)
    have w59 : Wf (14) (clr (uR (clr (uR (clr (uR (clr (uR (clr (uR (clr (uR (clr (uR (clr (uR (clr (uR (clr (uR (clr (uR (clr (uR (uI (uI (uI (uI (uI (uI (uI (uI (clr m 1) 1 0 (-1)) 1 1 (-1)) 1 2 (-1)) 1 3 (-1)) 1 4 (-1)) 1 5 (-1)) 1 6 (-1)) 1 7 (-1)) 0 2 (some 1)) 2) 0 3 (some 2)) 3) 0 4 (some 3)) 4) 0 5 (some 4)) 5) 0 6 (some 5)) 6) 0 8 (some 6)) 7) 0 9 (some 7)) 8) 0 19 (some 8)) 9) 0 20 (some 9)) 10) 0 21 (some 10)) 11) 0 22 (some 11)) 12) 0 23 (some 12)) 13) := wf_clr w56
    have w60 : Wf (14) (uR (clr (uR (clr (uR (clr (uR (clr (uR (clr (uR (clr (uR (clr (uR (clr (uR (clr (uR (clr (uR (clr (uR (clr (uR (uI (uI (uI (uI (uI (uI (uI (uI (clr m 1) 1 0 (-1)) 1 1 (-1)) 1 2 (-1)) 1 3 (-1)) 1 4 (-1)) 1 5 (-1)) 1 6 (-1)) 1 7 (-1)) 0 2 (some 1)) 2) 0 3 (some 2)) 3) 0 4 (some 3)) 4) 0 5 (some 4)) 5) 0 6 (some 5)) 6) 0 8 (some 6)) 7) 0 9 (some 7)) 8) 0 19 (some 8)) 9) 0 20 (some 9)) 10) 0 21 (some 10)) 11) 0 22 (some 11)) 12) 0 23 (some 12)) 13) 0 26 (some 13)) := wf_uR w59 (by omega)
    have w63 : Wf (15) (clr (uR (clr (uR (clr (uR (clr (uR (clr (uR (clr (uR (clr (uR (clr (uR (clr (uR (clr (uR (clr (uR (clr (uR (clr (uR (uI (uI (uI (uI (uI (uI (uI (uI (clr m 1) 1 0 (-1)) 1 1 (-1)) 1 2 (-1)) 1 3 (-1)) 1 4 (-1)) 1 5 (-1)) 1 6 (-1)) 1 7 (-1)) 0 2 (some 1)) 2) 0 3 (some 2)) 3) 0 4 (some 3)) 4) 0 5 (some 4)) 5) 0 6 (some 5)) 6) 0 8 (some 6)) 7) 0 9 (some 7)) 8) 0 19 (some 8)) 9) 0 20 (some 9)) 10) 0 21 (some 10)) 11) 0 22 (some 11)) 12) 0 23 (some 12)) 13) 0 26 (some 13)) 14) := wf_clr w60
    have w64 : Wf (15) (uR (clr (uR (clr (uR (clr (uR (clr (uR (clr (uR (clr (uR (clr (uR (clr (uR (clr (uR (clr (uR (clr (uR (clr (uR (clr (uR (uI (uI (uI (uI (uI (uI (uI (uI (clr m 1) 1 0 (-1)) 1 1 (-1)) 1 2 (-1)) 1 3 (-1)) 1 4 (-1)) 1 5 (-1)) 1 6 (-1)) 1 7 (-1)) 0 2 (some 1)) 2) 0 3 (some 2)) 3) 0 4 (some 3)) 4) 0 5 (some 4)) 5) 0 6 (some 5)) 6) 0 8 (some 6)) 7) 0 9 (some 7)) 8) 0 19 (some 8)) 9) 0 20 (some 9)) 10) 0 21 (some 10)) 11) 0 22 (some 11)) 12) 0 23 (some 12)) 13) 0 26 (some 13)) 14) 0 27 (some 14)) := wf_uR w63 (by omega)
    have w67 : Wf (16) (clr (uR (clr (uR (clr (uR (clr (uR (clr (uR (clr (uR (clr (uR (clr (uR (clr (uR (clr (uR (clr (uR (clr (uR (clr (uR (clr (uR (uI (uI (uI (uI (uI (uI (uI (uI (clr m 1) 1 0 (-1)) 1 1 (-1)) 1 2 (-1)) 1 3 (-1)) 1 4 (-1)) 1 5 (-1)) 1 6 (-1)) 1 7 (-1)) 0 2 (some 1)) 2) 0 3 (some 2)) 3) 0 4 (some 3)) 4) 0 5 (some 4)) 5) 0 6 (some 5)) 6) 0 8 (some 6)) 7) 0 9 (some 7)) 8) 0 19 (some 8)) 9) 0 20 (some 9)) 10) 0 21 (some 10)) 11) 0 22 (some 11)) 12) 0 23 (some 12)) 13) 0 26 (some 13)) 14) 0 27 (some 14)) 15) := wf_clr w64
    have w68 : Wf (16) (uR (clr (uR (clr (uR (clr (uR (clr (uR (clr (uR (clr (uR (clr (uR (clr (uR (clr (uR (clr (uR (clr (uR (clr (uR (clr (uR (clr (uR (uI (uI (uI (uI (uI (uI (uI (uI (clr m 1) 1 0 (-1)) 1 1 (-1)) 1 2 (-1)) 1 3 (-1)) 1 4 (-1)) 1 5 (-1)) 1 6 (-1)) 1 7 (-1)) 0 2 (some 1)) 2) 0 3 (some 2)) 3) 0 4 (some 3)) 4) 0 5 (some 4)) 5) 0 6 (some 5)) 6) 0 8 (some 6)) 7) 0 9 (some 7)) 8) 0 19 (some 8)) 9) 0 20 (some 9)) 10) 0 21 (some 10)) 11) 0 22 (some 11)) 12) 0 23 (some 12)) 13) 0 26 (some 13)) 14) 0 27 (some 14)) 15) 0 28 (some 15)) := wf_uR w67 (by omega)
    have w71 : Wf (17) (clr (uR (clr (uR (clr (uR (clr (uR (clr (uR (clr (uR (clr (uR (clr (uR (clr (uR (clr (uR (clr (uR (clr (uR (clr (uR (clr (uR (clr (uR (uI (uI (uI (uI (uI (uI (uI (uI (clr m 1) 1 0 (-1)) 1 1 (-1)) 1 2 (-1)) 1 3 (-1)) 1 4 (-1)) 1 5 (-1)) 1 6 (-1)) 1 7 (-1)) 0 2 (some 1)) 2) 0 3 (some 2)) 3) 0 4 (some 3)) 4) 0 5 (some 4)) 5) 0 6 (some 5)) 6) 0 8 (some 6)) 7) 0 9 (some 7)) 8) 0 19 (some 8)) 9) 0 20 (some 9)) 10) 0 21 (some 10)) 11) 0 22 (some 11)) 12) 0 23 (some 12)) 13) 0 26 (some 13)) 14) 0 27 (some 14)) 15) 0 28 (some 15)) 16) := wf_clr w68
    have w72 : Wf (17) (uR (clr (uR (clr (uR (clr (uR (clr (uR (clr (uR (clr (uR (clr (uR (clr (uR (clr (uR (clr (uR (clr (uR (clr (uR (clr (uR (clr (uR (clr (uR (uI (uI (uI (uI (uI (uI (uI (uI (clr m 1) 1 0 (-1)) 1 1 (-1)) 1 2 (-1)) 1 3 (-1)) 1 4 (-1)) 1 5 (-1)) 1 6 (-1)) 1 7 (-1)) 0 2 (some 1)) 2) 0 3 (some 2)) 3) 0 4 (some 3)) 4) 0 5 (some 4)) 5) 0 6 (some 5)) 6) 0 8 (some 6)) 7) 0 9 (some 7)) 8) 0 19 (some 8)) 9) 0 20 (some 9)) 10) 0 21 (some 10)) 11) 0 22 (some 11)) 12) 0 23 (some 12)) 13) 0 26 (some 13)) 14) 0 27 (some 14)) 15) 0 28 (some 15)) 16) 0 29 (some 16)) := wf_uR w71 (by omega)
    exact w72

