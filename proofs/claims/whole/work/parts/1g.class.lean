noncomputable def fX9_become (v0 : Nat) (v1 : Nat) (m : Mem) : Option Mem := gp (KC v1 = 9) (gp (KC v0 = 9) (lt1 (uI m v0 3 (m.1 v1 3)) (fun m3 => lt1 (uI m3 v0 4 (m3.1 v1 4)) (fun m5 => lt1 (uI m5 v0 5 (m5.1 v1 5)) (fun m7 => lt1 (uI m7 v0 6 (m7.1 v1 6)) (fun m9 => bnd (m9.2.2 v1 0) (fun q11 => bnd (m9.2.2 v0 0) (fun q13 => gp (KC q11 = 14) (gp (KC q13 = 14) (gp (¬ (0 : Int32) < 0) (gp (¬ (0 : Int32) < 0) (gp (¬ (8 : Int32) < 0) (gp ((0 : Int32).toNatClampNeg + (8 : Int32).toNatClampNeg ≤ NC q11) (gp ((0 : Int32).toNatClampNeg + (8 : Int32).toNatClampNeg ≤ NC q13) (lt1 (uX m9 q13 (va_cpy (m9.1 q11) (m9.1 q13) (0 : Int32).toNatClampNeg (0 : Int32).toNatClampNeg (8 : Int32).toNatClampNeg)) (fun m22 => bnd (m22.2.2 v1 1) (fun q24 => bnd (m22.2.2 v0 1) (fun q26 => gp (KC q24 = 14) (gp (KC q26 = 14) (gp (¬ (0 : Int32) < 0) (gp (¬ (0 : Int32) < 0) (gp (¬ (4 : Int32) < 0) (gp ((0 : Int32).toNatClampNeg + (4 : Int32).toNatClampNeg ≤ NC q24) (gp ((0 : Int32).toNatClampNeg + (4 : Int32).toNatClampNeg ≤ NC q26) (lt1 (uX m22 q26 (va_cpy (m22.1 q24) (m22.1 q26) (0 : Int32).toNatClampNeg (0 : Int32).toNatClampNeg (4 : Int32).toNatClampNeg)) (fun m35 => bnd (m35.2.2 v1 2) (fun q37 => bnd (m35.2.2 v0 2) (fun q39 => gp (KC q37 = 14) (gp (KC q39 = 14) (gp (¬ (0 : Int32) < 0) (gp (¬ (0 : Int32) < 0) (gp (¬ (4 : Int32) < 0) (gp ((0 : Int32).toNatClampNeg + (4 : Int32).toNatClampNeg ≤ NC q37) (gp ((0 : Int32).toNatClampNeg + (4 : Int32).toNatClampNeg ≤ NC q39) (lt1 (uX m35 q39 (va_cpy (m35.1 q37) (m35.1 q39) (0 : Int32).toNatClampNeg (0 : Int32).toNatClampNeg (4 : Int32).toNatClampNeg)) (fun m48 => some m48))))))))))))))))))))))))))))))))))))
set_option maxHeartbeats 4000000 in
set_option maxRecDepth 100000 in
theorem cX9_become_ct (z : Zx) (ad : Nat → Nat) (v0 : Nat) (v1 : Nat) (m m2 : Mem) (hf : fX9_become v0 v1 m = some m2) : CtV z wC yX9_become cX9_become 2 none (Rm 2) ad 91 [.ref (ad v0), .ref (ad v1)] m m2 := by
  refine ct_ofV mi_X9_become rfl (Nat.le_of_ble_eq_true rfl) (fun x X hret => ?_)
  refine g_lv [(0, .ref (ad v0)), (1, .ref (ad v1))] [0, 1] rfl ?_
  unfold fX9_become at hf
  refine g_aload_n (pc := 0) X dX9_become_0 rfl 0 rfl ?_
  refine g_aload_n (pc := 1) X dX9_become_1 rfl 1 rfl ?_
  obtain ⟨hk1, hf⟩ := gp_some hf
  refine g_getI (pc := 2) X fl_X9_21 (KClt hk1 (by decide)) hk1 dX9_become_2 ?_
  obtain ⟨hk2, hf⟩ := gp_some hf
  refine g_putI (pc := 5) X fl_X9_21 (KClt hk2 (by decide)) hk2 rfl rfl dX9_become_5 ?_
  obtain ⟨m3, e4, hf⟩ := lt1_some hf
  refine g_mem e4 ?_
  refine g_aload_n (pc := 8) X dX9_become_8 rfl 0 rfl ?_
  refine g_aload_n (pc := 9) X dX9_become_9 rfl 1 rfl ?_
  refine g_getI (pc := 10) X fl_X9_25 (KClt hk1 (by decide)) hk1 dX9_become_10 ?_
  refine g_putI (pc := 13) X fl_X9_25 (KClt hk2 (by decide)) hk2 rfl rfl dX9_become_13 ?_
  obtain ⟨m5, e6, hf⟩ := lt1_some hf
  refine g_mem e6 ?_
  refine g_aload_n (pc := 16) X dX9_become_16 rfl 0 rfl ?_
  refine g_aload_n (pc := 17) X dX9_become_17 rfl 1 rfl ?_
  refine g_getI (pc := 18) X fl_X9_28 (KClt hk1 (by decide)) hk1 dX9_become_18 ?_
  refine g_putI (pc := 21) X fl_X9_28 (KClt hk2 (by decide)) hk2 rfl rfl dX9_become_21 ?_
  obtain ⟨m7, e8, hf⟩ := lt1_some hf
  refine g_mem e8 ?_
  refine g_aload_n (pc := 24) X dX9_become_24 rfl 0 rfl ?_
  refine g_aload_n (pc := 25) X dX9_become_25 rfl 1 rfl ?_
  refine g_getI (pc := 26) X fl_X9_31 (KClt hk1 (by decide)) hk1 dX9_become_26 ?_
  refine g_putI (pc := 29) X fl_X9_31 (KClt hk2 (by decide)) hk2 rfl rfl dX9_become_29 ?_
  obtain ⟨m9, e10, hf⟩ := lt1_some hf
  refine g_mem e10 ?_
  refine g_aload_n (pc := 32) X dX9_become_32 rfl 1 rfl ?_
  obtain ⟨q11, hr12, hf⟩ := bnd_some hf
  refine g_getR (pc := 33) X fl_X9_9 (KClt hk1 (by decide)) hk1 hr12 dX9_become_33 ?_
  refine g_iconst (v := (0 : Int32)) (pc := 36) X dX9_become_36 (by decide) ?_
  refine g_aload_n (pc := 37) X dX9_become_37 rfl 0 rfl ?_
  obtain ⟨q13, hr14, hf⟩ := bnd_some hf
  refine g_getR (pc := 38) X fl_X9_9 (KClt hk2 (by decide)) hk2 hr14 dX9_become_38 ?_
  refine g_iconst (v := (0 : Int32)) (pc := 41) X dX9_become_41 (by decide) ?_
  refine g_bipush (v := (8 : Int32)) (pc := 42) X dX9_become_42 (by decide) ?_
  obtain ⟨hk15, hf⟩ := gp_some hf
  obtain ⟨hk16, hf⟩ := gp_some hf
  obtain ⟨hc17, hf⟩ := gp_some hf
  obtain ⟨hc18, hf⟩ := gp_some hf
  obtain ⟨hc19, hf⟩ := gp_some hf
  obtain ⟨hc20, hf⟩ := gp_some hf
  obtain ⟨hc21, hf⟩ := gp_some hf
  refine g_copyi (pc := 44) X ml_X9_34 na_copy sm_copy in_sys (KClt hk15 (by decide)) hk15 (KClt hk16 (by decide)) hk16 hc17 hc18 hc19 hc20 hc21 (by decide) (by decide +kernel) dX9_become_44 ?_
  obtain ⟨m22, e23, hf⟩ := lt1_some hf
  refine g_mem e23 ?_
  refine g_aload_n (pc := 47) X dX9_become_47 rfl 1 rfl ?_
  obtain ⟨q24, hr25, hf⟩ := bnd_some hf
  refine g_getR (pc := 48) X fl_X9_15 (KClt hk1 (by decide)) hk1 hr25 dX9_become_48 ?_
  refine g_iconst (v := (0 : Int32)) (pc := 51) X dX9_become_51 (by decide) ?_
  refine g_aload_n (pc := 52) X dX9_become_52 rfl 0 rfl ?_
  obtain ⟨q26, hr27, hf⟩ := bnd_some hf
  refine g_getR (pc := 53) X fl_X9_15 (KClt hk2 (by decide)) hk2 hr27 dX9_become_53 ?_
  refine g_iconst (v := (0 : Int32)) (pc := 56) X dX9_become_56 (by decide) ?_
  refine g_iconst (v := (4 : Int32)) (pc := 57) X dX9_become_57 (by decide) ?_
  obtain ⟨hk28, hf⟩ := gp_some hf
  obtain ⟨hk29, hf⟩ := gp_some hf
  obtain ⟨hc30, hf⟩ := gp_some hf
  obtain ⟨hc31, hf⟩ := gp_some hf
  obtain ⟨hc32, hf⟩ := gp_some hf
  obtain ⟨hc33, hf⟩ := gp_some hf
  obtain ⟨hc34, hf⟩ := gp_some hf
  refine g_copyi (pc := 58) X ml_X9_34 na_copy sm_copy in_sys (KClt hk28 (by decide)) hk28 (KClt hk29 (by decide)) hk29 hc30 hc31 hc32 hc33 hc34 (by decide) (by decide +kernel) dX9_become_58 ?_
  obtain ⟨m35, e36, hf⟩ := lt1_some hf
  refine g_mem e36 ?_
  refine g_aload_n (pc := 61) X dX9_become_61 rfl 1 rfl ?_
  obtain ⟨q37, hr38, hf⟩ := bnd_some hf
  refine g_getR (pc := 62) X fl_X9_18 (KClt hk1 (by decide)) hk1 hr38 dX9_become_62 ?_
  refine g_iconst (v := (0 : Int32)) (pc := 65) X dX9_become_65 (by decide) ?_
  refine g_aload_n (pc := 66) X dX9_become_66 rfl 0 rfl ?_
  obtain ⟨q39, hr40, hf⟩ := bnd_some hf
  refine g_getR (pc := 67) X fl_X9_18 (KClt hk2 (by decide)) hk2 hr40 dX9_become_67 ?_
  refine g_iconst (v := (0 : Int32)) (pc := 70) X dX9_become_70 (by decide) ?_
  refine g_iconst (v := (4 : Int32)) (pc := 71) X dX9_become_71 (by decide) ?_
  obtain ⟨hk41, hf⟩ := gp_some hf
  obtain ⟨hk42, hf⟩ := gp_some hf
  obtain ⟨hc43, hf⟩ := gp_some hf
  obtain ⟨hc44, hf⟩ := gp_some hf
  obtain ⟨hc45, hf⟩ := gp_some hf
  obtain ⟨hc46, hf⟩ := gp_some hf
  obtain ⟨hc47, hf⟩ := gp_some hf
  refine g_copyi (pc := 72) X ml_X9_34 na_copy sm_copy in_sys (KClt hk41 (by decide)) hk41 (KClt hk42 (by decide)) hk42 hc43 hc44 hc45 hc46 hc47 (by decide) (by decide +kernel) dX9_become_72 ?_
  obtain ⟨m48, e49, hf⟩ := lt1_some hf
  refine g_mem e49 ?_
  obtain rfl := Option.some.inj hf
  exact hret _ _ dX9_become_75

noncomputable def fX4_become (v0 : Nat) (v1 : Nat) (m : Mem) : Option Mem := gp (KC v1 = 4) (gp (KC v0 = 4) (bnd (fX4_build v0 (m.1 v1 0) (m.1 v1 1) (m.1 v1 8) (m.1 v1 2) m) (fun m3 => gp (zb (m3.1 v1 3) = true) (lt1 (uI m3 v0 3 (m3.1 v1 3)) (fun m6 => lt1 (uI m6 v0 4 (m6.1 v1 4)) (fun m8 => lt1 (uI m8 v0 5 (m8.1 v1 5)) (fun m10 => lt1 (uI m10 v0 6 (m10.1 v1 6)) (fun m12 => gp (zb (m12.1 v1 7) = true) (lt1 (uI m12 v0 7 (m12.1 v1 7)) (fun m15 => some m15))))))))))
set_option maxHeartbeats 4000000 in
set_option maxRecDepth 100000 in
theorem cX4_become_ct (z : Zx) (ad : Nat → Nat) (v0 : Nat) (v1 : Nat) (m m2 : Mem) (hf : fX4_become v0 v1 m = some m2) : CtV z wC yX4_become cX4_become 2 none (Rm 4) ad 91 [.ref (ad v0), .ref (ad v1)] m m2 := by
  refine ct_ofV mi_X4_become rfl (Nat.le_of_ble_eq_true rfl) (fun x X hret => ?_)
  refine g_lv [(0, .ref (ad v0)), (1, .ref (ad v1))] [0, 1] rfl ?_
  unfold fX4_become at hf
  refine g_aload_n (pc := 0) X dX4_become_0 rfl 0 rfl ?_
  refine g_aload_n (pc := 1) X dX4_become_1 rfl 1 rfl ?_
  obtain ⟨hk1, hf⟩ := gp_some hf
  refine g_getI (pc := 2) X fl_X4_15 (KClt hk1 (by decide)) hk1 dX4_become_2 ?_
  refine g_aload_n (pc := 5) X dX4_become_5 rfl 1 rfl ?_
  refine g_getI (pc := 6) X fl_X4_19 (KClt hk1 (by decide)) hk1 dX4_become_6 ?_
  refine g_aload_n (pc := 9) X dX4_become_9 rfl 1 rfl ?_
  refine g_getI (pc := 10) X fl_X4_22 (KClt hk1 (by decide)) hk1 dX4_become_10 ?_
  refine g_aload_n (pc := 13) X dX4_become_13 rfl 1 rfl ?_
  refine g_getI (pc := 14) X fl_X4_25 (KClt hk1 (by decide)) hk1 dX4_become_14 ?_
  obtain ⟨hk4, hf⟩ := gp_some hf
  obtain ⟨m3, hq2, hf⟩ := bnd_some hf
  refine g_callVV (pc := 17) (As := [.int (m.1 v1 0), .int (m.1 v1 1), .int (m.1 v1 8), .int (m.1 v1 2)]) (rest := []) X mi_X4_build im_X4_build se_X4_build (KClt hk4 (by decide)) hk4 clX4 ml_X4_9 (cX4_build_ct z ad v0 (m.1 v1 0) (m.1 v1 1) (m.1 v1 8) (m.1 v1 2) m m3 hq2) rfl rfl (Nat.le_of_ble_eq_true rfl) ⟨rfl, rfl, by decide, by decide, Nat.le_refl _, Nat.le_refl _⟩ dX4_become_17 ?_
  refine g_aload_n (pc := 20) X dX4_become_20 rfl 0 rfl ?_
  refine g_aload_n (pc := 21) X dX4_become_21 rfl 1 rfl ?_
  refine g_getI (pc := 22) X fl_X4_28 (KClt hk1 (by decide)) hk1 dX4_become_22 ?_
  obtain ⟨hb5, hf⟩ := gp_some hf
  refine g_putI (pc := 25) X fl_X4_28 (KClt hk4 (by decide)) hk4 (zb_nar hb5) (zb_fit hb5) dX4_become_25 ?_
  obtain ⟨m6, e7, hf⟩ := lt1_some hf
  refine g_mem e7 ?_
  refine g_aload_n (pc := 28) X dX4_become_28 rfl 0 rfl ?_
  refine g_aload_n (pc := 29) X dX4_become_29 rfl 1 rfl ?_
  refine g_getI (pc := 30) X fl_X4_32 (KClt hk1 (by decide)) hk1 dX4_become_30 ?_
  refine g_putI (pc := 33) X fl_X4_32 (KClt hk4 (by decide)) hk4 rfl rfl dX4_become_33 ?_
  obtain ⟨m8, e9, hf⟩ := lt1_some hf
  refine g_mem e9 ?_
  refine g_aload_n (pc := 36) X dX4_become_36 rfl 0 rfl ?_
  refine g_aload_n (pc := 37) X dX4_become_37 rfl 1 rfl ?_
  refine g_getI (pc := 38) X fl_X4_35 (KClt hk1 (by decide)) hk1 dX4_become_38 ?_
  refine g_putI (pc := 41) X fl_X4_35 (KClt hk4 (by decide)) hk4 rfl rfl dX4_become_41 ?_
  obtain ⟨m10, e11, hf⟩ := lt1_some hf
  refine g_mem e11 ?_
  refine g_aload_n (pc := 44) X dX4_become_44 rfl 0 rfl ?_
  refine g_aload_n (pc := 45) X dX4_become_45 rfl 1 rfl ?_
  refine g_getI (pc := 46) X fl_X4_38 (KClt hk1 (by decide)) hk1 dX4_become_46 ?_
  refine g_putI (pc := 49) X fl_X4_38 (KClt hk4 (by decide)) hk4 rfl rfl dX4_become_49 ?_
  obtain ⟨m12, e13, hf⟩ := lt1_some hf
  refine g_mem e13 ?_
  refine g_aload_n (pc := 52) X dX4_become_52 rfl 0 rfl ?_
  refine g_aload_n (pc := 53) X dX4_become_53 rfl 1 rfl ?_
  refine g_getI (pc := 54) X fl_X4_41 (KClt hk1 (by decide)) hk1 dX4_become_54 ?_
  obtain ⟨hb14, hf⟩ := gp_some hf
  refine g_putI (pc := 57) X fl_X4_41 (KClt hk4 (by decide)) hk4 (zb_nar hb14) (zb_fit hb14) dX4_become_57 ?_
  obtain ⟨m15, e16, hf⟩ := lt1_some hf
  refine g_mem e16 ?_
  obtain rfl := Option.some.inj hf
  exact hret _ _ dX4_become_60

noncomputable def fX2_become (v0 : Nat) (v1 : Nat) (m : Mem) : Option Mem := gp (KC v1 = 2) (gp (KC v0 = 2) (lt1 (uI m v0 2 (m.1 v1 2)) (fun m3 => bnd (m3.2.2 v1 0) (fun q5 => bnd (m3.2.2 v0 0) (fun q7 => gp (KC q5 = 14) (gp (KC q7 = 14) (gp (¬ (0 : Int32) < 0) (gp (¬ (0 : Int32) < 0) (gp (¬ (10 : Int32) < 0) (gp ((0 : Int32).toNatClampNeg + (10 : Int32).toNatClampNeg ≤ NC q5) (gp ((0 : Int32).toNatClampNeg + (10 : Int32).toNatClampNeg ≤ NC q7) (lt1 (uX m3 q7 (va_cpy (m3.1 q5) (m3.1 q7) (0 : Int32).toNatClampNeg (0 : Int32).toNatClampNeg (10 : Int32).toNatClampNeg)) (fun m16 => bnd (m16.2.2 v1 1) (fun q18 => bnd (m16.2.2 v0 1) (fun q20 => gp (KC q18 = 14) (gp (KC q20 = 14) (gp (¬ (0 : Int32) < 0) (gp (¬ (0 : Int32) < 0) (gp (¬ (10 : Int32) < 0) (gp ((0 : Int32).toNatClampNeg + (10 : Int32).toNatClampNeg ≤ NC q18) (gp ((0 : Int32).toNatClampNeg + (10 : Int32).toNatClampNeg ≤ NC q20) (lt1 (uX m16 q20 (va_cpy (m16.1 q18) (m16.1 q20) (0 : Int32).toNatClampNeg (0 : Int32).toNatClampNeg (10 : Int32).toNatClampNeg)) (fun m29 => some m29)))))))))))))))))))))))
set_option maxHeartbeats 4000000 in
set_option maxRecDepth 100000 in
theorem cX2_become_ct (z : Zx) (ad : Nat → Nat) (v0 : Nat) (v1 : Nat) (m m2 : Mem) (hf : fX2_become v0 v1 m = some m2) : CtV z wC yX2_become cX2_become 2 none (Rm 2) ad 91 [.ref (ad v0), .ref (ad v1)] m m2 := by
  refine ct_ofV mi_X2_become rfl (Nat.le_of_ble_eq_true rfl) (fun x X hret => ?_)
  refine g_lv [(0, .ref (ad v0)), (1, .ref (ad v1))] [0, 1] rfl ?_
  unfold fX2_become at hf
  refine g_aload_n (pc := 0) X dX2_become_0 rfl 0 rfl ?_
  refine g_aload_n (pc := 1) X dX2_become_1 rfl 1 rfl ?_
  obtain ⟨hk1, hf⟩ := gp_some hf
  refine g_getI (pc := 2) X fl_X2_18 (KClt hk1 (by decide)) hk1 dX2_become_2 ?_
  obtain ⟨hk2, hf⟩ := gp_some hf
  refine g_putI (pc := 5) X fl_X2_18 (KClt hk2 (by decide)) hk2 rfl rfl dX2_become_5 ?_
  obtain ⟨m3, e4, hf⟩ := lt1_some hf
  refine g_mem e4 ?_
  refine g_aload_n (pc := 8) X dX2_become_8 rfl 1 rfl ?_
  obtain ⟨q5, hr6, hf⟩ := bnd_some hf
  refine g_getR (pc := 9) X fl_X2_9 (KClt hk1 (by decide)) hk1 hr6 dX2_become_9 ?_
  refine g_iconst (v := (0 : Int32)) (pc := 12) X dX2_become_12 (by decide) ?_
  refine g_aload_n (pc := 13) X dX2_become_13 rfl 0 rfl ?_
  obtain ⟨q7, hr8, hf⟩ := bnd_some hf
  refine g_getR (pc := 14) X fl_X2_9 (KClt hk2 (by decide)) hk2 hr8 dX2_become_14 ?_
  refine g_iconst (v := (0 : Int32)) (pc := 17) X dX2_become_17 (by decide) ?_
  refine g_bipush (v := (10 : Int32)) (pc := 18) X dX2_become_18 (by decide) ?_
  obtain ⟨hk9, hf⟩ := gp_some hf
  obtain ⟨hk10, hf⟩ := gp_some hf
  obtain ⟨hc11, hf⟩ := gp_some hf
  obtain ⟨hc12, hf⟩ := gp_some hf
  obtain ⟨hc13, hf⟩ := gp_some hf
  obtain ⟨hc14, hf⟩ := gp_some hf
  obtain ⟨hc15, hf⟩ := gp_some hf
  refine g_copyi (pc := 20) X ml_X2_22 na_copy sm_copy in_sys (KClt hk9 (by decide)) hk9 (KClt hk10 (by decide)) hk10 hc11 hc12 hc13 hc14 hc15 (by decide) (by decide +kernel) dX2_become_20 ?_
  obtain ⟨m16, e17, hf⟩ := lt1_some hf
  refine g_mem e17 ?_
  refine g_aload_n (pc := 23) X dX2_become_23 rfl 1 rfl ?_
  obtain ⟨q18, hr19, hf⟩ := bnd_some hf
  refine g_getR (pc := 24) X fl_X2_15 (KClt hk1 (by decide)) hk1 hr19 dX2_become_24 ?_
  refine g_iconst (v := (0 : Int32)) (pc := 27) X dX2_become_27 (by decide) ?_
  refine g_aload_n (pc := 28) X dX2_become_28 rfl 0 rfl ?_
  obtain ⟨q20, hr21, hf⟩ := bnd_some hf
  refine g_getR (pc := 29) X fl_X2_15 (KClt hk2 (by decide)) hk2 hr21 dX2_become_29 ?_
  refine g_iconst (v := (0 : Int32)) (pc := 32) X dX2_become_32 (by decide) ?_
  refine g_bipush (v := (10 : Int32)) (pc := 33) X dX2_become_33 (by decide) ?_
  obtain ⟨hk22, hf⟩ := gp_some hf
  obtain ⟨hk23, hf⟩ := gp_some hf
  obtain ⟨hc24, hf⟩ := gp_some hf
  obtain ⟨hc25, hf⟩ := gp_some hf
  obtain ⟨hc26, hf⟩ := gp_some hf
  obtain ⟨hc27, hf⟩ := gp_some hf
  obtain ⟨hc28, hf⟩ := gp_some hf
  refine g_copyi (pc := 35) X ml_X2_22 na_copy sm_copy in_sys (KClt hk22 (by decide)) hk22 (KClt hk23 (by decide)) hk23 hc24 hc25 hc26 hc27 hc28 (by decide) (by decide +kernel) dX2_become_35 ?_
  obtain ⟨m29, e30, hf⟩ := lt1_some hf
  refine g_mem e30 ?_
  obtain rfl := Option.some.inj hf
  exact hret _ _ dX2_become_38

noncomputable def fX1_become (v0 : Nat) (v1 : Nat) (m : Mem) : Option Mem := gp (KC v1 = 1) (gp (KC v0 = 1) (lt1 (uI m v0 5 (m.1 v1 5)) (fun m3 => lt1 (uI m3 v0 6 (m3.1 v1 6)) (fun m5 => bnd (m5.2.2 v1 0) (fun q7 => bnd (m5.2.2 v0 0) (fun q9 => gp (KC q7 = 14) (gp (KC q9 = 14) (gp (¬ (0 : Int32) < 0) (gp (¬ (0 : Int32) < 0) (gp (¬ (10 : Int32) < 0) (gp ((0 : Int32).toNatClampNeg + (10 : Int32).toNatClampNeg ≤ NC q7) (gp ((0 : Int32).toNatClampNeg + (10 : Int32).toNatClampNeg ≤ NC q9) (lt1 (uX m5 q9 (va_cpy (m5.1 q7) (m5.1 q9) (0 : Int32).toNatClampNeg (0 : Int32).toNatClampNeg (10 : Int32).toNatClampNeg)) (fun m18 => bnd (m18.2.2 v1 1) (fun q20 => bnd (m18.2.2 v0 1) (fun q22 => gp (KC q20 = 14) (gp (KC q22 = 14) (gp (¬ (0 : Int32) < 0) (gp (¬ (0 : Int32) < 0) (gp (¬ (10 : Int32) < 0) (gp ((0 : Int32).toNatClampNeg + (10 : Int32).toNatClampNeg ≤ NC q20) (gp ((0 : Int32).toNatClampNeg + (10 : Int32).toNatClampNeg ≤ NC q22) (lt1 (uX m18 q22 (va_cpy (m18.1 q20) (m18.1 q22) (0 : Int32).toNatClampNeg (0 : Int32).toNatClampNeg (10 : Int32).toNatClampNeg)) (fun m31 => bnd (m31.2.2 v1 2) (fun q33 => bnd (m31.2.2 v0 2) (fun q35 => gp (KC q33 = 14) (gp (KC q35 = 14) (gp (¬ (0 : Int32) < 0) (gp (¬ (0 : Int32) < 0) (gp (¬ (6 : Int32) < 0) (gp ((0 : Int32).toNatClampNeg + (6 : Int32).toNatClampNeg ≤ NC q33) (gp ((0 : Int32).toNatClampNeg + (6 : Int32).toNatClampNeg ≤ NC q35) (lt1 (uX m31 q35 (va_cpy (m31.1 q33) (m31.1 q35) (0 : Int32).toNatClampNeg (0 : Int32).toNatClampNeg (6 : Int32).toNatClampNeg)) (fun m44 => bnd (m44.2.2 v1 3) (fun q46 => bnd (m44.2.2 v0 3) (fun q48 => gp (KC q46 = 14) (gp (KC q48 = 14) (gp (¬ (0 : Int32) < 0) (gp (¬ (0 : Int32) < 0) (gp (¬ (6 : Int32) < 0) (gp ((0 : Int32).toNatClampNeg + (6 : Int32).toNatClampNeg ≤ NC q46) (gp ((0 : Int32).toNatClampNeg + (6 : Int32).toNatClampNeg ≤ NC q48) (lt1 (uX m44 q48 (va_cpy (m44.1 q46) (m44.1 q48) (0 : Int32).toNatClampNeg (0 : Int32).toNatClampNeg (6 : Int32).toNatClampNeg)) (fun m57 => bnd (m57.2.2 v1 4) (fun q59 => bnd (m57.2.2 v0 4) (fun q61 => gp (KC q59 = 14) (gp (KC q61 = 14) (gp (¬ (0 : Int32) < 0) (gp (¬ (0 : Int32) < 0) (gp (¬ (6 : Int32) < 0) (gp ((0 : Int32).toNatClampNeg + (6 : Int32).toNatClampNeg ≤ NC q59) (gp ((0 : Int32).toNatClampNeg + (6 : Int32).toNatClampNeg ≤ NC q61) (lt1 (uX m57 q61 (va_cpy (m57.1 q59) (m57.1 q61) (0 : Int32).toNatClampNeg (0 : Int32).toNatClampNeg (6 : Int32).toNatClampNeg)) (fun m70 => some m70))))))))))))))))))))))))))))))))))))))))))))))))))))))
set_option maxHeartbeats 4000000 in
set_option maxRecDepth 100000 in
theorem cX1_become_ct (z : Zx) (ad : Nat → Nat) (v0 : Nat) (v1 : Nat) (m m2 : Mem) (hf : fX1_become v0 v1 m = some m2) : CtV z wC yX1_become cX1_become 2 none (Rm 2) ad 91 [.ref (ad v0), .ref (ad v1)] m m2 := by
  refine ct_ofV mi_X1_become rfl (Nat.le_of_ble_eq_true rfl) (fun x X hret => ?_)
  refine g_lv [(0, .ref (ad v0)), (1, .ref (ad v1))] [0, 1] rfl ?_
  unfold fX1_become at hf
  refine g_aload_n (pc := 0) X dX1_become_0 rfl 0 rfl ?_
  refine g_aload_n (pc := 1) X dX1_become_1 rfl 1 rfl ?_
  obtain ⟨hk1, hf⟩ := gp_some hf
  refine g_getI (pc := 2) X fl_X1_27 (KClt hk1 (by decide)) hk1 dX1_become_2 ?_
  obtain ⟨hk2, hf⟩ := gp_some hf
  refine g_putI (pc := 5) X fl_X1_27 (KClt hk2 (by decide)) hk2 rfl rfl dX1_become_5 ?_
  obtain ⟨m3, e4, hf⟩ := lt1_some hf
  refine g_mem e4 ?_
  refine g_aload_n (pc := 8) X dX1_become_8 rfl 0 rfl ?_
  refine g_aload_n (pc := 9) X dX1_become_9 rfl 1 rfl ?_
  refine g_getI (pc := 10) X fl_X1_31 (KClt hk1 (by decide)) hk1 dX1_become_10 ?_
  refine g_putI (pc := 13) X fl_X1_31 (KClt hk2 (by decide)) hk2 rfl rfl dX1_become_13 ?_
  obtain ⟨m5, e6, hf⟩ := lt1_some hf
  refine g_mem e6 ?_
  refine g_aload_n (pc := 16) X dX1_become_16 rfl 1 rfl ?_
  obtain ⟨q7, hr8, hf⟩ := bnd_some hf
  refine g_getR (pc := 17) X fl_X1_9 (KClt hk1 (by decide)) hk1 hr8 dX1_become_17 ?_
  refine g_iconst (v := (0 : Int32)) (pc := 20) X dX1_become_20 (by decide) ?_
  refine g_aload_n (pc := 21) X dX1_become_21 rfl 0 rfl ?_
  obtain ⟨q9, hr10, hf⟩ := bnd_some hf
  refine g_getR (pc := 22) X fl_X1_9 (KClt hk2 (by decide)) hk2 hr10 dX1_become_22 ?_
  refine g_iconst (v := (0 : Int32)) (pc := 25) X dX1_become_25 (by decide) ?_
  refine g_bipush (v := (10 : Int32)) (pc := 26) X dX1_become_26 (by decide) ?_
  obtain ⟨hk11, hf⟩ := gp_some hf
  obtain ⟨hk12, hf⟩ := gp_some hf
  obtain ⟨hc13, hf⟩ := gp_some hf
  obtain ⟨hc14, hf⟩ := gp_some hf
  obtain ⟨hc15, hf⟩ := gp_some hf
  obtain ⟨hc16, hf⟩ := gp_some hf
  obtain ⟨hc17, hf⟩ := gp_some hf
  refine g_copyi (pc := 28) X ml_X1_34 na_copy sm_copy in_sys (KClt hk11 (by decide)) hk11 (KClt hk12 (by decide)) hk12 hc13 hc14 hc15 hc16 hc17 (by decide) (by decide +kernel) dX1_become_28 ?_
  obtain ⟨m18, e19, hf⟩ := lt1_some hf
  refine g_mem e19 ?_
  refine g_aload_n (pc := 31) X dX1_become_31 rfl 1 rfl ?_
  obtain ⟨q20, hr21, hf⟩ := bnd_some hf
  refine g_getR (pc := 32) X fl_X1_15 (KClt hk1 (by decide)) hk1 hr21 dX1_become_32 ?_
  refine g_iconst (v := (0 : Int32)) (pc := 35) X dX1_become_35 (by decide) ?_
  refine g_aload_n (pc := 36) X dX1_become_36 rfl 0 rfl ?_
  obtain ⟨q22, hr23, hf⟩ := bnd_some hf
  refine g_getR (pc := 37) X fl_X1_15 (KClt hk2 (by decide)) hk2 hr23 dX1_become_37 ?_
  refine g_iconst (v := (0 : Int32)) (pc := 40) X dX1_become_40 (by decide) ?_
  refine g_bipush (v := (10 : Int32)) (pc := 41) X dX1_become_41 (by decide) ?_
  obtain ⟨hk24, hf⟩ := gp_some hf
  obtain ⟨hk25, hf⟩ := gp_some hf
  obtain ⟨hc26, hf⟩ := gp_some hf
  obtain ⟨hc27, hf⟩ := gp_some hf
  obtain ⟨hc28, hf⟩ := gp_some hf
  obtain ⟨hc29, hf⟩ := gp_some hf
  obtain ⟨hc30, hf⟩ := gp_some hf
  refine g_copyi (pc := 43) X ml_X1_34 na_copy sm_copy in_sys (KClt hk24 (by decide)) hk24 (KClt hk25 (by decide)) hk25 hc26 hc27 hc28 hc29 hc30 (by decide) (by decide +kernel) dX1_become_43 ?_
  obtain ⟨m31, e32, hf⟩ := lt1_some hf
  refine g_mem e32 ?_
  refine g_aload_n (pc := 46) X dX1_become_46 rfl 1 rfl ?_
  obtain ⟨q33, hr34, hf⟩ := bnd_some hf
  refine g_getR (pc := 47) X fl_X1_18 (KClt hk1 (by decide)) hk1 hr34 dX1_become_47 ?_
  refine g_iconst (v := (0 : Int32)) (pc := 50) X dX1_become_50 (by decide) ?_
  refine g_aload_n (pc := 51) X dX1_become_51 rfl 0 rfl ?_
  obtain ⟨q35, hr36, hf⟩ := bnd_some hf
  refine g_getR (pc := 52) X fl_X1_18 (KClt hk2 (by decide)) hk2 hr36 dX1_become_52 ?_
  refine g_iconst (v := (0 : Int32)) (pc := 55) X dX1_become_55 (by decide) ?_
  refine g_bipush (v := (6 : Int32)) (pc := 56) X dX1_become_56 (by decide) ?_
  obtain ⟨hk37, hf⟩ := gp_some hf
  obtain ⟨hk38, hf⟩ := gp_some hf
  obtain ⟨hc39, hf⟩ := gp_some hf
  obtain ⟨hc40, hf⟩ := gp_some hf
  obtain ⟨hc41, hf⟩ := gp_some hf
  obtain ⟨hc42, hf⟩ := gp_some hf
  obtain ⟨hc43, hf⟩ := gp_some hf
  refine g_copyi (pc := 58) X ml_X1_34 na_copy sm_copy in_sys (KClt hk37 (by decide)) hk37 (KClt hk38 (by decide)) hk38 hc39 hc40 hc41 hc42 hc43 (by decide) (by decide +kernel) dX1_become_58 ?_
  obtain ⟨m44, e45, hf⟩ := lt1_some hf
  refine g_mem e45 ?_
  refine g_aload_n (pc := 61) X dX1_become_61 rfl 1 rfl ?_
  obtain ⟨q46, hr47, hf⟩ := bnd_some hf
  refine g_getR (pc := 62) X fl_X1_21 (KClt hk1 (by decide)) hk1 hr47 dX1_become_62 ?_
  refine g_iconst (v := (0 : Int32)) (pc := 65) X dX1_become_65 (by decide) ?_
  refine g_aload_n (pc := 66) X dX1_become_66 rfl 0 rfl ?_
  obtain ⟨q48, hr49, hf⟩ := bnd_some hf
  refine g_getR (pc := 67) X fl_X1_21 (KClt hk2 (by decide)) hk2 hr49 dX1_become_67 ?_
  refine g_iconst (v := (0 : Int32)) (pc := 70) X dX1_become_70 (by decide) ?_
  refine g_bipush (v := (6 : Int32)) (pc := 71) X dX1_become_71 (by decide) ?_
  obtain ⟨hk50, hf⟩ := gp_some hf
  obtain ⟨hk51, hf⟩ := gp_some hf
  obtain ⟨hc52, hf⟩ := gp_some hf
  obtain ⟨hc53, hf⟩ := gp_some hf
  obtain ⟨hc54, hf⟩ := gp_some hf
  obtain ⟨hc55, hf⟩ := gp_some hf
  obtain ⟨hc56, hf⟩ := gp_some hf
  refine g_copyi (pc := 73) X ml_X1_34 na_copy sm_copy in_sys (KClt hk50 (by decide)) hk50 (KClt hk51 (by decide)) hk51 hc52 hc53 hc54 hc55 hc56 (by decide) (by decide +kernel) dX1_become_73 ?_
  obtain ⟨m57, e58, hf⟩ := lt1_some hf
  refine g_mem e58 ?_
  refine g_aload_n (pc := 76) X dX1_become_76 rfl 1 rfl ?_
  obtain ⟨q59, hr60, hf⟩ := bnd_some hf
  refine g_getR (pc := 77) X fl_X1_24 (KClt hk1 (by decide)) hk1 hr60 dX1_become_77 ?_
  refine g_iconst (v := (0 : Int32)) (pc := 80) X dX1_become_80 (by decide) ?_
  refine g_aload_n (pc := 81) X dX1_become_81 rfl 0 rfl ?_
  obtain ⟨q61, hr62, hf⟩ := bnd_some hf
  refine g_getR (pc := 82) X fl_X1_24 (KClt hk2 (by decide)) hk2 hr62 dX1_become_82 ?_
  refine g_iconst (v := (0 : Int32)) (pc := 85) X dX1_become_85 (by decide) ?_
  refine g_bipush (v := (6 : Int32)) (pc := 86) X dX1_become_86 (by decide) ?_
  obtain ⟨hk63, hf⟩ := gp_some hf
  obtain ⟨hk64, hf⟩ := gp_some hf
  obtain ⟨hc65, hf⟩ := gp_some hf
  obtain ⟨hc66, hf⟩ := gp_some hf
  obtain ⟨hc67, hf⟩ := gp_some hf
  obtain ⟨hc68, hf⟩ := gp_some hf
  obtain ⟨hc69, hf⟩ := gp_some hf
  refine g_copyi (pc := 88) X ml_X1_34 na_copy sm_copy in_sys (KClt hk63 (by decide)) hk63 (KClt hk64 (by decide)) hk64 hc65 hc66 hc67 hc68 hc69 (by decide) (by decide +kernel) dX1_become_88 ?_
  obtain ⟨m70, e71, hf⟩ := lt1_some hf
  refine g_mem e71 ?_
  obtain rfl := Option.some.inj hf
  exact hret _ _ dX1_become_91

noncomputable def fX10_become (v0 : Nat) (v1 : Nat) (m : Mem) : Option Mem := gp (KC v1 = 10) (gp (KC v0 = 10) (gp (zb (m.1 v1 4) = true) (lt1 (uI m v0 4 (m.1 v1 4)) (fun m4 => bnd (m4.2.2 v0 0) (fun q6 => bnd (m4.2.2 v1 0) (fun q8 => gp (KC q6 = 9) (bnd (fX9_become q6 q8 m4) (fun m11 => bnd (m11.2.2 v0 1) (fun q13 => bnd (m11.2.2 v1 1) (fun q15 => gp (KC q13 = 4) (bnd (fX4_become q13 q15 m11) (fun m18 => bnd (m18.2.2 v0 2) (fun q20 => bnd (m18.2.2 v1 2) (fun q22 => gp (KC q20 = 2) (bnd (fX2_become q20 q22 m18) (fun m25 => bnd (m25.2.2 v0 3) (fun q27 => bnd (m25.2.2 v1 3) (fun q29 => gp (KC q27 = 1) (bnd (fX1_become q27 q29 m25) (fun m32 => some m32))))))))))))))))))))
set_option maxHeartbeats 4000000 in
set_option maxRecDepth 100000 in
theorem cX10_become_ct (z : Zx) (ad : Nat → Nat) (v0 : Nat) (v1 : Nat) (m m2 : Mem) (hf : fX10_become v0 v1 m = some m2) : CtV z wC yX10_become cX10_become 2 none (Rm 5) ad 91 [.ref (ad v0), .ref (ad v1)] m m2 := by
  refine ct_ofV mi_X10_become rfl (Nat.le_of_ble_eq_true rfl) (fun x X hret => ?_)
  refine g_lv [(0, .ref (ad v0)), (1, .ref (ad v1))] [0, 1] rfl ?_
  unfold fX10_become at hf
  refine g_aload_n (pc := 0) X dX10_become_0 rfl 0 rfl ?_
  refine g_aload_n (pc := 1) X dX10_become_1 rfl 1 rfl ?_
  obtain ⟨hk1, hf⟩ := gp_some hf
  refine g_getI (pc := 2) X fl_X10_37 (KClt hk1 (by decide)) hk1 dX10_become_2 ?_
  obtain ⟨hk2, hf⟩ := gp_some hf
  obtain ⟨hb3, hf⟩ := gp_some hf
  refine g_putI (pc := 5) X fl_X10_37 (KClt hk2 (by decide)) hk2 (zb_nar hb3) (zb_fit hb3) dX10_become_5 ?_
  obtain ⟨m4, e5, hf⟩ := lt1_some hf
  refine g_mem e5 ?_
  refine g_aload_n (pc := 8) X dX10_become_8 rfl 0 rfl ?_
  obtain ⟨q6, hr7, hf⟩ := bnd_some hf
  refine g_getR (pc := 9) X fl_X10_10 (KClt hk2 (by decide)) hk2 hr7 dX10_become_9 ?_
  refine g_aload_n (pc := 12) X dX10_become_12 rfl 1 rfl ?_
  obtain ⟨q8, hr9, hf⟩ := bnd_some hf
  refine g_getR (pc := 13) X fl_X10_10 (KClt hk1 (by decide)) hk1 hr9 dX10_become_13 ?_
  obtain ⟨hk12, hf⟩ := gp_some hf
  obtain ⟨m11, hq10, hf⟩ := bnd_some hf
  refine g_callVV (pc := 16) (As := [.ref (ad q8)]) (rest := []) X mi_X9_become im_X9_become se_X9_become (KClt hk12 (by decide)) hk12 clX9 ml_X10_47 (cX9_become_ct z ad q6 q8 m4 m11 hq10) rfl rfl (Nat.le_of_ble_eq_true rfl) ⟨rfl, rfl, by decide, by decide, Nat.le_refl _, Nat.le_refl _⟩ dX10_become_16 ?_
  refine g_aload_n (pc := 19) X dX10_become_19 rfl 0 rfl ?_
  obtain ⟨q13, hr14, hf⟩ := bnd_some hf
  refine g_getR (pc := 20) X fl_X10_19 (KClt hk2 (by decide)) hk2 hr14 dX10_become_20 ?_
  refine g_aload_n (pc := 23) X dX10_become_23 rfl 1 rfl ?_
  obtain ⟨q15, hr16, hf⟩ := bnd_some hf
  refine g_getR (pc := 24) X fl_X10_19 (KClt hk1 (by decide)) hk1 hr16 dX10_become_24 ?_
  obtain ⟨hk19, hf⟩ := gp_some hf
  obtain ⟨m18, hq17, hf⟩ := bnd_some hf
  refine g_callVV (pc := 27) (As := [.ref (ad q15)]) (rest := []) X mi_X4_become im_X4_become se_X4_become (KClt hk19 (by decide)) hk19 clX4 ml_X10_51 (cX4_become_ct z ad q13 q15 m11 m18 hq17) rfl rfl (Nat.le_of_ble_eq_true rfl) ⟨rfl, rfl, by decide, by decide, Nat.le_refl _, Nat.le_refl _⟩ dX10_become_27 ?_
  refine g_aload_n (pc := 30) X dX10_become_30 rfl 0 rfl ?_
  obtain ⟨q20, hr21, hf⟩ := bnd_some hf
  refine g_getR (pc := 31) X fl_X10_26 (KClt hk2 (by decide)) hk2 hr21 dX10_become_31 ?_
  refine g_aload_n (pc := 34) X dX10_become_34 rfl 1 rfl ?_
  obtain ⟨q22, hr23, hf⟩ := bnd_some hf
  refine g_getR (pc := 35) X fl_X10_26 (KClt hk1 (by decide)) hk1 hr23 dX10_become_35 ?_
  obtain ⟨hk26, hf⟩ := gp_some hf
  obtain ⟨m25, hq24, hf⟩ := bnd_some hf
  refine g_callVV (pc := 38) (As := [.ref (ad q22)]) (rest := []) X mi_X2_become im_X2_become se_X2_become (KClt hk26 (by decide)) hk26 clX2 ml_X10_54 (cX2_become_ct z ad q20 q22 m18 m25 hq24) rfl rfl (Nat.le_of_ble_eq_true rfl) ⟨rfl, rfl, by decide, by decide, Nat.le_refl _, Nat.le_refl _⟩ dX10_become_38 ?_
  refine g_aload_n (pc := 41) X dX10_become_41 rfl 0 rfl ?_
  obtain ⟨q27, hr28, hf⟩ := bnd_some hf
  refine g_getR (pc := 42) X fl_X10_33 (KClt hk2 (by decide)) hk2 hr28 dX10_become_42 ?_
  refine g_aload_n (pc := 45) X dX10_become_45 rfl 1 rfl ?_
  obtain ⟨q29, hr30, hf⟩ := bnd_some hf
  refine g_getR (pc := 46) X fl_X10_33 (KClt hk1 (by decide)) hk1 hr30 dX10_become_46 ?_
  obtain ⟨hk33, hf⟩ := gp_some hf
  obtain ⟨m32, hq31, hf⟩ := bnd_some hf
  refine g_callVV (pc := 49) (As := [.ref (ad q29)]) (rest := []) X mi_X1_become im_X1_become se_X1_become (KClt hk33 (by decide)) hk33 clX1 ml_X10_57 (cX1_become_ct z ad q27 q29 m25 m32 hq31) rfl rfl (Nat.le_of_ble_eq_true rfl) ⟨rfl, rfl, by decide, by decide, Nat.le_refl _, Nat.le_refl _⟩ dX10_become_49 ?_
  obtain rfl := Option.some.inj hf
  exact hret _ _ dX10_become_52

noncomputable def fX11_image (v0 : Nat) (v1 : Int32) (m : Mem) : Option (Int64 × Mem) := bnd (fX11_isWithin v1 (0 : Int32) (1 : Int32)) (fun r2 => if r2 = 0 then (some ((-9000000000000000001 : Int64), m)) else (gp (KC v0 = 11) (bnd (m.2.2 v0 6) (fun q4 => gp (KC q4 = 10) (if (m.1 q4 4) = 0 then (some ((-9000000000000000002 : Int64), m)) else (bnd (m.2.2 v0 3) (fun q7 => gp (KC q7 = 18) (gp (inb v1 (NC q7) = true) (bnd (m.2.2 q7 v1.toNatClampNeg) (fun q11 => gp (KC q11 = 10) (bnd (fX10_become q11 q4 m) (fun m14 => some ((1 : Int64), m14)))))))))))))
set_option maxHeartbeats 4000000 in
set_option maxRecDepth 100000 in
theorem cX11_image_ct (z : Zx) (ad : Nat → Nat) (v0 : Nat) (v1 : Int32) (m m2 : Mem) (r : Int64) (hf : fX11_image v0 v1 m = some (r, m2)) : CtL z wC yX11_image cX11_image 2 (some .long) (Rm 6) ad 91 [.ref (ad v0), .int v1] m m2 r := by
  refine ct_ofL mi_X11_image rfl (Nat.le_of_ble_eq_true rfl) (fun x X hret => ?_)
  refine g_lv [(0, .ref (ad v0)), (1, .int v1)] [0, 1] rfl ?_
  unfold fX11_image at hf
  refine g_iload_n (pc := 0) X dX11_image_0 rfl 1 rfl ?_
  refine g_iconst (v := (0 : Int32)) (pc := 1) X dX11_image_1 (by decide) ?_
  refine g_iconst (v := (1 : Int32)) (pc := 2) X dX11_image_2 (by decide) ?_
  obtain ⟨r2, hq1, hf⟩ := bnd_some hf
  refine g_callSI (pc := 3) (As := [.int v1, .int (0 : Int32), .int (1 : Int32)]) (rest := []) X mi_X11_isWithin sm_X11_isWithin ml_X11_60 (cX11_isWithin_ct z ad v1 (0 : Int32) (1 : Int32) m r2 hq1) rfl rfl (Nat.le_of_ble_eq_true rfl) ⟨rfl, rfl, by decide, by decide, Nat.le_refl _, Nat.le_refl _⟩ dX11_image_3 ?_
  refine g_if_ne (pc := 6) (tgt := 13) X dX11_image_6 (by decide) (fun hc => ?_) (fun hc => ?_)
  · have hf := itn hc hf
    refine g_aload_n (pc := 13) X dX11_image_13 rfl 0 rfl ?_
    obtain ⟨hk3, hf⟩ := gp_some hf
    obtain ⟨q4, hr5, hf⟩ := bnd_some hf
    refine g_getR (pc := 14) X fl_X11_52 (KClt hk3 (by decide)) hk3 hr5 dX11_image_14 ?_
    obtain ⟨hk6, hf⟩ := gp_some hf
    refine g_getI (pc := 17) X fl_X11_144 (KClt hk6 (by decide)) hk6 dX11_image_17 ?_
    refine g_if_ne (pc := 20) (tgt := 27) X dX11_image_20 (by decide) (fun hc => ?_) (fun hc => ?_)
    · have hf := itn hc hf
      refine g_aload_n (pc := 27) X dX11_image_27 rfl 0 rfl ?_
      obtain ⟨q7, hr8, hf⟩ := bnd_some hf
      refine g_getR (pc := 28) X fl_X11_33 (KClt hk3 (by decide)) hk3 hr8 dX11_image_28 ?_
      refine g_iload_n (pc := 31) X dX11_image_31 rfl 1 rfl ?_
      obtain ⟨hk9, hf⟩ := gp_some hf
      obtain ⟨hi10, hf⟩ := gp_some hf
      obtain ⟨q11, hr12, hf⟩ := bnd_some hf
      refine g_aald (pc := 32) X (KClt hk9 (by decide)) hk9 (by decide) hi10 hr12 dX11_image_32 ?_
      refine g_aload_n (pc := 33) X dX11_image_33 rfl 0 rfl ?_
      refine g_getR (pc := 34) X fl_X11_52 (KClt hk3 (by decide)) hk3 hr5 dX11_image_34 ?_
      obtain ⟨hk15, hf⟩ := gp_some hf
      obtain ⟨m14, hq13, hf⟩ := bnd_some hf
      refine g_callVV (pc := 37) (As := [.ref (ad q4)]) (rest := []) X mi_X10_become im_X10_become se_X10_become (KClt hk15 (by decide)) hk15 clX10 ml_X11_331 (cX10_become_ct z ad q11 q4 m m14 hq13) rfl rfl (Nat.le_of_ble_eq_true rfl) ⟨rfl, rfl, by decide, by decide, Nat.le_refl _, Nat.le_refl _⟩ dX11_image_37 ?_
      refine g_lconst (v := (1 : Int64)) (pc := 40) X dX11_image_40 (by decide) ?_
      obtain ⟨rfl, rfl⟩ := som2 hf
      exact hret _ _ dX11_image_41
    · have hf := itp hc hf
      refine g_ldc2 (pc := 23) X dX11_image_23 kl_X11_148 ?_
      obtain ⟨rfl, rfl⟩ := som2 hf
      exact hret _ _ dX11_image_26
  · have hf := itp hc hf
    refine g_ldc2 (pc := 9) X dX11_image_9 kl_X11_64 ?_
    obtain ⟨rfl, rfl⟩ := som2 hf
    exact hret _ _ dX11_image_12

noncomputable def fX11_restore (v0 : Nat) (v1 : Int32) (m : Mem) : Option (Int64 × Mem) := bnd (fX11_isWithin v1 (0 : Int32) (1 : Int32)) (fun r2 => if r2 = 0 then (some ((-9000000000000000001 : Int64), m)) else (gp (KC v0 = 11) (bnd (m.2.2 v0 3) (fun q4 => gp (KC q4 = 18) (gp (inb v1 (NC q4) = true) (bnd (m.2.2 q4 v1.toNatClampNeg) (fun q8 => gp (KC q8 = 10) (if (m.1 q8 4) = 0 then (some ((-9000000000000000002 : Int64), m)) else (bnd (m.2.2 v0 6) (fun q11 => gp (inb v1 (NC q4) = true) (bnd (m.2.2 q4 v1.toNatClampNeg) (fun q14 => gp (KC q11 = 10) (bnd (fX10_become q11 q14 m) (fun m17 => some ((1 : Int64), m17)))))))))))))))
set_option maxHeartbeats 4000000 in
set_option maxRecDepth 100000 in
theorem cX11_restore_ct (z : Zx) (ad : Nat → Nat) (v0 : Nat) (v1 : Int32) (m m2 : Mem) (r : Int64) (hf : fX11_restore v0 v1 m = some (r, m2)) : CtL z wC yX11_restore cX11_restore 2 (some .long) (Rm 6) ad 91 [.ref (ad v0), .int v1] m m2 r := by
  refine ct_ofL mi_X11_restore rfl (Nat.le_of_ble_eq_true rfl) (fun x X hret => ?_)
  refine g_lv [(0, .ref (ad v0)), (1, .int v1)] [0, 1] rfl ?_
  unfold fX11_restore at hf
  refine g_iload_n (pc := 0) X dX11_restore_0 rfl 1 rfl ?_
  refine g_iconst (v := (0 : Int32)) (pc := 1) X dX11_restore_1 (by decide) ?_
  refine g_iconst (v := (1 : Int32)) (pc := 2) X dX11_restore_2 (by decide) ?_
  obtain ⟨r2, hq1, hf⟩ := bnd_some hf
  refine g_callSI (pc := 3) (As := [.int v1, .int (0 : Int32), .int (1 : Int32)]) (rest := []) X mi_X11_isWithin sm_X11_isWithin ml_X11_60 (cX11_isWithin_ct z ad v1 (0 : Int32) (1 : Int32) m r2 hq1) rfl rfl (Nat.le_of_ble_eq_true rfl) ⟨rfl, rfl, by decide, by decide, Nat.le_refl _, Nat.le_refl _⟩ dX11_restore_3 ?_
  refine g_if_ne (pc := 6) (tgt := 13) X dX11_restore_6 (by decide) (fun hc => ?_) (fun hc => ?_)
  · have hf := itn hc hf
    refine g_aload_n (pc := 13) X dX11_restore_13 rfl 0 rfl ?_
    obtain ⟨hk3, hf⟩ := gp_some hf
    obtain ⟨q4, hr5, hf⟩ := bnd_some hf
    refine g_getR (pc := 14) X fl_X11_33 (KClt hk3 (by decide)) hk3 hr5 dX11_restore_14 ?_
    refine g_iload_n (pc := 17) X dX11_restore_17 rfl 1 rfl ?_
    obtain ⟨hk6, hf⟩ := gp_some hf
    obtain ⟨hi7, hf⟩ := gp_some hf
    obtain ⟨q8, hr9, hf⟩ := bnd_some hf
    refine g_aald (pc := 18) X (KClt hk6 (by decide)) hk6 (by decide) hi7 hr9 dX11_restore_18 ?_
    obtain ⟨hk10, hf⟩ := gp_some hf
    refine g_getI (pc := 19) X fl_X11_144 (KClt hk10 (by decide)) hk10 dX11_restore_19 ?_
    refine g_if_ne (pc := 22) (tgt := 29) X dX11_restore_22 (by decide) (fun hc => ?_) (fun hc => ?_)
    · have hf := itn hc hf
      refine g_aload_n (pc := 29) X dX11_restore_29 rfl 0 rfl ?_
      obtain ⟨q11, hr12, hf⟩ := bnd_some hf
      refine g_getR (pc := 30) X fl_X11_52 (KClt hk3 (by decide)) hk3 hr12 dX11_restore_30 ?_
      refine g_aload_n (pc := 33) X dX11_restore_33 rfl 0 rfl ?_
      refine g_getR (pc := 34) X fl_X11_33 (KClt hk3 (by decide)) hk3 hr5 dX11_restore_34 ?_
      refine g_iload_n (pc := 37) X dX11_restore_37 rfl 1 rfl ?_
      obtain ⟨hi13, hf⟩ := gp_some hf
      obtain ⟨q14, hr15, hf⟩ := bnd_some hf
      refine g_aald (pc := 38) X (KClt hk6 (by decide)) hk6 (by decide) hi13 hr15 dX11_restore_38 ?_
      obtain ⟨hk18, hf⟩ := gp_some hf
      obtain ⟨m17, hq16, hf⟩ := bnd_some hf
      refine g_callVV (pc := 39) (As := [.ref (ad q14)]) (rest := []) X mi_X10_become im_X10_become se_X10_become (KClt hk18 (by decide)) hk18 clX10 ml_X11_331 (cX10_become_ct z ad q11 q14 m m17 hq16) rfl rfl (Nat.le_of_ble_eq_true rfl) ⟨rfl, rfl, by decide, by decide, Nat.le_refl _, Nat.le_refl _⟩ dX11_restore_39 ?_
      refine g_lconst (v := (1 : Int64)) (pc := 42) X dX11_restore_42 (by decide) ?_
      obtain ⟨rfl, rfl⟩ := som2 hf
      exact hret _ _ dX11_restore_43
    · have hf := itp hc hf
      refine g_ldc2 (pc := 25) X dX11_restore_25 kl_X11_148 ?_
      obtain ⟨rfl, rfl⟩ := som2 hf
      exact hret _ _ dX11_restore_28
  · have hf := itp hc hf
    refine g_ldc2 (pc := 9) X dX11_restore_9 kl_X11_64 ?_
    obtain ⟨rfl, rfl⟩ := som2 hf
    exact hret _ _ dX11_restore_12

noncomputable def fX11_kind (v0 : Nat) (v1 : Int32) (m : Mem) : Option Int64 := gp (KC v0 = 11) (bnd (m.2.2 v0 6) (fun q2 => gp (KC q2 = 10) (bnd (m.2.2 q2 3) (fun q5 => gp (KC q5 = 1) (bnd (fX1_isSign q5 v1 m) (fun r8 => if r8 = 0 then (some (-9000000000000000001 : Int64)) else (bnd (m.2.2 q5 0) (fun q10 => gp (KC q10 = 14) (gp (inb v1 (NC q10) = true) (some ((m.1 q10 v1.toNatClampNeg).toInt64)))))))))))
set_option maxHeartbeats 4000000 in
set_option maxRecDepth 100000 in
theorem cX11_kind_ct (z : Zx) (ad : Nat → Nat) (v0 : Nat) (v1 : Int32) (m : Mem) (r : Int64) (hf : fX11_kind v0 v1 m = some r) : CtL z wC yX11_kind cX11_kind 2 (some .long) (Rm 4) ad 91 [.ref (ad v0), .int v1] m m r := by
  refine ct_ofL mi_X11_kind rfl (Nat.le_of_ble_eq_true rfl) (fun x X hret => ?_)
  refine g_lv [(0, .ref (ad v0)), (1, .int v1)] [0, 1] rfl ?_
  unfold fX11_kind at hf
  refine g_aload_n (pc := 0) X dX11_kind_0 rfl 0 rfl ?_
  obtain ⟨hk1, hf⟩ := gp_some hf
  obtain ⟨q2, hr3, hf⟩ := bnd_some hf
  refine g_getR (pc := 1) X fl_X11_52 (KClt hk1 (by decide)) hk1 hr3 dX11_kind_1 ?_
  obtain ⟨hk4, hf⟩ := gp_some hf
  obtain ⟨q5, hr6, hf⟩ := bnd_some hf
  refine g_getR (pc := 4) X fl_X11_135 (KClt hk4 (by decide)) hk4 hr6 dX11_kind_4 ?_
  refine g_iload_n (pc := 7) X dX11_kind_7 rfl 1 rfl ?_
  obtain ⟨hk9, hf⟩ := gp_some hf
  obtain ⟨r8, hq7, hf⟩ := bnd_some hf
  refine g_callVI (pc := 8) (As := [.int v1]) (rest := []) X mi_X1_isSign im_X1_isSign se_X1_isSign (KClt hk9 (by decide)) hk9 clX1 ml_X11_293 (cX1_isSign_ct z ad q5 v1 m r8 hq7) rfl rfl (Nat.le_of_ble_eq_true rfl) ⟨rfl, rfl, by decide, by decide, Nat.le_refl _, Nat.le_refl _⟩ dX11_kind_8 ?_
  refine g_if_eq (pc := 11) (tgt := 30) X dX11_kind_11 (by decide) (fun hc => ?_) (fun hc => ?_)
  · have hf := itp hc hf
    refine g_ldc2 (pc := 30) X dX11_kind_30 kl_X11_64 ?_
    obtain rfl := Option.some.inj hf
    exact hret _ _ dX11_kind_33
  · have hf := itn hc hf
    refine g_aload_n (pc := 14) X dX11_kind_14 rfl 0 rfl ?_
    refine g_getR (pc := 15) X fl_X11_52 (KClt hk1 (by decide)) hk1 hr3 dX11_kind_15 ?_
    refine g_getR (pc := 18) X fl_X11_135 (KClt hk4 (by decide)) hk4 hr6 dX11_kind_18 ?_
    obtain ⟨q10, hr11, hf⟩ := bnd_some hf
    refine g_getR (pc := 21) X fl_X11_334 (KClt hk9 (by decide)) hk9 hr11 dX11_kind_21 ?_
    refine g_iload_n (pc := 24) X dX11_kind_24 rfl 1 rfl ?_
    obtain ⟨hk12, hf⟩ := gp_some hf
    obtain ⟨hi13, hf⟩ := gp_some hf
    refine g_iald (pc := 25) X (KClt hk12 (by decide)) hk12 hi13 dX11_kind_25 ?_
    refine g_i2l (pc := 26) X dX11_kind_26 ?_
    refine g_goto (pc := 27) (tgt := 33) X dX11_kind_27 (by decide) ?_
    obtain rfl := Option.some.inj hf
    exact hret _ _ dX11_kind_33

noncomputable def fX11_kindAbove (v0 : Int32) : Option Int32 := if v0 = (5 : Int32) then (some (4 : Int32)) else (if v0 = (7 : Int32) then (some (6 : Int32)) else (some (0 : Int32)))
set_option maxHeartbeats 4000000 in
set_option maxRecDepth 100000 in
theorem cX11_kindAbove_ct (z : Zx) (ad : Nat → Nat) (v0 : Int32) (m : Mem) (r : Int32) (hf : fX11_kindAbove v0 = some r) : CtI z wC yX11_kindAbove cX11_kindAbove 1 (some .int) (Rm 2) ad 91 [.int v0] m m r := by
  refine ct_ofI mi_X11_kindAbove rfl (Nat.le_of_ble_eq_true rfl) (fun x X hret => ?_)
  refine g_lv [(0, .int v0)] [0] rfl ?_
  unfold fX11_kindAbove at hf
  refine g_iload_n (pc := 0) X dX11_kindAbove_0 rfl 0 rfl ?_
  refine g_iconst (v := (5 : Int32)) (pc := 1) X dX11_kindAbove_1 (by decide) ?_
  refine g_icmp_ne (pc := 2) (tgt := 7) X dX11_kindAbove_2 (by decide) (fun hc => ?_) (fun hc => ?_)
  · have hf := itn hc hf
    refine g_iload_n (pc := 7) X dX11_kindAbove_7 rfl 0 rfl ?_
    refine g_bipush (v := (7 : Int32)) (pc := 8) X dX11_kindAbove_8 (by decide) ?_
    refine g_icmp_ne (pc := 10) (tgt := 18) X dX11_kindAbove_10 (by decide) (fun hc => ?_) (fun hc => ?_)
    · have hf := itn hc hf
      refine g_iconst (v := (0 : Int32)) (pc := 18) X dX11_kindAbove_18 (by decide) ?_
      obtain rfl := Option.some.inj hf
      exact hret _ _ rfl dX11_kindAbove_19
    · have hf := itp hc hf
      refine g_bipush (v := (6 : Int32)) (pc := 13) X dX11_kindAbove_13 (by decide) ?_
      refine g_goto (pc := 15) (tgt := 19) X dX11_kindAbove_15 (by decide) ?_
      obtain rfl := Option.some.inj hf
      exact hret _ _ rfl dX11_kindAbove_19
  · have hf := itp hc hf
    refine g_iconst (v := (4 : Int32)) (pc := 5) X dX11_kindAbove_5 (by decide) ?_
    obtain rfl := Option.some.inj hf
    exact hret _ _ rfl dX11_kindAbove_6

noncomputable def fX11_isKindOf_17 : Option Int32 := some (1 : Int32)
noncomputable def fX11_isKindOf (v0 : Int32) (v1 : Int32) : Option Int32 := if v1 = 0 then (fX11_isKindOf_17) else (if v1 = v0 then (fX11_isKindOf_17) else (bnd (fX11_kindAbove v0) (fun r2 => if v1 = r2 then (fX11_isKindOf_17) else (some (0 : Int32)))))
set_option maxHeartbeats 4000000 in
set_option maxRecDepth 100000 in
theorem cX11_isKindOf_ct (z : Zx) (ad : Nat → Nat) (v0 : Int32) (v1 : Int32) (m : Mem) (r : Int32) (hf : fX11_isKindOf v0 v1 = some r) : CtI z wC yX11_isKindOf cX11_isKindOf 2 (some .boolean) (Rm 3) ad 91 [.int v0, .int v1] m m r := by
  refine ct_ofI mi_X11_isKindOf rfl (Nat.le_of_ble_eq_true rfl) (fun x X hret => ?_)
  refine g_lv [(0, .int v0), (1, .int v1)] [0, 1] rfl ?_
  have hL17 : fX11_isKindOf_17 = some r → G z wC x 2 0 0 ad 91 m 17 [] [] := by
    intro hf
    unfold fX11_isKindOf_17 at hf
    refine g_iconst (v := (1 : Int32)) (pc := 17) X dX11_isKindOf_17 (by decide) ?_
    refine g_goto (pc := 18) (tgt := 22) X dX11_isKindOf_18 (by decide) ?_
    obtain rfl := Option.some.inj hf
    exact hret _ _ (by decide) dX11_isKindOf_22
  unfold fX11_isKindOf at hf
  refine g_iload_n (pc := 0) X dX11_isKindOf_0 rfl 1 rfl ?_
  refine g_if_eq (pc := 1) (tgt := 17) X dX11_isKindOf_1 (by decide) (fun hc => ?_) (fun hc => ?_)
  · have hf := itp hc hf
    refine g_lv [] [] rfl ?_
    exact hL17 hf
  · have hf := itn hc hf
    refine g_iload_n (pc := 4) X dX11_isKindOf_4 rfl 1 rfl ?_
    refine g_iload_n (pc := 5) X dX11_isKindOf_5 rfl 0 rfl ?_
    refine g_icmp_eq (pc := 6) (tgt := 17) X dX11_isKindOf_6 (by decide) (fun hc => ?_) (fun hc => ?_)
    · have hf := itp hc hf
      refine g_lv [] [] rfl ?_
      exact hL17 hf
    · have hf := itn hc hf
      refine g_iload_n (pc := 9) X dX11_isKindOf_9 rfl 1 rfl ?_
      refine g_iload_n (pc := 10) X dX11_isKindOf_10 rfl 0 rfl ?_
      obtain ⟨r2, hq1, hf⟩ := bnd_some hf
      refine g_callSI (pc := 11) (As := [.int v0]) (rest := [.int v1]) X mi_X11_kindAbove sm_X11_kindAbove ml_X11_378 (cX11_kindAbove_ct z ad v0 m r2 hq1) rfl rfl (Nat.le_of_ble_eq_true rfl) ⟨rfl, rfl, by decide, by decide, Nat.le_refl _, Nat.le_refl _⟩ dX11_isKindOf_11 ?_
      refine g_icmp_ne (pc := 14) (tgt := 21) X dX11_isKindOf_14 (by decide) (fun hc => ?_) (fun hc => ?_)
      · have hf := itn hc hf
        refine g_iconst (v := (0 : Int32)) (pc := 21) X dX11_isKindOf_21 (by decide) ?_
        obtain rfl := Option.some.inj hf
        exact hret _ _ (by decide) dX11_isKindOf_22
      · have hf := itp hc hf
        refine g_lv [] [] rfl ?_
        exact hL17 hf

noncomputable def fX11_as (v0 : Nat) (v1 : Int32) (v2 : Int32) (m : Mem) : Option (Int64 × Mem) := gp (KC v0 = 11) (bnd (m.2.2 v0 6) (fun q2 => gp (KC q2 = 10) (bnd (m.2.2 q2 3) (fun q5 => gp (KC q5 = 1) (bnd (fX1_isSign q5 v1 m) (fun r8 => if r8 = 0 then (some ((-9000000000000000001 : Int64), m)) else (bnd (fX11_isWithin v2 (0 : Int32) (7 : Int32)) (fun r11 => if r11 = 0 then (some ((-9000000000000000001 : Int64), m)) else (bnd (m.2.2 q5 0) (fun q12 => gp (KC q12 = 14) (gp (inb v1 (NC q12) = true) (bnd (fX11_isKindOf (m.1 q12 v1.toNatClampNeg) v2) (fun r17 => if r17 = 0 then (bnd2 (fX11_found v0 (3 : Int32) m) (fun r19 m20 => some (r19, m20))) else (bnd2 (fX11_fine v0 v1.toInt64 m) (fun r22 m23 => some (r22, m23))))))))))))))))
set_option maxHeartbeats 4000000 in
set_option maxRecDepth 100000 in
theorem cX11_as_ct (z : Zx) (ad : Nat → Nat) (v0 : Nat) (v1 : Int32) (v2 : Int32) (m m2 : Mem) (r : Int64) (hf : fX11_as v0 v1 v2 m = some (r, m2)) : CtL z wC yX11_as cX11_as 3 (some .long) (Rm 4) ad 91 [.ref (ad v0), .int v1, .int v2] m m2 r := by
  refine ct_ofL mi_X11_as rfl (Nat.le_of_ble_eq_true rfl) (fun x X hret => ?_)
  refine g_lv [(0, .ref (ad v0)), (1, .int v1), (2, .int v2)] [0, 1, 2] rfl ?_
  unfold fX11_as at hf
  refine g_aload_n (pc := 0) X dX11_as_0 rfl 0 rfl ?_
  obtain ⟨hk1, hf⟩ := gp_some hf
  obtain ⟨q2, hr3, hf⟩ := bnd_some hf
  refine g_getR (pc := 1) X fl_X11_52 (KClt hk1 (by decide)) hk1 hr3 dX11_as_1 ?_
  obtain ⟨hk4, hf⟩ := gp_some hf
  obtain ⟨q5, hr6, hf⟩ := bnd_some hf
  refine g_getR (pc := 4) X fl_X11_135 (KClt hk4 (by decide)) hk4 hr6 dX11_as_4 ?_
  refine g_iload_n (pc := 7) X dX11_as_7 rfl 1 rfl ?_
  obtain ⟨hk9, hf⟩ := gp_some hf
  obtain ⟨r8, hq7, hf⟩ := bnd_some hf
  refine g_callVI (pc := 8) (As := [.int v1]) (rest := []) X mi_X1_isSign im_X1_isSign se_X1_isSign (KClt hk9 (by decide)) hk9 clX1 ml_X11_293 (cX1_isSign_ct z ad q5 v1 m r8 hq7) rfl rfl (Nat.le_of_ble_eq_true rfl) ⟨rfl, rfl, by decide, by decide, Nat.le_refl _, Nat.le_refl _⟩ dX11_as_8 ?_
  refine g_if_eq (pc := 11) (tgt := 24) X dX11_as_11 (by decide) (fun hc => ?_) (fun hc => ?_)
  · have hf := itp hc hf
    refine g_ldc2 (pc := 24) X dX11_as_24 kl_X11_64 ?_
    obtain ⟨rfl, rfl⟩ := som2 hf
    exact hret _ _ dX11_as_27
  · have hf := itn hc hf
    refine g_iload_n (pc := 14) X dX11_as_14 rfl 2 rfl ?_
    refine g_iconst (v := (0 : Int32)) (pc := 15) X dX11_as_15 (by decide) ?_
    refine g_bipush (v := (7 : Int32)) (pc := 16) X dX11_as_16 (by decide) ?_
    obtain ⟨r11, hq10, hf⟩ := bnd_some hf
    refine g_callSI (pc := 18) (As := [.int v2, .int (0 : Int32), .int (7 : Int32)]) (rest := []) X mi_X11_isWithin sm_X11_isWithin ml_X11_60 (cX11_isWithin_ct z ad v2 (0 : Int32) (7 : Int32) m r11 hq10) rfl rfl (Nat.le_of_ble_eq_true rfl) ⟨rfl, rfl, by decide, by decide, Nat.le_refl _, Nat.le_refl _⟩ dX11_as_18 ?_
    refine g_if_ne (pc := 21) (tgt := 28) X dX11_as_21 (by decide) (fun hc => ?_) (fun hc => ?_)
    · have hf := itn hc hf
      refine g_aload_n (pc := 28) X dX11_as_28 rfl 0 rfl ?_
      refine g_getR (pc := 29) X fl_X11_52 (KClt hk1 (by decide)) hk1 hr3 dX11_as_29 ?_
      refine g_getR (pc := 32) X fl_X11_135 (KClt hk4 (by decide)) hk4 hr6 dX11_as_32 ?_
      obtain ⟨q12, hr13, hf⟩ := bnd_some hf
      refine g_getR (pc := 35) X fl_X11_334 (KClt hk9 (by decide)) hk9 hr13 dX11_as_35 ?_
      refine g_iload_n (pc := 38) X dX11_as_38 rfl 1 rfl ?_
      obtain ⟨hk14, hf⟩ := gp_some hf
      obtain ⟨hi15, hf⟩ := gp_some hf
      refine g_iald (pc := 39) X (KClt hk14 (by decide)) hk14 hi15 dX11_as_39 ?_
      refine g_iload_n (pc := 40) X dX11_as_40 rfl 2 rfl ?_
      obtain ⟨r17, hq16, hf⟩ := bnd_some hf
      refine g_callSI (pc := 41) (As := [.int (m.1 q12 v1.toNatClampNeg), .int v2]) (rest := []) X mi_X11_isKindOf sm_X11_isKindOf ml_X11_337 (cX11_isKindOf_ct z ad (m.1 q12 v1.toNatClampNeg) v2 m r17 hq16) rfl rfl (Nat.le_of_ble_eq_true rfl) ⟨rfl, rfl, by decide, by decide, Nat.le_refl _, Nat.le_refl _⟩ dX11_as_41 ?_
      refine g_if_eq (pc := 44) (tgt := 56) X dX11_as_44 (by decide) (fun hc => ?_) (fun hc => ?_)
      · have hf := itp hc hf
        refine g_aload_n (pc := 56) X dX11_as_56 rfl 0 rfl ?_
        refine g_iconst (v := (3 : Int32)) (pc := 57) X dX11_as_57 (by decide) ?_
        obtain ⟨r19, m20, hq18, hf⟩ := bnd2_some hf
        refine g_callVL (pc := 58) (As := [.int (3 : Int32)]) (rest := []) X mi_X11_found im_X11_found se_X11_found (KClt hk1 (by decide)) hk1 clX11 ml_X11_66 (cX11_found_ct z ad v0 (3 : Int32) m m20 r19 hq18) rfl rfl (Nat.le_of_ble_eq_true rfl) ⟨rfl, rfl, by decide, by decide, Nat.le_refl _, Nat.le_refl _⟩ dX11_as_58 ?_
        obtain ⟨rfl, rfl⟩ := som2 hf
        exact hret _ _ dX11_as_61
      · have hf := itn hc hf
        refine g_aload_n (pc := 47) X dX11_as_47 rfl 0 rfl ?_
        refine g_iload_n (pc := 48) X dX11_as_48 rfl 1 rfl ?_
        refine g_i2l (pc := 49) X dX11_as_49 ?_
        obtain ⟨r22, m23, hq21, hf⟩ := bnd2_some hf
        refine g_callVL (pc := 50) (As := [.long v1.toInt64]) (rest := []) X mi_X11_fine im_X11_fine se_X11_fine (KClt hk1 (by decide)) hk1 clX11 ml_X11_74 (cX11_fine_ct z ad v0 v1.toInt64 m m23 r22 hq21) rfl rfl (Nat.le_of_ble_eq_true rfl) ⟨rfl, rfl, by decide, by decide, Nat.le_refl _, Nat.le_refl _⟩ dX11_as_50 ?_
        refine g_goto (pc := 53) (tgt := 61) X dX11_as_53 (by decide) ?_
        obtain ⟨rfl, rfl⟩ := som2 hf
        exact hret _ _ dX11_as_61
    · have hf := itp hc hf
      refine g_ldc2 (pc := 24) X dX11_as_24 kl_X11_64 ?_
      obtain ⟨rfl, rfl⟩ := som2 hf
      exact hret _ _ dX11_as_27

noncomputable def fX0_begin (v0 : Nat) (v1 : Nat) (v2 : Int32) (m : Mem) : Option Mem := gp (KC v0 = 0) (lt1 (uI m v0 1 (0 : Int32)) (fun m2 => gp (KC v1 = 1) (bnd (fX1_isSign v1 v2 m2) (fun r5 => if r5 = 0 then (some m2) else (lt1 (uI m2 v0 2 v2) (fun m7 => bnd (m7.2.2 v1 0) (fun q9 => gp (KC q9 = 14) (gp (inb v2 (NC q9) = true) (lt1 (uI m7 v0 3 (m7.1 q9 v2.toNatClampNeg)) (fun m13 => bnd (m13.2.2 v1 1) (fun q15 => gp (KC q15 = 14) (gp (inb v2 (NC q15) = true) (lt1 (uI m13 v0 4 (m13.1 q15 v2.toNatClampNeg)) (fun m19 => bnd (m19.2.2 v1 2) (fun q21 => bnd (fX1_storiesWith v1 v2 q21 m19) (fun r24 => bnd (fJ6_bitCount_0f7a4 r24) (fun r26 => lt1 (uI m19 v0 5 r26) (fun m27 => some m27))))))))))))))))))
set_option maxHeartbeats 4000000 in
set_option maxRecDepth 100000 in
theorem cX0_begin_ct (z : Zx) (ad : Nat → Nat) (v0 : Nat) (v1 : Nat) (v2 : Int32) (m m2 : Mem) (hf : fX0_begin v0 v1 v2 m = some m2) : CtV z wC yX0_begin cX0_begin 3 none (Rm 4) ad 91 [.ref (ad v0), .ref (ad v1), .int v2] m m2 := by
  refine ct_ofV mi_X0_begin rfl (Nat.le_of_ble_eq_true rfl) (fun x X hret => ?_)
  refine g_lv [(0, .ref (ad v0)), (1, .ref (ad v1)), (2, .int v2)] [0, 1, 2] rfl ?_
  unfold fX0_begin at hf
  refine g_aload_n (pc := 0) X dX0_begin_0 rfl 0 rfl ?_
  refine g_iconst (v := (0 : Int32)) (pc := 1) X dX0_begin_1 (by decide) ?_
  obtain ⟨hk1, hf⟩ := gp_some hf
  refine g_putI (pc := 2) X fl_X0_15 (KClt hk1 (by decide)) hk1 rfl rfl dX0_begin_2 ?_
  obtain ⟨m2, e3, hf⟩ := lt1_some hf
  refine g_mem e3 ?_
  refine g_aload_n (pc := 5) X dX0_begin_5 rfl 1 rfl ?_
  refine g_iload_n (pc := 6) X dX0_begin_6 rfl 2 rfl ?_
  obtain ⟨hk6, hf⟩ := gp_some hf
  obtain ⟨r5, hq4, hf⟩ := bnd_some hf
  refine g_callVI (pc := 7) (As := [.int v2]) (rest := []) X mi_X1_isSign im_X1_isSign se_X1_isSign (KClt hk6 (by decide)) hk6 clX1 ml_X0_19 (cX1_isSign_ct z ad v1 v2 m2 r5 hq4) rfl rfl (Nat.le_of_ble_eq_true rfl) ⟨rfl, rfl, by decide, by decide, Nat.le_refl _, Nat.le_refl _⟩ dX0_begin_7 ?_
  refine g_if_eq (pc := 10) (tgt := 54) X dX0_begin_10 (by decide) (fun hc => ?_) (fun hc => ?_)
  · have hf := itp hc hf
    obtain rfl := Option.some.inj hf
    exact hret _ _ dX0_begin_54
  · have hf := itn hc hf
    refine g_aload_n (pc := 13) X dX0_begin_13 rfl 0 rfl ?_
    refine g_iload_n (pc := 14) X dX0_begin_14 rfl 2 rfl ?_
    refine g_putI (pc := 15) X fl_X0_25 (KClt hk1 (by decide)) hk1 rfl rfl dX0_begin_15 ?_
    obtain ⟨m7, e8, hf⟩ := lt1_some hf
    refine g_mem e8 ?_
    refine g_aload_n (pc := 18) X dX0_begin_18 rfl 0 rfl ?_
    refine g_aload_n (pc := 19) X dX0_begin_19 rfl 1 rfl ?_
    obtain ⟨q9, hr10, hf⟩ := bnd_some hf
    refine g_getR (pc := 20) X fl_X0_28 (KClt hk6 (by decide)) hk6 hr10 dX0_begin_20 ?_
    refine g_iload_n (pc := 23) X dX0_begin_23 rfl 2 rfl ?_
    obtain ⟨hk11, hf⟩ := gp_some hf
    obtain ⟨hi12, hf⟩ := gp_some hf
    refine g_iald (pc := 24) X (KClt hk11 (by decide)) hk11 hi12 dX0_begin_24 ?_
    refine g_putI (pc := 25) X fl_X0_31 (KClt hk1 (by decide)) hk1 rfl rfl dX0_begin_25 ?_
    obtain ⟨m13, e14, hf⟩ := lt1_some hf
    refine g_mem e14 ?_
    refine g_aload_n (pc := 28) X dX0_begin_28 rfl 0 rfl ?_
    refine g_aload_n (pc := 29) X dX0_begin_29 rfl 1 rfl ?_
    obtain ⟨q15, hr16, hf⟩ := bnd_some hf
    refine g_getR (pc := 30) X fl_X0_34 (KClt hk6 (by decide)) hk6 hr16 dX0_begin_30 ?_
    refine g_iload_n (pc := 33) X dX0_begin_33 rfl 2 rfl ?_
    obtain ⟨hk17, hf⟩ := gp_some hf
    obtain ⟨hi18, hf⟩ := gp_some hf
    refine g_iald (pc := 34) X (KClt hk17 (by decide)) hk17 hi18 dX0_begin_34 ?_
    refine g_putI (pc := 35) X fl_X0_37 (KClt hk1 (by decide)) hk1 rfl rfl dX0_begin_35 ?_
    obtain ⟨m19, e20, hf⟩ := lt1_some hf
    refine g_mem e20 ?_
    refine g_aload_n (pc := 38) X dX0_begin_38 rfl 0 rfl ?_
    refine g_aload_n (pc := 39) X dX0_begin_39 rfl 1 rfl ?_
    refine g_iload_n (pc := 40) X dX0_begin_40 rfl 2 rfl ?_
    refine g_aload_n (pc := 41) X dX0_begin_41 rfl 1 rfl ?_
    obtain ⟨q21, hr22, hf⟩ := bnd_some hf
    refine g_getR (pc := 42) X fl_X0_40 (KClt hk6 (by decide)) hk6 hr22 dX0_begin_42 ?_
    obtain ⟨r24, hq23, hf⟩ := bnd_some hf
    refine g_callVI (pc := 45) (As := [.int v2, .ref (ad q21)]) (rest := [.ref (ad v0)]) X mi_X1_storiesWith im_X1_storiesWith se_X1_storiesWith (KClt hk6 (by decide)) hk6 clX1 ml_X0_43 (cX1_storiesWith_ct z ad v1 v2 q21 m19 r24 hq23) rfl rfl (Nat.le_of_ble_eq_true rfl) ⟨rfl, rfl, by decide, by decide, Nat.le_refl _, Nat.le_refl _⟩ dX0_begin_45 ?_
    obtain ⟨r26, hq25, hf⟩ := bnd_some hf
    refine g_callSI (pc := 48) (As := [.int r24]) (rest := [.ref (ad v0)]) X mi_J6_bitCount_0f7a4 sm_J6_bitCount_0f7a4 ml_X0_47 (cJ6_bitCount_0f7a4_ct z ad r24 m19 r26 hq25) rfl rfl (Nat.le_of_ble_eq_true rfl) ⟨rfl, rfl, by decide, by decide, Nat.le_refl _, Nat.le_refl _⟩ dX0_begin_48 ?_
    refine g_putI (pc := 51) X fl_X0_53 (KClt hk1 (by decide)) hk1 rfl rfl dX0_begin_51 ?_
    obtain ⟨m27, e28, hf⟩ := lt1_some hf
    refine g_mem e28 ?_
    obtain rfl := Option.some.inj hf
    exact hret _ _ dX0_begin_54

noncomputable def fX0_write (v0 : Nat) (v1 : Int32) (m : Mem) : Option Mem := gp (KC v0 = 0) (if (16 : Int32) ≤ (m.1 v0 1) then (some m) else (bnd (m.2.2 v0 0) (fun q2 => gp (KC q2 = 14) (gp (inb (m.1 v0 1) (NC q2) = true) (lt1 (uI m q2 (m.1 v0 1).toNatClampNeg v1) (fun m6 => lt1 (uI m6 v0 1 ((m6.1 v0 1) + (1 : Int32))) (fun m8 => some m8)))))))
set_option maxHeartbeats 4000000 in
set_option maxRecDepth 100000 in
theorem cX0_write_ct (z : Zx) (ad : Nat → Nat) (v0 : Nat) (v1 : Int32) (m m2 : Mem) (hf : fX0_write v0 v1 m = some m2) : CtV z wC yX0_write cX0_write 2 none (Rm 2) ad 91 [.ref (ad v0), .int v1] m m2 := by
  refine ct_ofV mi_X0_write rfl (Nat.le_of_ble_eq_true rfl) (fun x X hret => ?_)
  refine g_lv [(0, .ref (ad v0)), (1, .int v1)] [0, 1] rfl ?_
  unfold fX0_write at hf
  refine g_aload_n (pc := 0) X dX0_write_0 rfl 0 rfl ?_
  obtain ⟨hk1, hf⟩ := gp_some hf
  refine g_getI (pc := 1) X fl_X0_15 (KClt hk1 (by decide)) hk1 dX0_write_1 ?_
  refine g_bipush (v := (16 : Int32)) (pc := 4) X dX0_write_4 (by decide) ?_
  refine g_icmp_ge (pc := 6) (tgt := 29) X dX0_write_6 (by decide) (fun hc => ?_) (fun hc => ?_)
  · have hf := itp hc hf
    obtain rfl := Option.some.inj hf
    exact hret _ _ dX0_write_29
  · have hf := itn hc hf
    refine g_aload_n (pc := 9) X dX0_write_9 rfl 0 rfl ?_
    obtain ⟨q2, hr3, hf⟩ := bnd_some hf
    refine g_getR (pc := 10) X fl_X0_9 (KClt hk1 (by decide)) hk1 hr3 dX0_write_10 ?_
    refine g_aload_n (pc := 13) X dX0_write_13 rfl 0 rfl ?_
    refine g_getI (pc := 14) X fl_X0_15 (KClt hk1 (by decide)) hk1 dX0_write_14 ?_
    refine g_iload_n (pc := 17) X dX0_write_17 rfl 1 rfl ?_
    obtain ⟨hk4, hf⟩ := gp_some hf
    obtain ⟨hi5, hf⟩ := gp_some hf
    refine g_iast (pc := 18) X (KClt hk4 (by decide)) hk4 hi5 dX0_write_18 ?_
    obtain ⟨m6, e7, hf⟩ := lt1_some hf
    refine g_mem e7 ?_
    refine g_aload_n (pc := 19) X dX0_write_19 rfl 0 rfl ?_
    refine g_dup (pc := 20) X dX0_write_20 rfl ?_
    refine g_getI (pc := 21) X fl_X0_15 (KClt hk1 (by decide)) hk1 dX0_write_21 ?_
    refine g_iconst (v := (1 : Int32)) (pc := 24) X dX0_write_24 (by decide) ?_
    refine g_iadd (pc := 25) X dX0_write_25 ?_
    refine g_putI (pc := 26) X fl_X0_15 (KClt hk1 (by decide)) hk1 rfl rfl dX0_write_26 ?_
    obtain ⟨m8, e9, hf⟩ := lt1_some hf
    refine g_mem e9 ?_
    obtain rfl := Option.some.inj hf
    exact hret _ _ dX0_write_29

noncomputable def fX0_body10 (v0 : Nat) (m : Mem) : Option (Int64 × Mem) := gp (KC v0 = 0) (bnd (fX0_write v0 (10 : Int32) m) (fun m2 => some ((m2.1 v0 4).toInt64, m2)))
set_option maxHeartbeats 4000000 in
set_option maxRecDepth 100000 in
theorem cX0_body10_ct (z : Zx) (ad : Nat → Nat) (v0 : Nat) (m m2 : Mem) (r : Int64) (hf : fX0_body10 v0 m = some (r, m2)) : CtL z wC yX0_body10 cX0_body10 1 (some .long) (Rm 3) ad 91 [.ref (ad v0)] m m2 r := by
  refine ct_ofL mi_X0_body10 rfl (Nat.le_of_ble_eq_true rfl) (fun x X hret => ?_)
  refine g_lv [(0, .ref (ad v0))] [0] rfl ?_
  unfold fX0_body10 at hf
  refine g_aload_n (pc := 0) X dX0_body10_0 rfl 0 rfl ?_
  refine g_bipush (v := (10 : Int32)) (pc := 1) X dX0_body10_1 (by decide) ?_
  obtain ⟨hk3, hf⟩ := gp_some hf
  obtain ⟨m2, hq1, hf⟩ := bnd_some hf
  refine g_callVV (pc := 3) (As := [.int (10 : Int32)]) (rest := []) X mi_X0_write im_X0_write se_X0_write (KClt hk3 (by decide)) hk3 clX0 ml_X0_88 (cX0_write_ct z ad v0 (10 : Int32) m m2 hq1) rfl rfl (Nat.le_of_ble_eq_true rfl) ⟨rfl, rfl, by decide, by decide, Nat.le_refl _, Nat.le_refl _⟩ dX0_body10_3 ?_
  refine g_aload_n (pc := 6) X dX0_body10_6 rfl 0 rfl ?_
  refine g_getI (pc := 7) X fl_X0_37 (KClt hk3 (by decide)) hk3 dX0_body10_7 ?_
  refine g_i2l (pc := 10) X dX0_body10_10 ?_
  obtain ⟨rfl, rfl⟩ := som2 hf
  exact hret _ _ dX0_body10_11

noncomputable def fX0_body20 (v0 : Nat) (m : Mem) : Option (Int64 × Mem) := gp (KC v0 = 0) (bnd (fX0_write v0 (20 : Int32) m) (fun m2 => some ((m2.1 v0 2).toInt64, m2)))
set_option maxHeartbeats 4000000 in
set_option maxRecDepth 100000 in
theorem cX0_body20_ct (z : Zx) (ad : Nat → Nat) (v0 : Nat) (m m2 : Mem) (r : Int64) (hf : fX0_body20 v0 m = some (r, m2)) : CtL z wC yX0_body20 cX0_body20 1 (some .long) (Rm 3) ad 91 [.ref (ad v0)] m m2 r := by
  refine ct_ofL mi_X0_body20 rfl (Nat.le_of_ble_eq_true rfl) (fun x X hret => ?_)
  refine g_lv [(0, .ref (ad v0))] [0] rfl ?_
  unfold fX0_body20 at hf
  refine g_aload_n (pc := 0) X dX0_body20_0 rfl 0 rfl ?_
  refine g_bipush (v := (20 : Int32)) (pc := 1) X dX0_body20_1 (by decide) ?_
  obtain ⟨hk3, hf⟩ := gp_some hf
  obtain ⟨m2, hq1, hf⟩ := bnd_some hf
  refine g_callVV (pc := 3) (As := [.int (20 : Int32)]) (rest := []) X mi_X0_write im_X0_write se_X0_write (KClt hk3 (by decide)) hk3 clX0 ml_X0_88 (cX0_write_ct z ad v0 (20 : Int32) m m2 hq1) rfl rfl (Nat.le_of_ble_eq_true rfl) ⟨rfl, rfl, by decide, by decide, Nat.le_refl _, Nat.le_refl _⟩ dX0_body20_3 ?_
  refine g_aload_n (pc := 6) X dX0_body20_6 rfl 0 rfl ?_
  refine g_getI (pc := 7) X fl_X0_25 (KClt hk3 (by decide)) hk3 dX0_body20_7 ?_
  refine g_i2l (pc := 10) X dX0_body20_10 ?_
  obtain ⟨rfl, rfl⟩ := som2 hf
  exact hret _ _ dX0_body20_11

noncomputable def fX0_body23 (v0 : Nat) (m : Mem) : Option (Int64 × Mem) := gp (KC v0 = 0) (bnd (fX0_write v0 (23 : Int32) m) (fun m2 => bnd2 (fX0_body20 v0 m2) (fun r5 m6 => some (r5 + ((m6.1 v0 5).toInt64), m6))))
set_option maxHeartbeats 4000000 in
set_option maxRecDepth 100000 in
theorem cX0_body23_ct (z : Zx) (ad : Nat → Nat) (v0 : Nat) (m m2 : Mem) (r : Int64) (hf : fX0_body23 v0 m = some (r, m2)) : CtL z wC yX0_body23 cX0_body23 1 (some .long) (Rm 4) ad 91 [.ref (ad v0)] m m2 r := by
  refine ct_ofL mi_X0_body23 rfl (Nat.le_of_ble_eq_true rfl) (fun x X hret => ?_)
  refine g_lv [(0, .ref (ad v0))] [0] rfl ?_
  unfold fX0_body23 at hf
  refine g_aload_n (pc := 0) X dX0_body23_0 rfl 0 rfl ?_
  refine g_bipush (v := (23 : Int32)) (pc := 1) X dX0_body23_1 (by decide) ?_
  obtain ⟨hk3, hf⟩ := gp_some hf
  obtain ⟨m2, hq1, hf⟩ := bnd_some hf
  refine g_callVV (pc := 3) (As := [.int (23 : Int32)]) (rest := []) X mi_X0_write im_X0_write se_X0_write (KClt hk3 (by decide)) hk3 clX0 ml_X0_88 (cX0_write_ct z ad v0 (23 : Int32) m m2 hq1) rfl rfl (Nat.le_of_ble_eq_true rfl) ⟨rfl, rfl, by decide, by decide, Nat.le_refl _, Nat.le_refl _⟩ dX0_body23_3 ?_
  refine g_aload_n (pc := 6) X dX0_body23_6 rfl 0 rfl ?_
  obtain ⟨r5, m6, hq4, hf⟩ := bnd2_some hf
  refine g_callVL (pc := 7) (As := []) (rest := []) X mi_X0_body20 im_X0_body20 se_X0_body20 (KClt hk3 (by decide)) hk3 clX0 ml_X0_85 (cX0_body20_ct z ad v0 m2 m6 r5 hq4) rfl rfl (Nat.le_of_ble_eq_true rfl) ⟨rfl, rfl, by decide, by decide, Nat.le_refl _, Nat.le_refl _⟩ dX0_body23_7 ?_
  refine g_aload_n (pc := 10) X dX0_body23_10 rfl 0 rfl ?_
  refine g_getI (pc := 11) X fl_X0_53 (KClt hk3 (by decide)) hk3 dX0_body23_11 ?_
  refine g_i2l (pc := 14) X dX0_body23_14 ?_
  refine g_ladd (pc := 15) X dX0_body23_15 ?_
  obtain ⟨rfl, rfl⟩ := som2 hf
  exact hret _ _ dX0_body23_16

noncomputable def fX0_body12 (v0 : Nat) (m : Mem) : Option (Int64 × Mem) := gp (KC v0 = 0) (bnd (fX0_write v0 (12 : Int32) m) (fun m2 => bnd2 (fX0_body10 v0 m2) (fun r5 m6 => some ((10 : Int64) * r5, m6))))
set_option maxHeartbeats 4000000 in
set_option maxRecDepth 100000 in
theorem cX0_body12_ct (z : Zx) (ad : Nat → Nat) (v0 : Nat) (m m2 : Mem) (r : Int64) (hf : fX0_body12 v0 m = some (r, m2)) : CtL z wC yX0_body12 cX0_body12 1 (some .long) (Rm 4) ad 91 [.ref (ad v0)] m m2 r := by
  refine ct_ofL mi_X0_body12 rfl (Nat.le_of_ble_eq_true rfl) (fun x X hret => ?_)
  refine g_lv [(0, .ref (ad v0))] [0] rfl ?_
  unfold fX0_body12 at hf
  refine g_aload_n (pc := 0) X dX0_body12_0 rfl 0 rfl ?_
  refine g_bipush (v := (12 : Int32)) (pc := 1) X dX0_body12_1 (by decide) ?_
  obtain ⟨hk3, hf⟩ := gp_some hf
  obtain ⟨m2, hq1, hf⟩ := bnd_some hf
  refine g_callVV (pc := 3) (As := [.int (12 : Int32)]) (rest := []) X mi_X0_write im_X0_write se_X0_write (KClt hk3 (by decide)) hk3 clX0 ml_X0_88 (cX0_write_ct z ad v0 (12 : Int32) m m2 hq1) rfl rfl (Nat.le_of_ble_eq_true rfl) ⟨rfl, rfl, by decide, by decide, Nat.le_refl _, Nat.le_refl _⟩ dX0_body12_3 ?_
  refine g_ldc2 (pc := 6) X dX0_body12_6 kl_X0_95 ?_
  refine g_aload_n (pc := 9) X dX0_body12_9 rfl 0 rfl ?_
  obtain ⟨r5, m6, hq4, hf⟩ := bnd2_some hf
  refine g_callVL (pc := 10) (As := []) (rest := [.long (10 : Int64)]) X mi_X0_body10 im_X0_body10 se_X0_body10 (KClt hk3 (by decide)) hk3 clX0 ml_X0_70 (cX0_body10_ct z ad v0 m2 m6 r5 hq4) rfl rfl (Nat.le_of_ble_eq_true rfl) ⟨rfl, rfl, by decide, by decide, Nat.le_refl _, Nat.le_refl _⟩ dX0_body12_10 ?_
  refine g_lmul (pc := 13) X dX0_body12_13 ?_
  obtain ⟨rfl, rfl⟩ := som2 hf
  exact hret _ _ dX0_body12_14

noncomputable def fX0_body13 (v0 : Nat) (m : Mem) : Option (Int64 × Mem) := gp (KC v0 = 0) (bnd (fX0_write v0 (13 : Int32) m) (fun m2 => bnd2 (fX0_body10 v0 m2) (fun r5 m6 => some (r5 + (1 : Int64), m6))))
set_option maxHeartbeats 4000000 in
set_option maxRecDepth 100000 in
theorem cX0_body13_ct (z : Zx) (ad : Nat → Nat) (v0 : Nat) (m m2 : Mem) (r : Int64) (hf : fX0_body13 v0 m = some (r, m2)) : CtL z wC yX0_body13 cX0_body13 1 (some .long) (Rm 4) ad 91 [.ref (ad v0)] m m2 r := by
  refine ct_ofL mi_X0_body13 rfl (Nat.le_of_ble_eq_true rfl) (fun x X hret => ?_)
  refine g_lv [(0, .ref (ad v0))] [0] rfl ?_
  unfold fX0_body13 at hf
  refine g_aload_n (pc := 0) X dX0_body13_0 rfl 0 rfl ?_
  refine g_bipush (v := (13 : Int32)) (pc := 1) X dX0_body13_1 (by decide) ?_
  obtain ⟨hk3, hf⟩ := gp_some hf
  obtain ⟨m2, hq1, hf⟩ := bnd_some hf
  refine g_callVV (pc := 3) (As := [.int (13 : Int32)]) (rest := []) X mi_X0_write im_X0_write se_X0_write (KClt hk3 (by decide)) hk3 clX0 ml_X0_88 (cX0_write_ct z ad v0 (13 : Int32) m m2 hq1) rfl rfl (Nat.le_of_ble_eq_true rfl) ⟨rfl, rfl, by decide, by decide, Nat.le_refl _, Nat.le_refl _⟩ dX0_body13_3 ?_
  refine g_aload_n (pc := 6) X dX0_body13_6 rfl 0 rfl ?_
  obtain ⟨r5, m6, hq4, hf⟩ := bnd2_some hf
  refine g_callVL (pc := 7) (As := []) (rest := []) X mi_X0_body10 im_X0_body10 se_X0_body10 (KClt hk3 (by decide)) hk3 clX0 ml_X0_70 (cX0_body10_ct z ad v0 m2 m6 r5 hq4) rfl rfl (Nat.le_of_ble_eq_true rfl) ⟨rfl, rfl, by decide, by decide, Nat.le_refl _, Nat.le_refl _⟩ dX0_body13_7 ?_
  refine g_lconst (v := (1 : Int64)) (pc := 10) X dX0_body13_10 (by decide) ?_
  refine g_ladd (pc := 11) X dX0_body13_11 ?_
  obtain ⟨rfl, rfl⟩ := som2 hf
  exact hret _ _ dX0_body13_12

noncomputable def fX0_body14 (v0 : Nat) (m : Mem) : Option (Int64 × Mem) := gp (KC v0 = 0) (bnd (fX0_write v0 (14 : Int32) m) (fun m2 => bnd2 (fX0_body13 v0 m2) (fun r5 m6 => some ((0 : Int64) - r5, m6))))
set_option maxHeartbeats 4000000 in
set_option maxRecDepth 100000 in
theorem cX0_body14_ct (z : Zx) (ad : Nat → Nat) (v0 : Nat) (m m2 : Mem) (r : Int64) (hf : fX0_body14 v0 m = some (r, m2)) : CtL z wC yX0_body14 cX0_body14 1 (some .long) (Rm 5) ad 91 [.ref (ad v0)] m m2 r := by
  refine ct_ofL mi_X0_body14 rfl (Nat.le_of_ble_eq_true rfl) (fun x X hret => ?_)
  refine g_lv [(0, .ref (ad v0))] [0] rfl ?_
  unfold fX0_body14 at hf
  refine g_aload_n (pc := 0) X dX0_body14_0 rfl 0 rfl ?_
  refine g_bipush (v := (14 : Int32)) (pc := 1) X dX0_body14_1 (by decide) ?_
  obtain ⟨hk3, hf⟩ := gp_some hf
  obtain ⟨m2, hq1, hf⟩ := bnd_some hf
  refine g_callVV (pc := 3) (As := [.int (14 : Int32)]) (rest := []) X mi_X0_write im_X0_write se_X0_write (KClt hk3 (by decide)) hk3 clX0 ml_X0_88 (cX0_write_ct z ad v0 (14 : Int32) m m2 hq1) rfl rfl (Nat.le_of_ble_eq_true rfl) ⟨rfl, rfl, by decide, by decide, Nat.le_refl _, Nat.le_refl _⟩ dX0_body14_3 ?_
  refine g_lconst (v := (0 : Int64)) (pc := 6) X dX0_body14_6 (by decide) ?_
  refine g_aload_n (pc := 7) X dX0_body14_7 rfl 0 rfl ?_
  obtain ⟨r5, m6, hq4, hf⟩ := bnd2_some hf
  refine g_callVL (pc := 8) (As := []) (rest := [.long (0 : Int64)]) X mi_X0_body13 im_X0_body13 se_X0_body13 (KClt hk3 (by decide)) hk3 clX0 ml_X0_64 (cX0_body13_ct z ad v0 m2 m6 r5 hq4) rfl rfl (Nat.le_of_ble_eq_true rfl) ⟨rfl, rfl, by decide, by decide, Nat.le_refl _, Nat.le_refl _⟩ dX0_body14_8 ?_
  refine g_lsub (pc := 11) X dX0_body14_11 ?_
  obtain ⟨rfl, rfl⟩ := som2 hf
  exact hret _ _ dX0_body14_12

noncomputable def fX0_askSize_L2 (v0 : Nat) (v1 : Int32) (m : Mem) : Option (Int64 × Mem) := if v1 ≤ (1 : Int32) then (gp (KC v0 = 0) (if (m.1 v0 3) = 2 then (none) else if (m.1 v0 3) = 3 then (bnd2 (fX0_body10 v0 m) (fun r4 m5 => some (r4, m5))) else if (m.1 v0 3) = 4 then (bnd2 (fX0_body10 v0 m) (fun r8 m9 => some (r8, m9))) else if (m.1 v0 3) = 5 then (bnd2 (fX0_body12 v0 m) (fun r12 m13 => some (r12, m13))) else if (m.1 v0 3) = 6 then (bnd2 (fX0_body13 v0 m) (fun r16 m17 => some (r16, m17))) else if (m.1 v0 3) = 7 then (bnd2 (fX0_body14 v0 m) (fun r20 m21 => some (r20, m21))) else bnd2 (fX0_body10 v0 m) (fun r24 m25 => some (r24, m25)))) else (some ((0 : Int64), m))
set_option maxHeartbeats 4000000 in
set_option maxRecDepth 100000 in
theorem cX0_askSize_L2_ct (z : Zx) (ad : Nat → Nat) (v0 : Nat) (v1 : Int32) (m m2 : Mem) (r : Int64) (hf : fX0_askSize_L2 v0 v1 m = some (r, m2)) : CtL z wC yX0_askSize cX0_askSize 2 (some .long) (Rm 9) ad 91 [.ref (ad v0), .int v1] m m2 r := by
  refine ct_ofL mi_X0_askSize rfl (Nat.le_of_ble_eq_true rfl) (fun x X hret => ?_)
  refine g_lv [(0, .ref (ad v0)), (1, .int v1)] [0, 1] rfl ?_
  unfold fX0_askSize_L2 at hf
  refine g_iload_n (pc := 0) X dX0_askSize_0 rfl 1 rfl ?_
  refine g_iconst (v := (1 : Int32)) (pc := 1) X dX0_askSize_1 (by decide) ?_
  refine g_icmp_le (pc := 2) (tgt := 7) X dX0_askSize_2 (by decide) (fun hc => ?_) (fun hc => ?_)
  · have hf := itp hc hf
    refine g_aload_n (pc := 7) X dX0_askSize_7 rfl 0 rfl ?_
    obtain ⟨hk1, hf⟩ := gp_some hf
    refine g_getI (pc := 8) X fl_X0_31 (KClt hk1 (by decide)) hk1 dX0_askSize_8 ?_
    by_cases hw2 : (m.1 v0 3) = 2
    · have hf := itp hw2 hf
      refine g_tblIn (pc := 11) (tgt := 48) (off := 37) X dX0_askSize_11 (by rw [hw2]; decide) (by rw [hw2]; decide) (by rw [hw2]; rfl) (by decide) ?_
      refine g_aload_n (pc := 48) X dX0_askSize_48 rfl 0 rfl ?_
      refine g_iload_n (pc := 49) X dX0_askSize_49 rfl 1 rfl ?_
      cases hf
    have hf := itn hw2 hf
    by_cases hw6 : (m.1 v0 3) = 3
    · have hf := itp hw6 hf
      refine g_tblIn (pc := 11) (tgt := 69) (off := 58) X dX0_askSize_11 (by rw [hw6]; decide) (by rw [hw6]; decide) (by rw [hw6]; rfl) (by decide) ?_
      refine g_aload_n (pc := 69) X dX0_askSize_69 rfl 0 rfl ?_
      obtain ⟨r4, m5, hq3, hf⟩ := bnd2_some hf
      refine g_callVL (pc := 70) (As := []) (rest := []) X mi_X0_body10 im_X0_body10 se_X0_body10 (KClt hk1 (by decide)) hk1 clX0 ml_X0_70 (cX0_body10_ct z ad v0 m m5 r4 hq3) rfl rfl (Nat.le_of_ble_eq_true rfl) ⟨rfl, rfl, by decide, by decide, Nat.le_refl _, Nat.le_refl _⟩ dX0_askSize_70 ?_
      obtain ⟨rfl, rfl⟩ := som2 hf
      exact hret _ _ dX0_askSize_73
    have hf := itn hw6 hf
    by_cases hw10 : (m.1 v0 3) = 4
    · have hf := itp hw10 hf
      refine g_tblIn (pc := 11) (tgt := 69) (off := 58) X dX0_askSize_11 (by rw [hw10]; decide) (by rw [hw10]; decide) (by rw [hw10]; rfl) (by decide) ?_
      refine g_aload_n (pc := 69) X dX0_askSize_69 rfl 0 rfl ?_
      obtain ⟨r8, m9, hq7, hf⟩ := bnd2_some hf
      refine g_callVL (pc := 70) (As := []) (rest := []) X mi_X0_body10 im_X0_body10 se_X0_body10 (KClt hk1 (by decide)) hk1 clX0 ml_X0_70 (cX0_body10_ct z ad v0 m m9 r8 hq7) rfl rfl (Nat.le_of_ble_eq_true rfl) ⟨rfl, rfl, by decide, by decide, Nat.le_refl _, Nat.le_refl _⟩ dX0_askSize_70 ?_
      obtain ⟨rfl, rfl⟩ := som2 hf
      exact hret _ _ dX0_askSize_73
    have hf := itn hw10 hf
    by_cases hw14 : (m.1 v0 3) = 5
    · have hf := itp hw14 hf
      refine g_tblIn (pc := 11) (tgt := 54) (off := 43) X dX0_askSize_11 (by rw [hw14]; decide) (by rw [hw14]; decide) (by rw [hw14]; rfl) (by decide) ?_
      refine g_aload_n (pc := 54) X dX0_askSize_54 rfl 0 rfl ?_
      obtain ⟨r12, m13, hq11, hf⟩ := bnd2_some hf
      refine g_callVL (pc := 55) (As := []) (rest := []) X mi_X0_body12 im_X0_body12 se_X0_body12 (KClt hk1 (by decide)) hk1 clX0 ml_X0_60 (cX0_body12_ct z ad v0 m m13 r12 hq11) rfl rfl (Nat.le_of_ble_eq_true rfl) ⟨rfl, rfl, by decide, by decide, Nat.le_refl _, Nat.le_refl _⟩ dX0_askSize_55 ?_
      obtain ⟨rfl, rfl⟩ := som2 hf
      exact hret _ _ dX0_askSize_58
    have hf := itn hw14 hf
    by_cases hw18 : (m.1 v0 3) = 6
    · have hf := itp hw18 hf
      refine g_tblIn (pc := 11) (tgt := 59) (off := 48) X dX0_askSize_11 (by rw [hw18]; decide) (by rw [hw18]; decide) (by rw [hw18]; rfl) (by decide) ?_
      refine g_aload_n (pc := 59) X dX0_askSize_59 rfl 0 rfl ?_
      obtain ⟨r16, m17, hq15, hf⟩ := bnd2_some hf
      refine g_callVL (pc := 60) (As := []) (rest := []) X mi_X0_body13 im_X0_body13 se_X0_body13 (KClt hk1 (by decide)) hk1 clX0 ml_X0_64 (cX0_body13_ct z ad v0 m m17 r16 hq15) rfl rfl (Nat.le_of_ble_eq_true rfl) ⟨rfl, rfl, by decide, by decide, Nat.le_refl _, Nat.le_refl _⟩ dX0_askSize_60 ?_
      obtain ⟨rfl, rfl⟩ := som2 hf
      exact hret _ _ dX0_askSize_63
    have hf := itn hw18 hf
    by_cases hw22 : (m.1 v0 3) = 7
    · have hf := itp hw22 hf
      refine g_tblIn (pc := 11) (tgt := 64) (off := 53) X dX0_askSize_11 (by rw [hw22]; decide) (by rw [hw22]; decide) (by rw [hw22]; rfl) (by decide) ?_
      refine g_aload_n (pc := 64) X dX0_askSize_64 rfl 0 rfl ?_
      obtain ⟨r20, m21, hq19, hf⟩ := bnd2_some hf
      refine g_callVL (pc := 65) (As := []) (rest := []) X mi_X0_body14 im_X0_body14 se_X0_body14 (KClt hk1 (by decide)) hk1 clX0 ml_X0_67 (cX0_body14_ct z ad v0 m m21 r20 hq19) rfl rfl (Nat.le_of_ble_eq_true rfl) ⟨rfl, rfl, by decide, by decide, Nat.le_refl _, Nat.le_refl _⟩ dX0_askSize_65 ?_
      obtain ⟨rfl, rfl⟩ := som2 hf
      exact hret _ _ dX0_askSize_68
    have hf := itn hw22 hf
    have hsw : (m.1 v0 3).toInt < 2 ∨ 7 < (m.1 v0 3).toInt := by
      have nhw2 : ¬ (m.1 v0 3).toInt = 2 := fun h => hw2 (Int32.toInt_inj.mp (by rw [h]; rfl))
      have nhw6 : ¬ (m.1 v0 3).toInt = 3 := fun h => hw6 (Int32.toInt_inj.mp (by rw [h]; rfl))
      have nhw10 : ¬ (m.1 v0 3).toInt = 4 := fun h => hw10 (Int32.toInt_inj.mp (by rw [h]; rfl))
      have nhw14 : ¬ (m.1 v0 3).toInt = 5 := fun h => hw14 (Int32.toInt_inj.mp (by rw [h]; rfl))
      have nhw18 : ¬ (m.1 v0 3).toInt = 6 := fun h => hw18 (Int32.toInt_inj.mp (by rw [h]; rfl))
      have nhw22 : ¬ (m.1 v0 3).toInt = 7 := fun h => hw22 (Int32.toInt_inj.mp (by rw [h]; rfl))
      omega
    refine g_tblOut (pc := 11) (tgt := 69) X dX0_askSize_11 hsw (by decide) ?_
    refine g_aload_n (pc := 69) X dX0_askSize_69 rfl 0 rfl ?_
    obtain ⟨r24, m25, hq23, hf⟩ := bnd2_some hf
    refine g_callVL (pc := 70) (As := []) (rest := []) X mi_X0_body10 im_X0_body10 se_X0_body10 (KClt hk1 (by decide)) hk1 clX0 ml_X0_70 (cX0_body10_ct z ad v0 m m25 r24 hq23) rfl rfl (Nat.le_of_ble_eq_true rfl) ⟨rfl, rfl, by decide, by decide, Nat.le_refl _, Nat.le_refl _⟩ dX0_askSize_70 ?_
    obtain ⟨rfl, rfl⟩ := som2 hf
    exact hret _ _ dX0_askSize_73
  · have hf := itn hc hf
    refine g_lconst (v := (0 : Int64)) (pc := 5) X dX0_askSize_5 (by decide) ?_
    obtain ⟨rfl, rfl⟩ := som2 hf
    exact hret _ _ dX0_askSize_6

noncomputable def fX0_askMark_L2 (v0 : Nat) (v1 : Int32) (m : Mem) : Option (Int64 × Mem) := if v1 ≤ (1 : Int32) then (gp (KC v0 = 0) (if (m.1 v0 3) = 3 then (none) else if (m.1 v0 3) = 4 then (none) else if (m.1 v0 3) = 5 then (none) else if (m.1 v0 3) = 6 then (bnd2 (fX0_body20 v0 m) (fun r6 m7 => some (r6, m7))) else if (m.1 v0 3) = 7 then (bnd2 (fX0_body23 v0 m) (fun r10 m11 => some (r10, m11))) else bnd2 (fX0_body20 v0 m) (fun r14 m15 => some (r14, m15)))) else (some ((0 : Int64), m))
set_option maxHeartbeats 4000000 in
set_option maxRecDepth 100000 in
theorem cX0_askMark_L2_ct (z : Zx) (ad : Nat → Nat) (v0 : Nat) (v1 : Int32) (m m2 : Mem) (r : Int64) (hf : fX0_askMark_L2 v0 v1 m = some (r, m2)) : CtL z wC yX0_askMark cX0_askMark 2 (some .long) (Rm 9) ad 91 [.ref (ad v0), .int v1] m m2 r := by
  refine ct_ofL mi_X0_askMark rfl (Nat.le_of_ble_eq_true rfl) (fun x X hret => ?_)
  refine g_lv [(0, .ref (ad v0)), (1, .int v1)] [0, 1] rfl ?_
  unfold fX0_askMark_L2 at hf
  refine g_iload_n (pc := 0) X dX0_askMark_0 rfl 1 rfl ?_
  refine g_iconst (v := (1 : Int32)) (pc := 1) X dX0_askMark_1 (by decide) ?_
  refine g_icmp_le (pc := 2) (tgt := 7) X dX0_askMark_2 (by decide) (fun hc => ?_) (fun hc => ?_)
  · have hf := itp hc hf
    refine g_aload_n (pc := 7) X dX0_askMark_7 rfl 0 rfl ?_
    obtain ⟨hk1, hf⟩ := gp_some hf
    refine g_getI (pc := 8) X fl_X0_31 (KClt hk1 (by decide)) hk1 dX0_askMark_8 ?_
    by_cases hw2 : (m.1 v0 3) = 3
    · have hf := itp hw2 hf
      refine g_tblIn (pc := 11) (tgt := 44) (off := 33) X dX0_askMark_11 (by rw [hw2]; decide) (by rw [hw2]; decide) (by rw [hw2]; rfl) (by decide) ?_
      refine g_aload_n (pc := 44) X dX0_askMark_44 rfl 0 rfl ?_
      refine g_iload_n (pc := 45) X dX0_askMark_45 rfl 1 rfl ?_
      cases hf
    have hf := itn hw2 hf
    by_cases hw3 : (m.1 v0 3) = 4
    · have hf := itp hw3 hf
      refine g_tblIn (pc := 11) (tgt := 50) (off := 39) X dX0_askMark_11 (by rw [hw3]; decide) (by rw [hw3]; decide) (by rw [hw3]; rfl) (by decide) ?_
      refine g_aload_n (pc := 50) X dX0_askMark_50 rfl 0 rfl ?_
      refine g_iload_n (pc := 51) X dX0_askMark_51 rfl 1 rfl ?_
      cases hf
    have hf := itn hw3 hf
    by_cases hw4 : (m.1 v0 3) = 5
    · have hf := itp hw4 hf
      refine g_tblIn (pc := 11) (tgt := 56) (off := 45) X dX0_askMark_11 (by rw [hw4]; decide) (by rw [hw4]; decide) (by rw [hw4]; rfl) (by decide) ?_
      refine g_aload_n (pc := 56) X dX0_askMark_56 rfl 0 rfl ?_
      refine g_iload_n (pc := 57) X dX0_askMark_57 rfl 1 rfl ?_
      cases hf
    have hf := itn hw4 hf
    by_cases hw8 : (m.1 v0 3) = 6
    · have hf := itp hw8 hf
      refine g_tblIn (pc := 11) (tgt := 67) (off := 56) X dX0_askMark_11 (by rw [hw8]; decide) (by rw [hw8]; decide) (by rw [hw8]; rfl) (by decide) ?_
      refine g_aload_n (pc := 67) X dX0_askMark_67 rfl 0 rfl ?_
      obtain ⟨r6, m7, hq5, hf⟩ := bnd2_some hf
      refine g_callVL (pc := 68) (As := []) (rest := []) X mi_X0_body20 im_X0_body20 se_X0_body20 (KClt hk1 (by decide)) hk1 clX0 ml_X0_85 (cX0_body20_ct z ad v0 m m7 r6 hq5) rfl rfl (Nat.le_of_ble_eq_true rfl) ⟨rfl, rfl, by decide, by decide, Nat.le_refl _, Nat.le_refl _⟩ dX0_askMark_68 ?_
      obtain ⟨rfl, rfl⟩ := som2 hf
      exact hret _ _ dX0_askMark_71
    have hf := itn hw8 hf
    by_cases hw12 : (m.1 v0 3) = 7
    · have hf := itp hw12 hf
      refine g_tblIn (pc := 11) (tgt := 62) (off := 51) X dX0_askMark_11 (by rw [hw12]; decide) (by rw [hw12]; decide) (by rw [hw12]; rfl) (by decide) ?_
      refine g_aload_n (pc := 62) X dX0_askMark_62 rfl 0 rfl ?_
      obtain ⟨r10, m11, hq9, hf⟩ := bnd2_some hf
      refine g_callVL (pc := 63) (As := []) (rest := []) X mi_X0_body23 im_X0_body23 se_X0_body23 (KClt hk1 (by decide)) hk1 clX0 ml_X0_82 (cX0_body23_ct z ad v0 m m11 r10 hq9) rfl rfl (Nat.le_of_ble_eq_true rfl) ⟨rfl, rfl, by decide, by decide, Nat.le_refl _, Nat.le_refl _⟩ dX0_askMark_63 ?_
      obtain ⟨rfl, rfl⟩ := som2 hf
      exact hret _ _ dX0_askMark_66
    have hf := itn hw12 hf
    have hsw : (m.1 v0 3).toInt < 3 ∨ 7 < (m.1 v0 3).toInt := by
      have nhw2 : ¬ (m.1 v0 3).toInt = 3 := fun h => hw2 (Int32.toInt_inj.mp (by rw [h]; rfl))
      have nhw3 : ¬ (m.1 v0 3).toInt = 4 := fun h => hw3 (Int32.toInt_inj.mp (by rw [h]; rfl))
      have nhw4 : ¬ (m.1 v0 3).toInt = 5 := fun h => hw4 (Int32.toInt_inj.mp (by rw [h]; rfl))
      have nhw8 : ¬ (m.1 v0 3).toInt = 6 := fun h => hw8 (Int32.toInt_inj.mp (by rw [h]; rfl))
      have nhw12 : ¬ (m.1 v0 3).toInt = 7 := fun h => hw12 (Int32.toInt_inj.mp (by rw [h]; rfl))
      omega
    refine g_tblOut (pc := 11) (tgt := 67) X dX0_askMark_11 hsw (by decide) ?_
    refine g_aload_n (pc := 67) X dX0_askMark_67 rfl 0 rfl ?_
    obtain ⟨r14, m15, hq13, hf⟩ := bnd2_some hf
    refine g_callVL (pc := 68) (As := []) (rest := []) X mi_X0_body20 im_X0_body20 se_X0_body20 (KClt hk1 (by decide)) hk1 clX0 ml_X0_85 (cX0_body20_ct z ad v0 m m15 r14 hq13) rfl rfl (Nat.le_of_ble_eq_true rfl) ⟨rfl, rfl, by decide, by decide, Nat.le_refl _, Nat.le_refl _⟩ dX0_askMark_68 ?_
    obtain ⟨rfl, rfl⟩ := som2 hf
    exact hret _ _ dX0_askMark_71
  · have hf := itn hc hf
    refine g_lconst (v := (0 : Int64)) (pc := 5) X dX0_askMark_5 (by decide) ?_
    obtain ⟨rfl, rfl⟩ := som2 hf
    exact hret _ _ dX0_askMark_6

noncomputable def fX0_body11_L1 (v0 : Nat) (v1 : Int32) (m : Mem) : Option (Int64 × Mem) := gp (KC v0 = 0) (bnd (fX0_write v0 (11 : Int32) m) (fun m2 => bnd2 (fX0_body10 v0 m2) (fun r5 m6 => bnd2 (fX0_askMark_L2 v0 (v1 + (1 : Int32)) m6) (fun r8 m9 => some (r5 + r8, m9)))))
set_option maxHeartbeats 4000000 in
set_option maxRecDepth 100000 in
theorem cX0_body11_L1_ct (z : Zx) (ad : Nat → Nat) (v0 : Nat) (v1 : Int32) (m m2 : Mem) (r : Int64) (hf : fX0_body11_L1 v0 v1 m = some (r, m2)) : CtL z wC yX0_body11 cX0_body11 2 (some .long) (Rm 11) ad 91 [.ref (ad v0), .int v1] m m2 r := by
  refine ct_ofL mi_X0_body11 rfl (Nat.le_of_ble_eq_true rfl) (fun x X hret => ?_)
  refine g_lv [(0, .ref (ad v0)), (1, .int v1)] [0, 1] rfl ?_
  unfold fX0_body11_L1 at hf
  refine g_aload_n (pc := 0) X dX0_body11_0 rfl 0 rfl ?_
  refine g_bipush (v := (11 : Int32)) (pc := 1) X dX0_body11_1 (by decide) ?_
  obtain ⟨hk3, hf⟩ := gp_some hf
  obtain ⟨m2, hq1, hf⟩ := bnd_some hf
  refine g_callVV (pc := 3) (As := [.int (11 : Int32)]) (rest := []) X mi_X0_write im_X0_write se_X0_write (KClt hk3 (by decide)) hk3 clX0 ml_X0_88 (cX0_write_ct z ad v0 (11 : Int32) m m2 hq1) rfl rfl (Nat.le_of_ble_eq_true rfl) ⟨rfl, rfl, by decide, by decide, Nat.le_refl _, Nat.le_refl _⟩ dX0_body11_3 ?_
  refine g_aload_n (pc := 6) X dX0_body11_6 rfl 0 rfl ?_
  obtain ⟨r5, m6, hq4, hf⟩ := bnd2_some hf
  refine g_callVL (pc := 7) (As := []) (rest := []) X mi_X0_body10 im_X0_body10 se_X0_body10 (KClt hk3 (by decide)) hk3 clX0 ml_X0_70 (cX0_body10_ct z ad v0 m2 m6 r5 hq4) rfl rfl (Nat.le_of_ble_eq_true rfl) ⟨rfl, rfl, by decide, by decide, Nat.le_refl _, Nat.le_refl _⟩ dX0_body11_7 ?_
  refine g_aload_n (pc := 10) X dX0_body11_10 rfl 0 rfl ?_
  refine g_iload_n (pc := 11) X dX0_body11_11 rfl 1 rfl ?_
  refine g_iconst (v := (1 : Int32)) (pc := 12) X dX0_body11_12 (by decide) ?_
  refine g_iadd (pc := 13) X dX0_body11_13 ?_
  obtain ⟨r8, m9, hq7, hf⟩ := bnd2_some hf
  refine g_callVL (pc := 14) (As := [.int (v1 + (1 : Int32))]) (rest := [.long r5]) X mi_X0_askMark im_X0_askMark se_X0_askMark (KClt hk3 (by decide)) hk3 clX0 ml_X0_92 (cX0_askMark_L2_ct z ad v0 (v1 + (1 : Int32)) m6 m9 r8 hq7) rfl rfl (Nat.le_of_ble_eq_true rfl) ⟨rfl, rfl, by decide, by decide, Nat.le_refl _, Nat.le_refl _⟩ dX0_body11_14 ?_
  refine g_ladd (pc := 17) X dX0_body11_17 ?_
  obtain ⟨rfl, rfl⟩ := som2 hf
  exact hret _ _ dX0_body11_18

noncomputable def fX0_body24_L1 (v0 : Nat) (v1 : Int32) (m : Mem) : Option (Int64 × Mem) := gp (KC v0 = 0) (bnd (fX0_write v0 (24 : Int32) m) (fun m2 => bnd2 (fX0_body20 v0 m2) (fun r5 m6 => bnd2 (fX0_askSize_L2 v0 (v1 + (1 : Int32)) m6) (fun r8 m9 => some (r5 - r8, m9)))))
set_option maxHeartbeats 4000000 in
set_option maxRecDepth 100000 in
theorem cX0_body24_L1_ct (z : Zx) (ad : Nat → Nat) (v0 : Nat) (v1 : Int32) (m m2 : Mem) (r : Int64) (hf : fX0_body24_L1 v0 v1 m = some (r, m2)) : CtL z wC yX0_body24 cX0_body24 2 (some .long) (Rm 11) ad 91 [.ref (ad v0), .int v1] m m2 r := by
  refine ct_ofL mi_X0_body24 rfl (Nat.le_of_ble_eq_true rfl) (fun x X hret => ?_)
  refine g_lv [(0, .ref (ad v0)), (1, .int v1)] [0, 1] rfl ?_
  unfold fX0_body24_L1 at hf
  refine g_aload_n (pc := 0) X dX0_body24_0 rfl 0 rfl ?_
  refine g_bipush (v := (24 : Int32)) (pc := 1) X dX0_body24_1 (by decide) ?_
  obtain ⟨hk3, hf⟩ := gp_some hf
  obtain ⟨m2, hq1, hf⟩ := bnd_some hf
  refine g_callVV (pc := 3) (As := [.int (24 : Int32)]) (rest := []) X mi_X0_write im_X0_write se_X0_write (KClt hk3 (by decide)) hk3 clX0 ml_X0_88 (cX0_write_ct z ad v0 (24 : Int32) m m2 hq1) rfl rfl (Nat.le_of_ble_eq_true rfl) ⟨rfl, rfl, by decide, by decide, Nat.le_refl _, Nat.le_refl _⟩ dX0_body24_3 ?_
  refine g_aload_n (pc := 6) X dX0_body24_6 rfl 0 rfl ?_
  obtain ⟨r5, m6, hq4, hf⟩ := bnd2_some hf
  refine g_callVL (pc := 7) (As := []) (rest := []) X mi_X0_body20 im_X0_body20 se_X0_body20 (KClt hk3 (by decide)) hk3 clX0 ml_X0_85 (cX0_body20_ct z ad v0 m2 m6 r5 hq4) rfl rfl (Nat.le_of_ble_eq_true rfl) ⟨rfl, rfl, by decide, by decide, Nat.le_refl _, Nat.le_refl _⟩ dX0_body24_7 ?_
  refine g_aload_n (pc := 10) X dX0_body24_10 rfl 0 rfl ?_
  refine g_iload_n (pc := 11) X dX0_body24_11 rfl 1 rfl ?_
  refine g_iconst (v := (1 : Int32)) (pc := 12) X dX0_body24_12 (by decide) ?_
  refine g_iadd (pc := 13) X dX0_body24_13 ?_
  obtain ⟨r8, m9, hq7, hf⟩ := bnd2_some hf
  refine g_callVL (pc := 14) (As := [.int (v1 + (1 : Int32))]) (rest := [.long r5]) X mi_X0_askSize im_X0_askSize se_X0_askSize (KClt hk3 (by decide)) hk3 clX0 ml_X0_97 (cX0_askSize_L2_ct z ad v0 (v1 + (1 : Int32)) m6 m9 r8 hq7) rfl rfl (Nat.le_of_ble_eq_true rfl) ⟨rfl, rfl, by decide, by decide, Nat.le_refl _, Nat.le_refl _⟩ dX0_body24_14 ?_
  refine g_lsub (pc := 17) X dX0_body24_17 ?_
  obtain ⟨rfl, rfl⟩ := som2 hf
  exact hret _ _ dX0_body24_18

noncomputable def fX0_body21_L1 (v0 : Nat) (v1 : Int32) (m : Mem) : Option (Int64 × Mem) := gp (KC v0 = 0) (bnd (fX0_write v0 (21 : Int32) m) (fun m2 => bnd2 (fX0_body20 v0 m2) (fun r5 m6 => bnd2 (fX0_askSize_L2 v0 (v1 + (1 : Int32)) m6) (fun r8 m9 => some (r5 + r8, m9)))))
set_option maxHeartbeats 4000000 in
set_option maxRecDepth 100000 in
theorem cX0_body21_L1_ct (z : Zx) (ad : Nat → Nat) (v0 : Nat) (v1 : Int32) (m m2 : Mem) (r : Int64) (hf : fX0_body21_L1 v0 v1 m = some (r, m2)) : CtL z wC yX0_body21 cX0_body21 2 (some .long) (Rm 11) ad 91 [.ref (ad v0), .int v1] m m2 r := by
  refine ct_ofL mi_X0_body21 rfl (Nat.le_of_ble_eq_true rfl) (fun x X hret => ?_)
  refine g_lv [(0, .ref (ad v0)), (1, .int v1)] [0, 1] rfl ?_
  unfold fX0_body21_L1 at hf
  refine g_aload_n (pc := 0) X dX0_body21_0 rfl 0 rfl ?_
  refine g_bipush (v := (21 : Int32)) (pc := 1) X dX0_body21_1 (by decide) ?_
  obtain ⟨hk3, hf⟩ := gp_some hf
  obtain ⟨m2, hq1, hf⟩ := bnd_some hf
  refine g_callVV (pc := 3) (As := [.int (21 : Int32)]) (rest := []) X mi_X0_write im_X0_write se_X0_write (KClt hk3 (by decide)) hk3 clX0 ml_X0_88 (cX0_write_ct z ad v0 (21 : Int32) m m2 hq1) rfl rfl (Nat.le_of_ble_eq_true rfl) ⟨rfl, rfl, by decide, by decide, Nat.le_refl _, Nat.le_refl _⟩ dX0_body21_3 ?_
  refine g_aload_n (pc := 6) X dX0_body21_6 rfl 0 rfl ?_
  obtain ⟨r5, m6, hq4, hf⟩ := bnd2_some hf
  refine g_callVL (pc := 7) (As := []) (rest := []) X mi_X0_body20 im_X0_body20 se_X0_body20 (KClt hk3 (by decide)) hk3 clX0 ml_X0_85 (cX0_body20_ct z ad v0 m2 m6 r5 hq4) rfl rfl (Nat.le_of_ble_eq_true rfl) ⟨rfl, rfl, by decide, by decide, Nat.le_refl _, Nat.le_refl _⟩ dX0_body21_7 ?_
  refine g_aload_n (pc := 10) X dX0_body21_10 rfl 0 rfl ?_
  refine g_iload_n (pc := 11) X dX0_body21_11 rfl 1 rfl ?_
  refine g_iconst (v := (1 : Int32)) (pc := 12) X dX0_body21_12 (by decide) ?_
  refine g_iadd (pc := 13) X dX0_body21_13 ?_
  obtain ⟨r8, m9, hq7, hf⟩ := bnd2_some hf
  refine g_callVL (pc := 14) (As := [.int (v1 + (1 : Int32))]) (rest := [.long r5]) X mi_X0_askSize im_X0_askSize se_X0_askSize (KClt hk3 (by decide)) hk3 clX0 ml_X0_97 (cX0_askSize_L2_ct z ad v0 (v1 + (1 : Int32)) m6 m9 r8 hq7) rfl rfl (Nat.le_of_ble_eq_true rfl) ⟨rfl, rfl, by decide, by decide, Nat.le_refl _, Nat.le_refl _⟩ dX0_body21_14 ?_
  refine g_ladd (pc := 17) X dX0_body21_17 ?_
  obtain ⟨rfl, rfl⟩ := som2 hf
  exact hret _ _ dX0_body21_18

noncomputable def fX0_body22_L1 (v0 : Nat) (v1 : Int32) (m : Mem) : Option (Int64 × Mem) := gp (KC v0 = 0) (bnd (fX0_write v0 (22 : Int32) m) (fun m2 => bnd2 (fX0_body21_L1 v0 v1 m2) (fun r5 m6 => some (r5 + (100 : Int64), m6))))
set_option maxHeartbeats 4000000 in
set_option maxRecDepth 100000 in
theorem cX0_body22_L1_ct (z : Zx) (ad : Nat → Nat) (v0 : Nat) (v1 : Int32) (m m2 : Mem) (r : Int64) (hf : fX0_body22_L1 v0 v1 m = some (r, m2)) : CtL z wC yX0_body22 cX0_body22 2 (some .long) (Rm 12) ad 91 [.ref (ad v0), .int v1] m m2 r := by
  refine ct_ofL mi_X0_body22 rfl (Nat.le_of_ble_eq_true rfl) (fun x X hret => ?_)
  refine g_lv [(0, .ref (ad v0)), (1, .int v1)] [0, 1] rfl ?_
  unfold fX0_body22_L1 at hf
  refine g_aload_n (pc := 0) X dX0_body22_0 rfl 0 rfl ?_
  refine g_bipush (v := (22 : Int32)) (pc := 1) X dX0_body22_1 (by decide) ?_
  obtain ⟨hk3, hf⟩ := gp_some hf
  obtain ⟨m2, hq1, hf⟩ := bnd_some hf
  refine g_callVV (pc := 3) (As := [.int (22 : Int32)]) (rest := []) X mi_X0_write im_X0_write se_X0_write (KClt hk3 (by decide)) hk3 clX0 ml_X0_88 (cX0_write_ct z ad v0 (22 : Int32) m m2 hq1) rfl rfl (Nat.le_of_ble_eq_true rfl) ⟨rfl, rfl, by decide, by decide, Nat.le_refl _, Nat.le_refl _⟩ dX0_body22_3 ?_
  refine g_aload_n (pc := 6) X dX0_body22_6 rfl 0 rfl ?_
  refine g_iload_n (pc := 7) X dX0_body22_7 rfl 1 rfl ?_
  obtain ⟨r5, m6, hq4, hf⟩ := bnd2_some hf
  refine g_callVL (pc := 8) (As := [.int v1]) (rest := []) X mi_X0_body21 im_X0_body21 se_X0_body21 (KClt hk3 (by decide)) hk3 clX0 ml_X0_76 (cX0_body21_L1_ct z ad v0 v1 m2 m6 r5 hq4) rfl rfl (Nat.le_of_ble_eq_true rfl) ⟨rfl, rfl, by decide, by decide, Nat.le_refl _, Nat.le_refl _⟩ dX0_body22_8 ?_
  refine g_ldc2 (pc := 11) X dX0_body22_11 kl_X0_100 ?_
  refine g_ladd (pc := 14) X dX0_body22_14 ?_
  obtain ⟨rfl, rfl⟩ := som2 hf
  exact hret _ _ dX0_body22_15

noncomputable def fX0_askSize_L1 (v0 : Nat) (v1 : Int32) (m : Mem) : Option (Int64 × Mem) := if v1 ≤ (1 : Int32) then (gp (KC v0 = 0) (if (m.1 v0 3) = 2 then (bnd2 (fX0_body11_L1 v0 v1 m) (fun r3 m4 => some (r3, m4))) else if (m.1 v0 3) = 3 then (bnd2 (fX0_body10 v0 m) (fun r7 m8 => some (r7, m8))) else if (m.1 v0 3) = 4 then (bnd2 (fX0_body10 v0 m) (fun r11 m12 => some (r11, m12))) else if (m.1 v0 3) = 5 then (bnd2 (fX0_body12 v0 m) (fun r15 m16 => some (r15, m16))) else if (m.1 v0 3) = 6 then (bnd2 (fX0_body13 v0 m) (fun r19 m20 => some (r19, m20))) else if (m.1 v0 3) = 7 then (bnd2 (fX0_body14 v0 m) (fun r23 m24 => some (r23, m24))) else bnd2 (fX0_body10 v0 m) (fun r27 m28 => some (r27, m28)))) else (some ((0 : Int64), m))
set_option maxHeartbeats 4000000 in
set_option maxRecDepth 100000 in
theorem cX0_askSize_L1_ct (z : Zx) (ad : Nat → Nat) (v0 : Nat) (v1 : Int32) (m m2 : Mem) (r : Int64) (hf : fX0_askSize_L1 v0 v1 m = some (r, m2)) : CtL z wC yX0_askSize cX0_askSize 2 (some .long) (Rm 13) ad 91 [.ref (ad v0), .int v1] m m2 r := by
  refine ct_ofL mi_X0_askSize rfl (Nat.le_of_ble_eq_true rfl) (fun x X hret => ?_)
  refine g_lv [(0, .ref (ad v0)), (1, .int v1)] [0, 1] rfl ?_
  unfold fX0_askSize_L1 at hf
  refine g_iload_n (pc := 0) X dX0_askSize_0 rfl 1 rfl ?_
  refine g_iconst (v := (1 : Int32)) (pc := 1) X dX0_askSize_1 (by decide) ?_
  refine g_icmp_le (pc := 2) (tgt := 7) X dX0_askSize_2 (by decide) (fun hc => ?_) (fun hc => ?_)
  · have hf := itp hc hf
    refine g_aload_n (pc := 7) X dX0_askSize_7 rfl 0 rfl ?_
    obtain ⟨hk1, hf⟩ := gp_some hf
    refine g_getI (pc := 8) X fl_X0_31 (KClt hk1 (by decide)) hk1 dX0_askSize_8 ?_
    by_cases hw5 : (m.1 v0 3) = 2
    · have hf := itp hw5 hf
      refine g_tblIn (pc := 11) (tgt := 48) (off := 37) X dX0_askSize_11 (by rw [hw5]; decide) (by rw [hw5]; decide) (by rw [hw5]; rfl) (by decide) ?_
      refine g_aload_n (pc := 48) X dX0_askSize_48 rfl 0 rfl ?_
      refine g_iload_n (pc := 49) X dX0_askSize_49 rfl 1 rfl ?_
      obtain ⟨r3, m4, hq2, hf⟩ := bnd2_some hf
      refine g_callVL (pc := 50) (As := [.int v1]) (rest := []) X mi_X0_body11 im_X0_body11 se_X0_body11 (KClt hk1 (by decide)) hk1 clX0 ml_X0_56 (cX0_body11_L1_ct z ad v0 v1 m m4 r3 hq2) rfl rfl (Nat.le_of_ble_eq_true rfl) ⟨rfl, rfl, by decide, by decide, Nat.le_refl _, Nat.le_refl _⟩ dX0_askSize_50 ?_
      obtain ⟨rfl, rfl⟩ := som2 hf
      exact hret _ _ dX0_askSize_53
    have hf := itn hw5 hf
    by_cases hw9 : (m.1 v0 3) = 3
    · have hf := itp hw9 hf
      refine g_tblIn (pc := 11) (tgt := 69) (off := 58) X dX0_askSize_11 (by rw [hw9]; decide) (by rw [hw9]; decide) (by rw [hw9]; rfl) (by decide) ?_
      refine g_aload_n (pc := 69) X dX0_askSize_69 rfl 0 rfl ?_
      obtain ⟨r7, m8, hq6, hf⟩ := bnd2_some hf
      refine g_callVL (pc := 70) (As := []) (rest := []) X mi_X0_body10 im_X0_body10 se_X0_body10 (KClt hk1 (by decide)) hk1 clX0 ml_X0_70 (cX0_body10_ct z ad v0 m m8 r7 hq6) rfl rfl (Nat.le_of_ble_eq_true rfl) ⟨rfl, rfl, by decide, by decide, Nat.le_refl _, Nat.le_refl _⟩ dX0_askSize_70 ?_
      obtain ⟨rfl, rfl⟩ := som2 hf
      exact hret _ _ dX0_askSize_73
    have hf := itn hw9 hf
    by_cases hw13 : (m.1 v0 3) = 4
    · have hf := itp hw13 hf
      refine g_tblIn (pc := 11) (tgt := 69) (off := 58) X dX0_askSize_11 (by rw [hw13]; decide) (by rw [hw13]; decide) (by rw [hw13]; rfl) (by decide) ?_
      refine g_aload_n (pc := 69) X dX0_askSize_69 rfl 0 rfl ?_
      obtain ⟨r11, m12, hq10, hf⟩ := bnd2_some hf
      refine g_callVL (pc := 70) (As := []) (rest := []) X mi_X0_body10 im_X0_body10 se_X0_body10 (KClt hk1 (by decide)) hk1 clX0 ml_X0_70 (cX0_body10_ct z ad v0 m m12 r11 hq10) rfl rfl (Nat.le_of_ble_eq_true rfl) ⟨rfl, rfl, by decide, by decide, Nat.le_refl _, Nat.le_refl _⟩ dX0_askSize_70 ?_
      obtain ⟨rfl, rfl⟩ := som2 hf
      exact hret _ _ dX0_askSize_73
    have hf := itn hw13 hf
    by_cases hw17 : (m.1 v0 3) = 5
    · have hf := itp hw17 hf
      refine g_tblIn (pc := 11) (tgt := 54) (off := 43) X dX0_askSize_11 (by rw [hw17]; decide) (by rw [hw17]; decide) (by rw [hw17]; rfl) (by decide) ?_
      refine g_aload_n (pc := 54) X dX0_askSize_54 rfl 0 rfl ?_
      obtain ⟨r15, m16, hq14, hf⟩ := bnd2_some hf
      refine g_callVL (pc := 55) (As := []) (rest := []) X mi_X0_body12 im_X0_body12 se_X0_body12 (KClt hk1 (by decide)) hk1 clX0 ml_X0_60 (cX0_body12_ct z ad v0 m m16 r15 hq14) rfl rfl (Nat.le_of_ble_eq_true rfl) ⟨rfl, rfl, by decide, by decide, Nat.le_refl _, Nat.le_refl _⟩ dX0_askSize_55 ?_
      obtain ⟨rfl, rfl⟩ := som2 hf
      exact hret _ _ dX0_askSize_58
    have hf := itn hw17 hf
    by_cases hw21 : (m.1 v0 3) = 6
    · have hf := itp hw21 hf
      refine g_tblIn (pc := 11) (tgt := 59) (off := 48) X dX0_askSize_11 (by rw [hw21]; decide) (by rw [hw21]; decide) (by rw [hw21]; rfl) (by decide) ?_
      refine g_aload_n (pc := 59) X dX0_askSize_59 rfl 0 rfl ?_
      obtain ⟨r19, m20, hq18, hf⟩ := bnd2_some hf
      refine g_callVL (pc := 60) (As := []) (rest := []) X mi_X0_body13 im_X0_body13 se_X0_body13 (KClt hk1 (by decide)) hk1 clX0 ml_X0_64 (cX0_body13_ct z ad v0 m m20 r19 hq18) rfl rfl (Nat.le_of_ble_eq_true rfl) ⟨rfl, rfl, by decide, by decide, Nat.le_refl _, Nat.le_refl _⟩ dX0_askSize_60 ?_
      obtain ⟨rfl, rfl⟩ := som2 hf
      exact hret _ _ dX0_askSize_63
    have hf := itn hw21 hf
    by_cases hw25 : (m.1 v0 3) = 7
    · have hf := itp hw25 hf
      refine g_tblIn (pc := 11) (tgt := 64) (off := 53) X dX0_askSize_11 (by rw [hw25]; decide) (by rw [hw25]; decide) (by rw [hw25]; rfl) (by decide) ?_
      refine g_aload_n (pc := 64) X dX0_askSize_64 rfl 0 rfl ?_
      obtain ⟨r23, m24, hq22, hf⟩ := bnd2_some hf
      refine g_callVL (pc := 65) (As := []) (rest := []) X mi_X0_body14 im_X0_body14 se_X0_body14 (KClt hk1 (by decide)) hk1 clX0 ml_X0_67 (cX0_body14_ct z ad v0 m m24 r23 hq22) rfl rfl (Nat.le_of_ble_eq_true rfl) ⟨rfl, rfl, by decide, by decide, Nat.le_refl _, Nat.le_refl _⟩ dX0_askSize_65 ?_
      obtain ⟨rfl, rfl⟩ := som2 hf
      exact hret _ _ dX0_askSize_68
    have hf := itn hw25 hf
    have hsw : (m.1 v0 3).toInt < 2 ∨ 7 < (m.1 v0 3).toInt := by
      have nhw5 : ¬ (m.1 v0 3).toInt = 2 := fun h => hw5 (Int32.toInt_inj.mp (by rw [h]; rfl))
      have nhw9 : ¬ (m.1 v0 3).toInt = 3 := fun h => hw9 (Int32.toInt_inj.mp (by rw [h]; rfl))
      have nhw13 : ¬ (m.1 v0 3).toInt = 4 := fun h => hw13 (Int32.toInt_inj.mp (by rw [h]; rfl))
      have nhw17 : ¬ (m.1 v0 3).toInt = 5 := fun h => hw17 (Int32.toInt_inj.mp (by rw [h]; rfl))
      have nhw21 : ¬ (m.1 v0 3).toInt = 6 := fun h => hw21 (Int32.toInt_inj.mp (by rw [h]; rfl))
      have nhw25 : ¬ (m.1 v0 3).toInt = 7 := fun h => hw25 (Int32.toInt_inj.mp (by rw [h]; rfl))
      omega
    refine g_tblOut (pc := 11) (tgt := 69) X dX0_askSize_11 hsw (by decide) ?_
    refine g_aload_n (pc := 69) X dX0_askSize_69 rfl 0 rfl ?_
    obtain ⟨r27, m28, hq26, hf⟩ := bnd2_some hf
    refine g_callVL (pc := 70) (As := []) (rest := []) X mi_X0_body10 im_X0_body10 se_X0_body10 (KClt hk1 (by decide)) hk1 clX0 ml_X0_70 (cX0_body10_ct z ad v0 m m28 r27 hq26) rfl rfl (Nat.le_of_ble_eq_true rfl) ⟨rfl, rfl, by decide, by decide, Nat.le_refl _, Nat.le_refl _⟩ dX0_askSize_70 ?_
    obtain ⟨rfl, rfl⟩ := som2 hf
    exact hret _ _ dX0_askSize_73
  · have hf := itn hc hf
    refine g_lconst (v := (0 : Int64)) (pc := 5) X dX0_askSize_5 (by decide) ?_
    obtain ⟨rfl, rfl⟩ := som2 hf
    exact hret _ _ dX0_askSize_6

noncomputable def fX0_askMark_L1 (v0 : Nat) (v1 : Int32) (m : Mem) : Option (Int64 × Mem) := if v1 ≤ (1 : Int32) then (gp (KC v0 = 0) (if (m.1 v0 3) = 3 then (bnd2 (fX0_body24_L1 v0 v1 m) (fun r3 m4 => some (r3, m4))) else if (m.1 v0 3) = 4 then (bnd2 (fX0_body21_L1 v0 v1 m) (fun r7 m8 => some (r7, m8))) else if (m.1 v0 3) = 5 then (bnd2 (fX0_body22_L1 v0 v1 m) (fun r11 m12 => some (r11, m12))) else if (m.1 v0 3) = 6 then (bnd2 (fX0_body20 v0 m) (fun r15 m16 => some (r15, m16))) else if (m.1 v0 3) = 7 then (bnd2 (fX0_body23 v0 m) (fun r19 m20 => some (r19, m20))) else bnd2 (fX0_body20 v0 m) (fun r23 m24 => some (r23, m24)))) else (some ((0 : Int64), m))
set_option maxHeartbeats 4000000 in
set_option maxRecDepth 100000 in
theorem cX0_askMark_L1_ct (z : Zx) (ad : Nat → Nat) (v0 : Nat) (v1 : Int32) (m m2 : Mem) (r : Int64) (hf : fX0_askMark_L1 v0 v1 m = some (r, m2)) : CtL z wC yX0_askMark cX0_askMark 2 (some .long) (Rm 13) ad 91 [.ref (ad v0), .int v1] m m2 r := by
  refine ct_ofL mi_X0_askMark rfl (Nat.le_of_ble_eq_true rfl) (fun x X hret => ?_)
  refine g_lv [(0, .ref (ad v0)), (1, .int v1)] [0, 1] rfl ?_
  unfold fX0_askMark_L1 at hf
  refine g_iload_n (pc := 0) X dX0_askMark_0 rfl 1 rfl ?_
  refine g_iconst (v := (1 : Int32)) (pc := 1) X dX0_askMark_1 (by decide) ?_
  refine g_icmp_le (pc := 2) (tgt := 7) X dX0_askMark_2 (by decide) (fun hc => ?_) (fun hc => ?_)
  · have hf := itp hc hf
    refine g_aload_n (pc := 7) X dX0_askMark_7 rfl 0 rfl ?_
    obtain ⟨hk1, hf⟩ := gp_some hf
    refine g_getI (pc := 8) X fl_X0_31 (KClt hk1 (by decide)) hk1 dX0_askMark_8 ?_
    by_cases hw5 : (m.1 v0 3) = 3
    · have hf := itp hw5 hf
      refine g_tblIn (pc := 11) (tgt := 44) (off := 33) X dX0_askMark_11 (by rw [hw5]; decide) (by rw [hw5]; decide) (by rw [hw5]; rfl) (by decide) ?_
      refine g_aload_n (pc := 44) X dX0_askMark_44 rfl 0 rfl ?_
      refine g_iload_n (pc := 45) X dX0_askMark_45 rfl 1 rfl ?_
      obtain ⟨r3, m4, hq2, hf⟩ := bnd2_some hf
      refine g_callVL (pc := 46) (As := [.int v1]) (rest := []) X mi_X0_body24 im_X0_body24 se_X0_body24 (KClt hk1 (by decide)) hk1 clX0 ml_X0_73 (cX0_body24_L1_ct z ad v0 v1 m m4 r3 hq2) rfl rfl (Nat.le_of_ble_eq_true rfl) ⟨rfl, rfl, by decide, by decide, Nat.le_refl _, Nat.le_refl _⟩ dX0_askMark_46 ?_
      obtain ⟨rfl, rfl⟩ := som2 hf
      exact hret _ _ dX0_askMark_49
    have hf := itn hw5 hf
    by_cases hw9 : (m.1 v0 3) = 4
    · have hf := itp hw9 hf
      refine g_tblIn (pc := 11) (tgt := 50) (off := 39) X dX0_askMark_11 (by rw [hw9]; decide) (by rw [hw9]; decide) (by rw [hw9]; rfl) (by decide) ?_
      refine g_aload_n (pc := 50) X dX0_askMark_50 rfl 0 rfl ?_
      refine g_iload_n (pc := 51) X dX0_askMark_51 rfl 1 rfl ?_
      obtain ⟨r7, m8, hq6, hf⟩ := bnd2_some hf
      refine g_callVL (pc := 52) (As := [.int v1]) (rest := []) X mi_X0_body21 im_X0_body21 se_X0_body21 (KClt hk1 (by decide)) hk1 clX0 ml_X0_76 (cX0_body21_L1_ct z ad v0 v1 m m8 r7 hq6) rfl rfl (Nat.le_of_ble_eq_true rfl) ⟨rfl, rfl, by decide, by decide, Nat.le_refl _, Nat.le_refl _⟩ dX0_askMark_52 ?_
      obtain ⟨rfl, rfl⟩ := som2 hf
      exact hret _ _ dX0_askMark_55
    have hf := itn hw9 hf
    by_cases hw13 : (m.1 v0 3) = 5
    · have hf := itp hw13 hf
      refine g_tblIn (pc := 11) (tgt := 56) (off := 45) X dX0_askMark_11 (by rw [hw13]; decide) (by rw [hw13]; decide) (by rw [hw13]; rfl) (by decide) ?_
      refine g_aload_n (pc := 56) X dX0_askMark_56 rfl 0 rfl ?_
      refine g_iload_n (pc := 57) X dX0_askMark_57 rfl 1 rfl ?_
      obtain ⟨r11, m12, hq10, hf⟩ := bnd2_some hf
      refine g_callVL (pc := 58) (As := [.int v1]) (rest := []) X mi_X0_body22 im_X0_body22 se_X0_body22 (KClt hk1 (by decide)) hk1 clX0 ml_X0_79 (cX0_body22_L1_ct z ad v0 v1 m m12 r11 hq10) rfl rfl (Nat.le_of_ble_eq_true rfl) ⟨rfl, rfl, by decide, by decide, Nat.le_refl _, Nat.le_refl _⟩ dX0_askMark_58 ?_
      obtain ⟨rfl, rfl⟩ := som2 hf
      exact hret _ _ dX0_askMark_61
    have hf := itn hw13 hf
    by_cases hw17 : (m.1 v0 3) = 6
    · have hf := itp hw17 hf
      refine g_tblIn (pc := 11) (tgt := 67) (off := 56) X dX0_askMark_11 (by rw [hw17]; decide) (by rw [hw17]; decide) (by rw [hw17]; rfl) (by decide) ?_
      refine g_aload_n (pc := 67) X dX0_askMark_67 rfl 0 rfl ?_
      obtain ⟨r15, m16, hq14, hf⟩ := bnd2_some hf
      refine g_callVL (pc := 68) (As := []) (rest := []) X mi_X0_body20 im_X0_body20 se_X0_body20 (KClt hk1 (by decide)) hk1 clX0 ml_X0_85 (cX0_body20_ct z ad v0 m m16 r15 hq14) rfl rfl (Nat.le_of_ble_eq_true rfl) ⟨rfl, rfl, by decide, by decide, Nat.le_refl _, Nat.le_refl _⟩ dX0_askMark_68 ?_
      obtain ⟨rfl, rfl⟩ := som2 hf
      exact hret _ _ dX0_askMark_71
    have hf := itn hw17 hf
    by_cases hw21 : (m.1 v0 3) = 7
    · have hf := itp hw21 hf
      refine g_tblIn (pc := 11) (tgt := 62) (off := 51) X dX0_askMark_11 (by rw [hw21]; decide) (by rw [hw21]; decide) (by rw [hw21]; rfl) (by decide) ?_
      refine g_aload_n (pc := 62) X dX0_askMark_62 rfl 0 rfl ?_
      obtain ⟨r19, m20, hq18, hf⟩ := bnd2_some hf
      refine g_callVL (pc := 63) (As := []) (rest := []) X mi_X0_body23 im_X0_body23 se_X0_body23 (KClt hk1 (by decide)) hk1 clX0 ml_X0_82 (cX0_body23_ct z ad v0 m m20 r19 hq18) rfl rfl (Nat.le_of_ble_eq_true rfl) ⟨rfl, rfl, by decide, by decide, Nat.le_refl _, Nat.le_refl _⟩ dX0_askMark_63 ?_
      obtain ⟨rfl, rfl⟩ := som2 hf
      exact hret _ _ dX0_askMark_66
    have hf := itn hw21 hf
    have hsw : (m.1 v0 3).toInt < 3 ∨ 7 < (m.1 v0 3).toInt := by
      have nhw5 : ¬ (m.1 v0 3).toInt = 3 := fun h => hw5 (Int32.toInt_inj.mp (by rw [h]; rfl))
      have nhw9 : ¬ (m.1 v0 3).toInt = 4 := fun h => hw9 (Int32.toInt_inj.mp (by rw [h]; rfl))
      have nhw13 : ¬ (m.1 v0 3).toInt = 5 := fun h => hw13 (Int32.toInt_inj.mp (by rw [h]; rfl))
      have nhw17 : ¬ (m.1 v0 3).toInt = 6 := fun h => hw17 (Int32.toInt_inj.mp (by rw [h]; rfl))
      have nhw21 : ¬ (m.1 v0 3).toInt = 7 := fun h => hw21 (Int32.toInt_inj.mp (by rw [h]; rfl))
      omega
    refine g_tblOut (pc := 11) (tgt := 67) X dX0_askMark_11 hsw (by decide) ?_
    refine g_aload_n (pc := 67) X dX0_askMark_67 rfl 0 rfl ?_
    obtain ⟨r23, m24, hq22, hf⟩ := bnd2_some hf
    refine g_callVL (pc := 68) (As := []) (rest := []) X mi_X0_body20 im_X0_body20 se_X0_body20 (KClt hk1 (by decide)) hk1 clX0 ml_X0_85 (cX0_body20_ct z ad v0 m m24 r23 hq22) rfl rfl (Nat.le_of_ble_eq_true rfl) ⟨rfl, rfl, by decide, by decide, Nat.le_refl _, Nat.le_refl _⟩ dX0_askMark_68 ?_
    obtain ⟨rfl, rfl⟩ := som2 hf
    exact hret _ _ dX0_askMark_71
  · have hf := itn hc hf
    refine g_lconst (v := (0 : Int64)) (pc := 5) X dX0_askMark_5 (by decide) ?_
    obtain ⟨rfl, rfl⟩ := som2 hf
    exact hret _ _ dX0_askMark_6

noncomputable def fX0_body11_L0 (v0 : Nat) (v1 : Int32) (m : Mem) : Option (Int64 × Mem) := gp (KC v0 = 0) (bnd (fX0_write v0 (11 : Int32) m) (fun m2 => bnd2 (fX0_body10 v0 m2) (fun r5 m6 => bnd2 (fX0_askMark_L1 v0 (v1 + (1 : Int32)) m6) (fun r8 m9 => some (r5 + r8, m9)))))
set_option maxHeartbeats 4000000 in
set_option maxRecDepth 100000 in
theorem cX0_body11_L0_ct (z : Zx) (ad : Nat → Nat) (v0 : Nat) (v1 : Int32) (m m2 : Mem) (r : Int64) (hf : fX0_body11_L0 v0 v1 m = some (r, m2)) : CtL z wC yX0_body11 cX0_body11 2 (some .long) (Rm 15) ad 91 [.ref (ad v0), .int v1] m m2 r := by
  refine ct_ofL mi_X0_body11 rfl (Nat.le_of_ble_eq_true rfl) (fun x X hret => ?_)
  refine g_lv [(0, .ref (ad v0)), (1, .int v1)] [0, 1] rfl ?_
  unfold fX0_body11_L0 at hf
  refine g_aload_n (pc := 0) X dX0_body11_0 rfl 0 rfl ?_
  refine g_bipush (v := (11 : Int32)) (pc := 1) X dX0_body11_1 (by decide) ?_
  obtain ⟨hk3, hf⟩ := gp_some hf
  obtain ⟨m2, hq1, hf⟩ := bnd_some hf
  refine g_callVV (pc := 3) (As := [.int (11 : Int32)]) (rest := []) X mi_X0_write im_X0_write se_X0_write (KClt hk3 (by decide)) hk3 clX0 ml_X0_88 (cX0_write_ct z ad v0 (11 : Int32) m m2 hq1) rfl rfl (Nat.le_of_ble_eq_true rfl) ⟨rfl, rfl, by decide, by decide, Nat.le_refl _, Nat.le_refl _⟩ dX0_body11_3 ?_
  refine g_aload_n (pc := 6) X dX0_body11_6 rfl 0 rfl ?_
  obtain ⟨r5, m6, hq4, hf⟩ := bnd2_some hf
  refine g_callVL (pc := 7) (As := []) (rest := []) X mi_X0_body10 im_X0_body10 se_X0_body10 (KClt hk3 (by decide)) hk3 clX0 ml_X0_70 (cX0_body10_ct z ad v0 m2 m6 r5 hq4) rfl rfl (Nat.le_of_ble_eq_true rfl) ⟨rfl, rfl, by decide, by decide, Nat.le_refl _, Nat.le_refl _⟩ dX0_body11_7 ?_
  refine g_aload_n (pc := 10) X dX0_body11_10 rfl 0 rfl ?_
  refine g_iload_n (pc := 11) X dX0_body11_11 rfl 1 rfl ?_
  refine g_iconst (v := (1 : Int32)) (pc := 12) X dX0_body11_12 (by decide) ?_
  refine g_iadd (pc := 13) X dX0_body11_13 ?_
  obtain ⟨r8, m9, hq7, hf⟩ := bnd2_some hf
  refine g_callVL (pc := 14) (As := [.int (v1 + (1 : Int32))]) (rest := [.long r5]) X mi_X0_askMark im_X0_askMark se_X0_askMark (KClt hk3 (by decide)) hk3 clX0 ml_X0_92 (cX0_askMark_L1_ct z ad v0 (v1 + (1 : Int32)) m6 m9 r8 hq7) rfl rfl (Nat.le_of_ble_eq_true rfl) ⟨rfl, rfl, by decide, by decide, Nat.le_refl _, Nat.le_refl _⟩ dX0_body11_14 ?_
  refine g_ladd (pc := 17) X dX0_body11_17 ?_
  obtain ⟨rfl, rfl⟩ := som2 hf
  exact hret _ _ dX0_body11_18

noncomputable def fX0_body24_L0 (v0 : Nat) (v1 : Int32) (m : Mem) : Option (Int64 × Mem) := gp (KC v0 = 0) (bnd (fX0_write v0 (24 : Int32) m) (fun m2 => bnd2 (fX0_body20 v0 m2) (fun r5 m6 => bnd2 (fX0_askSize_L1 v0 (v1 + (1 : Int32)) m6) (fun r8 m9 => some (r5 - r8, m9)))))
set_option maxHeartbeats 4000000 in
set_option maxRecDepth 100000 in
theorem cX0_body24_L0_ct (z : Zx) (ad : Nat → Nat) (v0 : Nat) (v1 : Int32) (m m2 : Mem) (r : Int64) (hf : fX0_body24_L0 v0 v1 m = some (r, m2)) : CtL z wC yX0_body24 cX0_body24 2 (some .long) (Rm 15) ad 91 [.ref (ad v0), .int v1] m m2 r := by
  refine ct_ofL mi_X0_body24 rfl (Nat.le_of_ble_eq_true rfl) (fun x X hret => ?_)
  refine g_lv [(0, .ref (ad v0)), (1, .int v1)] [0, 1] rfl ?_
  unfold fX0_body24_L0 at hf
  refine g_aload_n (pc := 0) X dX0_body24_0 rfl 0 rfl ?_
  refine g_bipush (v := (24 : Int32)) (pc := 1) X dX0_body24_1 (by decide) ?_
  obtain ⟨hk3, hf⟩ := gp_some hf
  obtain ⟨m2, hq1, hf⟩ := bnd_some hf
  refine g_callVV (pc := 3) (As := [.int (24 : Int32)]) (rest := []) X mi_X0_write im_X0_write se_X0_write (KClt hk3 (by decide)) hk3 clX0 ml_X0_88 (cX0_write_ct z ad v0 (24 : Int32) m m2 hq1) rfl rfl (Nat.le_of_ble_eq_true rfl) ⟨rfl, rfl, by decide, by decide, Nat.le_refl _, Nat.le_refl _⟩ dX0_body24_3 ?_
  refine g_aload_n (pc := 6) X dX0_body24_6 rfl 0 rfl ?_
  obtain ⟨r5, m6, hq4, hf⟩ := bnd2_some hf
  refine g_callVL (pc := 7) (As := []) (rest := []) X mi_X0_body20 im_X0_body20 se_X0_body20 (KClt hk3 (by decide)) hk3 clX0 ml_X0_85 (cX0_body20_ct z ad v0 m2 m6 r5 hq4) rfl rfl (Nat.le_of_ble_eq_true rfl) ⟨rfl, rfl, by decide, by decide, Nat.le_refl _, Nat.le_refl _⟩ dX0_body24_7 ?_
  refine g_aload_n (pc := 10) X dX0_body24_10 rfl 0 rfl ?_
  refine g_iload_n (pc := 11) X dX0_body24_11 rfl 1 rfl ?_
  refine g_iconst (v := (1 : Int32)) (pc := 12) X dX0_body24_12 (by decide) ?_
  refine g_iadd (pc := 13) X dX0_body24_13 ?_
  obtain ⟨r8, m9, hq7, hf⟩ := bnd2_some hf
  refine g_callVL (pc := 14) (As := [.int (v1 + (1 : Int32))]) (rest := [.long r5]) X mi_X0_askSize im_X0_askSize se_X0_askSize (KClt hk3 (by decide)) hk3 clX0 ml_X0_97 (cX0_askSize_L1_ct z ad v0 (v1 + (1 : Int32)) m6 m9 r8 hq7) rfl rfl (Nat.le_of_ble_eq_true rfl) ⟨rfl, rfl, by decide, by decide, Nat.le_refl _, Nat.le_refl _⟩ dX0_body24_14 ?_
  refine g_lsub (pc := 17) X dX0_body24_17 ?_
  obtain ⟨rfl, rfl⟩ := som2 hf
  exact hret _ _ dX0_body24_18

noncomputable def fX0_body21_L0 (v0 : Nat) (v1 : Int32) (m : Mem) : Option (Int64 × Mem) := gp (KC v0 = 0) (bnd (fX0_write v0 (21 : Int32) m) (fun m2 => bnd2 (fX0_body20 v0 m2) (fun r5 m6 => bnd2 (fX0_askSize_L1 v0 (v1 + (1 : Int32)) m6) (fun r8 m9 => some (r5 + r8, m9)))))
set_option maxHeartbeats 4000000 in
set_option maxRecDepth 100000 in
theorem cX0_body21_L0_ct (z : Zx) (ad : Nat → Nat) (v0 : Nat) (v1 : Int32) (m m2 : Mem) (r : Int64) (hf : fX0_body21_L0 v0 v1 m = some (r, m2)) : CtL z wC yX0_body21 cX0_body21 2 (some .long) (Rm 15) ad 91 [.ref (ad v0), .int v1] m m2 r := by
  refine ct_ofL mi_X0_body21 rfl (Nat.le_of_ble_eq_true rfl) (fun x X hret => ?_)
  refine g_lv [(0, .ref (ad v0)), (1, .int v1)] [0, 1] rfl ?_
  unfold fX0_body21_L0 at hf
  refine g_aload_n (pc := 0) X dX0_body21_0 rfl 0 rfl ?_
  refine g_bipush (v := (21 : Int32)) (pc := 1) X dX0_body21_1 (by decide) ?_
  obtain ⟨hk3, hf⟩ := gp_some hf
  obtain ⟨m2, hq1, hf⟩ := bnd_some hf
  refine g_callVV (pc := 3) (As := [.int (21 : Int32)]) (rest := []) X mi_X0_write im_X0_write se_X0_write (KClt hk3 (by decide)) hk3 clX0 ml_X0_88 (cX0_write_ct z ad v0 (21 : Int32) m m2 hq1) rfl rfl (Nat.le_of_ble_eq_true rfl) ⟨rfl, rfl, by decide, by decide, Nat.le_refl _, Nat.le_refl _⟩ dX0_body21_3 ?_
  refine g_aload_n (pc := 6) X dX0_body21_6 rfl 0 rfl ?_
  obtain ⟨r5, m6, hq4, hf⟩ := bnd2_some hf
  refine g_callVL (pc := 7) (As := []) (rest := []) X mi_X0_body20 im_X0_body20 se_X0_body20 (KClt hk3 (by decide)) hk3 clX0 ml_X0_85 (cX0_body20_ct z ad v0 m2 m6 r5 hq4) rfl rfl (Nat.le_of_ble_eq_true rfl) ⟨rfl, rfl, by decide, by decide, Nat.le_refl _, Nat.le_refl _⟩ dX0_body21_7 ?_
  refine g_aload_n (pc := 10) X dX0_body21_10 rfl 0 rfl ?_
  refine g_iload_n (pc := 11) X dX0_body21_11 rfl 1 rfl ?_
  refine g_iconst (v := (1 : Int32)) (pc := 12) X dX0_body21_12 (by decide) ?_
  refine g_iadd (pc := 13) X dX0_body21_13 ?_
  obtain ⟨r8, m9, hq7, hf⟩ := bnd2_some hf
  refine g_callVL (pc := 14) (As := [.int (v1 + (1 : Int32))]) (rest := [.long r5]) X mi_X0_askSize im_X0_askSize se_X0_askSize (KClt hk3 (by decide)) hk3 clX0 ml_X0_97 (cX0_askSize_L1_ct z ad v0 (v1 + (1 : Int32)) m6 m9 r8 hq7) rfl rfl (Nat.le_of_ble_eq_true rfl) ⟨rfl, rfl, by decide, by decide, Nat.le_refl _, Nat.le_refl _⟩ dX0_body21_14 ?_
  refine g_ladd (pc := 17) X dX0_body21_17 ?_
  obtain ⟨rfl, rfl⟩ := som2 hf
  exact hret _ _ dX0_body21_18

