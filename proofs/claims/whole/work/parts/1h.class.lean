noncomputable def fX0_body22_L0 (v0 : Nat) (v1 : Int32) (m : Mem) : Option (Int64 × Mem) := gp (KC v0 = 0) (bnd (fX0_write v0 (22 : Int32) m) (fun m2 => bnd2 (fX0_body21_L0 v0 v1 m2) (fun r5 m6 => some (r5 + (100 : Int64), m6))))
set_option maxHeartbeats 4000000 in
set_option maxRecDepth 100000 in
theorem cX0_body22_L0_ct (z : Zx) (ad : Nat → Nat) (v0 : Nat) (v1 : Int32) (m m2 : Mem) (r : Int64) (hf : fX0_body22_L0 v0 v1 m = some (r, m2)) : CtL z wC yX0_body22 cX0_body22 2 (some .long) (Rm 16) ad 91 [.ref (ad v0), .int v1] m m2 r := by
  refine ct_ofL mi_X0_body22 rfl (Nat.le_of_ble_eq_true rfl) (fun x X hret => ?_)
  refine g_lv [(0, .ref (ad v0)), (1, .int v1)] [0, 1] rfl ?_
  unfold fX0_body22_L0 at hf
  refine g_aload_n (pc := 0) X dX0_body22_0 rfl 0 rfl ?_
  refine g_bipush (v := (22 : Int32)) (pc := 1) X dX0_body22_1 (by decide) ?_
  obtain ⟨hk3, hf⟩ := gp_some hf
  obtain ⟨m2, hq1, hf⟩ := bnd_some hf
  refine g_callVV (pc := 3) (As := [.int (22 : Int32)]) (rest := []) X mi_X0_write im_X0_write se_X0_write (KClt hk3 (by decide)) hk3 clX0 ml_X0_88 (cX0_write_ct z ad v0 (22 : Int32) m m2 hq1) rfl rfl (Nat.le_of_ble_eq_true rfl) ⟨rfl, rfl, by decide, by decide, Nat.le_refl _, Nat.le_refl _⟩ dX0_body22_3 ?_
  refine g_aload_n (pc := 6) X dX0_body22_6 rfl 0 rfl ?_
  refine g_iload_n (pc := 7) X dX0_body22_7 rfl 1 rfl ?_
  obtain ⟨r5, m6, hq4, hf⟩ := bnd2_some hf
  refine g_callVL (pc := 8) (As := [.int v1]) (rest := []) X mi_X0_body21 im_X0_body21 se_X0_body21 (KClt hk3 (by decide)) hk3 clX0 ml_X0_76 (cX0_body21_L0_ct z ad v0 v1 m2 m6 r5 hq4) rfl rfl (Nat.le_of_ble_eq_true rfl) ⟨rfl, rfl, by decide, by decide, Nat.le_refl _, Nat.le_refl _⟩ dX0_body22_8 ?_
  refine g_ldc2 (pc := 11) X dX0_body22_11 kl_X0_100 ?_
  refine g_ladd (pc := 14) X dX0_body22_14 ?_
  obtain ⟨rfl, rfl⟩ := som2 hf
  exact hret _ _ dX0_body22_15

noncomputable def fX0_askSize_L0 (v0 : Nat) (v1 : Int32) (m : Mem) : Option (Int64 × Mem) := if v1 ≤ (1 : Int32) then (gp (KC v0 = 0) (if (m.1 v0 3) = 2 then (bnd2 (fX0_body11_L0 v0 v1 m) (fun r3 m4 => some (r3, m4))) else if (m.1 v0 3) = 3 then (bnd2 (fX0_body10 v0 m) (fun r7 m8 => some (r7, m8))) else if (m.1 v0 3) = 4 then (bnd2 (fX0_body10 v0 m) (fun r11 m12 => some (r11, m12))) else if (m.1 v0 3) = 5 then (bnd2 (fX0_body12 v0 m) (fun r15 m16 => some (r15, m16))) else if (m.1 v0 3) = 6 then (bnd2 (fX0_body13 v0 m) (fun r19 m20 => some (r19, m20))) else if (m.1 v0 3) = 7 then (bnd2 (fX0_body14 v0 m) (fun r23 m24 => some (r23, m24))) else bnd2 (fX0_body10 v0 m) (fun r27 m28 => some (r27, m28)))) else (some ((0 : Int64), m))
set_option maxHeartbeats 4000000 in
set_option maxRecDepth 100000 in
theorem cX0_askSize_L0_ct (z : Zx) (ad : Nat → Nat) (v0 : Nat) (v1 : Int32) (m m2 : Mem) (r : Int64) (hf : fX0_askSize_L0 v0 v1 m = some (r, m2)) : CtL z wC yX0_askSize cX0_askSize 2 (some .long) (Rm 17) ad 91 [.ref (ad v0), .int v1] m m2 r := by
  refine ct_ofL mi_X0_askSize rfl (Nat.le_of_ble_eq_true rfl) (fun x X hret => ?_)
  refine g_lv [(0, .ref (ad v0)), (1, .int v1)] [0, 1] rfl ?_
  unfold fX0_askSize_L0 at hf
  refine g_iload_n (pc := 0) X dX0_askSize_0 rfl 1 rfl ?_
  refine g_iconst (v := (1 : Int32)) (pc := 1) X dX0_askSize_1 (by decide) ?_
  refine g_icmp_le (pc := 2) (tgt := 7) X dX0_askSize_2 (by decide) (fun hc => ?_) (fun hc => ?_)
  · have hf := itp hc hf
    refine g_aload_n (pc := 7) X dX0_askSize_7 rfl 0 rfl ?_
    obtain ⟨hk1, hf⟩ := gp_some hf
    refine g_getI (pc := 8) X fl_X0_31 (KClt hk1 (by decide)) hk1 dX0_askSize_8 ?_
    by_cases hw5 : (m.1 v0 3) = 2
    · have hf := itp hw5 hf
      refine g_tblIn (pc := 11) (tgt := 48) (off := 37) X dX0_askSize_11 (by rw [hw5]; decide) (by rw [hw5]; decide) (by rw [hw5]; rfl) (by decide) ?_
      refine g_aload_n (pc := 48) X dX0_askSize_48 rfl 0 rfl ?_
      refine g_iload_n (pc := 49) X dX0_askSize_49 rfl 1 rfl ?_
      obtain ⟨r3, m4, hq2, hf⟩ := bnd2_some hf
      refine g_callVL (pc := 50) (As := [.int v1]) (rest := []) X mi_X0_body11 im_X0_body11 se_X0_body11 (KClt hk1 (by decide)) hk1 clX0 ml_X0_56 (cX0_body11_L0_ct z ad v0 v1 m m4 r3 hq2) rfl rfl (Nat.le_of_ble_eq_true rfl) ⟨rfl, rfl, by decide, by decide, Nat.le_refl _, Nat.le_refl _⟩ dX0_askSize_50 ?_
      obtain ⟨rfl, rfl⟩ := som2 hf
      exact hret _ _ dX0_askSize_53
    have hf := itn hw5 hf
    by_cases hw9 : (m.1 v0 3) = 3
    · have hf := itp hw9 hf
      refine g_tblIn (pc := 11) (tgt := 69) (off := 58) X dX0_askSize_11 (by rw [hw9]; decide) (by rw [hw9]; decide) (by rw [hw9]; rfl) (by decide) ?_
      refine g_aload_n (pc := 69) X dX0_askSize_69 rfl 0 rfl ?_
      obtain ⟨r7, m8, hq6, hf⟩ := bnd2_some hf
      refine g_callVL (pc := 70) (As := []) (rest := []) X mi_X0_body10 im_X0_body10 se_X0_body10 (KClt hk1 (by decide)) hk1 clX0 ml_X0_70 (cX0_body10_ct z ad v0 m m8 r7 hq6) rfl rfl (Nat.le_of_ble_eq_true rfl) ⟨rfl, rfl, by decide, by decide, Nat.le_refl _, Nat.le_refl _⟩ dX0_askSize_70 ?_
      obtain ⟨rfl, rfl⟩ := som2 hf
      exact hret _ _ dX0_askSize_73
    have hf := itn hw9 hf
    by_cases hw13 : (m.1 v0 3) = 4
    · have hf := itp hw13 hf
      refine g_tblIn (pc := 11) (tgt := 69) (off := 58) X dX0_askSize_11 (by rw [hw13]; decide) (by rw [hw13]; decide) (by rw [hw13]; rfl) (by decide) ?_
      refine g_aload_n (pc := 69) X dX0_askSize_69 rfl 0 rfl ?_
      obtain ⟨r11, m12, hq10, hf⟩ := bnd2_some hf
      refine g_callVL (pc := 70) (As := []) (rest := []) X mi_X0_body10 im_X0_body10 se_X0_body10 (KClt hk1 (by decide)) hk1 clX0 ml_X0_70 (cX0_body10_ct z ad v0 m m12 r11 hq10) rfl rfl (Nat.le_of_ble_eq_true rfl) ⟨rfl, rfl, by decide, by decide, Nat.le_refl _, Nat.le_refl _⟩ dX0_askSize_70 ?_
      obtain ⟨rfl, rfl⟩ := som2 hf
      exact hret _ _ dX0_askSize_73
    have hf := itn hw13 hf
    by_cases hw17 : (m.1 v0 3) = 5
    · have hf := itp hw17 hf
      refine g_tblIn (pc := 11) (tgt := 54) (off := 43) X dX0_askSize_11 (by rw [hw17]; decide) (by rw [hw17]; decide) (by rw [hw17]; rfl) (by decide) ?_
      refine g_aload_n (pc := 54) X dX0_askSize_54 rfl 0 rfl ?_
      obtain ⟨r15, m16, hq14, hf⟩ := bnd2_some hf
      refine g_callVL (pc := 55) (As := []) (rest := []) X mi_X0_body12 im_X0_body12 se_X0_body12 (KClt hk1 (by decide)) hk1 clX0 ml_X0_60 (cX0_body12_ct z ad v0 m m16 r15 hq14) rfl rfl (Nat.le_of_ble_eq_true rfl) ⟨rfl, rfl, by decide, by decide, Nat.le_refl _, Nat.le_refl _⟩ dX0_askSize_55 ?_
      obtain ⟨rfl, rfl⟩ := som2 hf
      exact hret _ _ dX0_askSize_58
    have hf := itn hw17 hf
    by_cases hw21 : (m.1 v0 3) = 6
    · have hf := itp hw21 hf
      refine g_tblIn (pc := 11) (tgt := 59) (off := 48) X dX0_askSize_11 (by rw [hw21]; decide) (by rw [hw21]; decide) (by rw [hw21]; rfl) (by decide) ?_
      refine g_aload_n (pc := 59) X dX0_askSize_59 rfl 0 rfl ?_
      obtain ⟨r19, m20, hq18, hf⟩ := bnd2_some hf
      refine g_callVL (pc := 60) (As := []) (rest := []) X mi_X0_body13 im_X0_body13 se_X0_body13 (KClt hk1 (by decide)) hk1 clX0 ml_X0_64 (cX0_body13_ct z ad v0 m m20 r19 hq18) rfl rfl (Nat.le_of_ble_eq_true rfl) ⟨rfl, rfl, by decide, by decide, Nat.le_refl _, Nat.le_refl _⟩ dX0_askSize_60 ?_
      obtain ⟨rfl, rfl⟩ := som2 hf
      exact hret _ _ dX0_askSize_63
    have hf := itn hw21 hf
    by_cases hw25 : (m.1 v0 3) = 7
    · have hf := itp hw25 hf
      refine g_tblIn (pc := 11) (tgt := 64) (off := 53) X dX0_askSize_11 (by rw [hw25]; decide) (by rw [hw25]; decide) (by rw [hw25]; rfl) (by decide) ?_
      refine g_aload_n (pc := 64) X dX0_askSize_64 rfl 0 rfl ?_
      obtain ⟨r23, m24, hq22, hf⟩ := bnd2_some hf
      refine g_callVL (pc := 65) (As := []) (rest := []) X mi_X0_body14 im_X0_body14 se_X0_body14 (KClt hk1 (by decide)) hk1 clX0 ml_X0_67 (cX0_body14_ct z ad v0 m m24 r23 hq22) rfl rfl (Nat.le_of_ble_eq_true rfl) ⟨rfl, rfl, by decide, by decide, Nat.le_refl _, Nat.le_refl _⟩ dX0_askSize_65 ?_
      obtain ⟨rfl, rfl⟩ := som2 hf
      exact hret _ _ dX0_askSize_68
    have hf := itn hw25 hf
    have hsw : (m.1 v0 3).toInt < 2 ∨ 7 < (m.1 v0 3).toInt := by
      have nhw5 : ¬ (m.1 v0 3).toInt = 2 := fun h => hw5 (Int32.toInt_inj.mp (by rw [h]; rfl))
      have nhw9 : ¬ (m.1 v0 3).toInt = 3 := fun h => hw9 (Int32.toInt_inj.mp (by rw [h]; rfl))
      have nhw13 : ¬ (m.1 v0 3).toInt = 4 := fun h => hw13 (Int32.toInt_inj.mp (by rw [h]; rfl))
      have nhw17 : ¬ (m.1 v0 3).toInt = 5 := fun h => hw17 (Int32.toInt_inj.mp (by rw [h]; rfl))
      have nhw21 : ¬ (m.1 v0 3).toInt = 6 := fun h => hw21 (Int32.toInt_inj.mp (by rw [h]; rfl))
      have nhw25 : ¬ (m.1 v0 3).toInt = 7 := fun h => hw25 (Int32.toInt_inj.mp (by rw [h]; rfl))
      omega
    refine g_tblOut (pc := 11) (tgt := 69) X dX0_askSize_11 hsw (by decide) ?_
    refine g_aload_n (pc := 69) X dX0_askSize_69 rfl 0 rfl ?_
    obtain ⟨r27, m28, hq26, hf⟩ := bnd2_some hf
    refine g_callVL (pc := 70) (As := []) (rest := []) X mi_X0_body10 im_X0_body10 se_X0_body10 (KClt hk1 (by decide)) hk1 clX0 ml_X0_70 (cX0_body10_ct z ad v0 m m28 r27 hq26) rfl rfl (Nat.le_of_ble_eq_true rfl) ⟨rfl, rfl, by decide, by decide, Nat.le_refl _, Nat.le_refl _⟩ dX0_askSize_70 ?_
    obtain ⟨rfl, rfl⟩ := som2 hf
    exact hret _ _ dX0_askSize_73
  · have hf := itn hc hf
    refine g_lconst (v := (0 : Int64)) (pc := 5) X dX0_askSize_5 (by decide) ?_
    obtain ⟨rfl, rfl⟩ := som2 hf
    exact hret _ _ dX0_askSize_6

noncomputable def fX0_askMark_L0 (v0 : Nat) (v1 : Int32) (m : Mem) : Option (Int64 × Mem) := if v1 ≤ (1 : Int32) then (gp (KC v0 = 0) (if (m.1 v0 3) = 3 then (bnd2 (fX0_body24_L0 v0 v1 m) (fun r3 m4 => some (r3, m4))) else if (m.1 v0 3) = 4 then (bnd2 (fX0_body21_L0 v0 v1 m) (fun r7 m8 => some (r7, m8))) else if (m.1 v0 3) = 5 then (bnd2 (fX0_body22_L0 v0 v1 m) (fun r11 m12 => some (r11, m12))) else if (m.1 v0 3) = 6 then (bnd2 (fX0_body20 v0 m) (fun r15 m16 => some (r15, m16))) else if (m.1 v0 3) = 7 then (bnd2 (fX0_body23 v0 m) (fun r19 m20 => some (r19, m20))) else bnd2 (fX0_body20 v0 m) (fun r23 m24 => some (r23, m24)))) else (some ((0 : Int64), m))
set_option maxHeartbeats 4000000 in
set_option maxRecDepth 100000 in
theorem cX0_askMark_L0_ct (z : Zx) (ad : Nat → Nat) (v0 : Nat) (v1 : Int32) (m m2 : Mem) (r : Int64) (hf : fX0_askMark_L0 v0 v1 m = some (r, m2)) : CtL z wC yX0_askMark cX0_askMark 2 (some .long) (Rm 17) ad 91 [.ref (ad v0), .int v1] m m2 r := by
  refine ct_ofL mi_X0_askMark rfl (Nat.le_of_ble_eq_true rfl) (fun x X hret => ?_)
  refine g_lv [(0, .ref (ad v0)), (1, .int v1)] [0, 1] rfl ?_
  unfold fX0_askMark_L0 at hf
  refine g_iload_n (pc := 0) X dX0_askMark_0 rfl 1 rfl ?_
  refine g_iconst (v := (1 : Int32)) (pc := 1) X dX0_askMark_1 (by decide) ?_
  refine g_icmp_le (pc := 2) (tgt := 7) X dX0_askMark_2 (by decide) (fun hc => ?_) (fun hc => ?_)
  · have hf := itp hc hf
    refine g_aload_n (pc := 7) X dX0_askMark_7 rfl 0 rfl ?_
    obtain ⟨hk1, hf⟩ := gp_some hf
    refine g_getI (pc := 8) X fl_X0_31 (KClt hk1 (by decide)) hk1 dX0_askMark_8 ?_
    by_cases hw5 : (m.1 v0 3) = 3
    · have hf := itp hw5 hf
      refine g_tblIn (pc := 11) (tgt := 44) (off := 33) X dX0_askMark_11 (by rw [hw5]; decide) (by rw [hw5]; decide) (by rw [hw5]; rfl) (by decide) ?_
      refine g_aload_n (pc := 44) X dX0_askMark_44 rfl 0 rfl ?_
      refine g_iload_n (pc := 45) X dX0_askMark_45 rfl 1 rfl ?_
      obtain ⟨r3, m4, hq2, hf⟩ := bnd2_some hf
      refine g_callVL (pc := 46) (As := [.int v1]) (rest := []) X mi_X0_body24 im_X0_body24 se_X0_body24 (KClt hk1 (by decide)) hk1 clX0 ml_X0_73 (cX0_body24_L0_ct z ad v0 v1 m m4 r3 hq2) rfl rfl (Nat.le_of_ble_eq_true rfl) ⟨rfl, rfl, by decide, by decide, Nat.le_refl _, Nat.le_refl _⟩ dX0_askMark_46 ?_
      obtain ⟨rfl, rfl⟩ := som2 hf
      exact hret _ _ dX0_askMark_49
    have hf := itn hw5 hf
    by_cases hw9 : (m.1 v0 3) = 4
    · have hf := itp hw9 hf
      refine g_tblIn (pc := 11) (tgt := 50) (off := 39) X dX0_askMark_11 (by rw [hw9]; decide) (by rw [hw9]; decide) (by rw [hw9]; rfl) (by decide) ?_
      refine g_aload_n (pc := 50) X dX0_askMark_50 rfl 0 rfl ?_
      refine g_iload_n (pc := 51) X dX0_askMark_51 rfl 1 rfl ?_
      obtain ⟨r7, m8, hq6, hf⟩ := bnd2_some hf
      refine g_callVL (pc := 52) (As := [.int v1]) (rest := []) X mi_X0_body21 im_X0_body21 se_X0_body21 (KClt hk1 (by decide)) hk1 clX0 ml_X0_76 (cX0_body21_L0_ct z ad v0 v1 m m8 r7 hq6) rfl rfl (Nat.le_of_ble_eq_true rfl) ⟨rfl, rfl, by decide, by decide, Nat.le_refl _, Nat.le_refl _⟩ dX0_askMark_52 ?_
      obtain ⟨rfl, rfl⟩ := som2 hf
      exact hret _ _ dX0_askMark_55
    have hf := itn hw9 hf
    by_cases hw13 : (m.1 v0 3) = 5
    · have hf := itp hw13 hf
      refine g_tblIn (pc := 11) (tgt := 56) (off := 45) X dX0_askMark_11 (by rw [hw13]; decide) (by rw [hw13]; decide) (by rw [hw13]; rfl) (by decide) ?_
      refine g_aload_n (pc := 56) X dX0_askMark_56 rfl 0 rfl ?_
      refine g_iload_n (pc := 57) X dX0_askMark_57 rfl 1 rfl ?_
      obtain ⟨r11, m12, hq10, hf⟩ := bnd2_some hf
      refine g_callVL (pc := 58) (As := [.int v1]) (rest := []) X mi_X0_body22 im_X0_body22 se_X0_body22 (KClt hk1 (by decide)) hk1 clX0 ml_X0_79 (cX0_body22_L0_ct z ad v0 v1 m m12 r11 hq10) rfl rfl (Nat.le_of_ble_eq_true rfl) ⟨rfl, rfl, by decide, by decide, Nat.le_refl _, Nat.le_refl _⟩ dX0_askMark_58 ?_
      obtain ⟨rfl, rfl⟩ := som2 hf
      exact hret _ _ dX0_askMark_61
    have hf := itn hw13 hf
    by_cases hw17 : (m.1 v0 3) = 6
    · have hf := itp hw17 hf
      refine g_tblIn (pc := 11) (tgt := 67) (off := 56) X dX0_askMark_11 (by rw [hw17]; decide) (by rw [hw17]; decide) (by rw [hw17]; rfl) (by decide) ?_
      refine g_aload_n (pc := 67) X dX0_askMark_67 rfl 0 rfl ?_
      obtain ⟨r15, m16, hq14, hf⟩ := bnd2_some hf
      refine g_callVL (pc := 68) (As := []) (rest := []) X mi_X0_body20 im_X0_body20 se_X0_body20 (KClt hk1 (by decide)) hk1 clX0 ml_X0_85 (cX0_body20_ct z ad v0 m m16 r15 hq14) rfl rfl (Nat.le_of_ble_eq_true rfl) ⟨rfl, rfl, by decide, by decide, Nat.le_refl _, Nat.le_refl _⟩ dX0_askMark_68 ?_
      obtain ⟨rfl, rfl⟩ := som2 hf
      exact hret _ _ dX0_askMark_71
    have hf := itn hw17 hf
    by_cases hw21 : (m.1 v0 3) = 7
    · have hf := itp hw21 hf
      refine g_tblIn (pc := 11) (tgt := 62) (off := 51) X dX0_askMark_11 (by rw [hw21]; decide) (by rw [hw21]; decide) (by rw [hw21]; rfl) (by decide) ?_
      refine g_aload_n (pc := 62) X dX0_askMark_62 rfl 0 rfl ?_
      obtain ⟨r19, m20, hq18, hf⟩ := bnd2_some hf
      refine g_callVL (pc := 63) (As := []) (rest := []) X mi_X0_body23 im_X0_body23 se_X0_body23 (KClt hk1 (by decide)) hk1 clX0 ml_X0_82 (cX0_body23_ct z ad v0 m m20 r19 hq18) rfl rfl (Nat.le_of_ble_eq_true rfl) ⟨rfl, rfl, by decide, by decide, Nat.le_refl _, Nat.le_refl _⟩ dX0_askMark_63 ?_
      obtain ⟨rfl, rfl⟩ := som2 hf
      exact hret _ _ dX0_askMark_66
    have hf := itn hw21 hf
    have hsw : (m.1 v0 3).toInt < 3 ∨ 7 < (m.1 v0 3).toInt := by
      have nhw5 : ¬ (m.1 v0 3).toInt = 3 := fun h => hw5 (Int32.toInt_inj.mp (by rw [h]; rfl))
      have nhw9 : ¬ (m.1 v0 3).toInt = 4 := fun h => hw9 (Int32.toInt_inj.mp (by rw [h]; rfl))
      have nhw13 : ¬ (m.1 v0 3).toInt = 5 := fun h => hw13 (Int32.toInt_inj.mp (by rw [h]; rfl))
      have nhw17 : ¬ (m.1 v0 3).toInt = 6 := fun h => hw17 (Int32.toInt_inj.mp (by rw [h]; rfl))
      have nhw21 : ¬ (m.1 v0 3).toInt = 7 := fun h => hw21 (Int32.toInt_inj.mp (by rw [h]; rfl))
      omega
    refine g_tblOut (pc := 11) (tgt := 67) X dX0_askMark_11 hsw (by decide) ?_
    refine g_aload_n (pc := 67) X dX0_askMark_67 rfl 0 rfl ?_
    obtain ⟨r23, m24, hq22, hf⟩ := bnd2_some hf
    refine g_callVL (pc := 68) (As := []) (rest := []) X mi_X0_body20 im_X0_body20 se_X0_body20 (KClt hk1 (by decide)) hk1 clX0 ml_X0_85 (cX0_body20_ct z ad v0 m m24 r23 hq22) rfl rfl (Nat.le_of_ble_eq_true rfl) ⟨rfl, rfl, by decide, by decide, Nat.le_refl _, Nat.le_refl _⟩ dX0_askMark_68 ?_
    obtain ⟨rfl, rfl⟩ := som2 hf
    exact hret _ _ dX0_askMark_71
  · have hf := itn hc hf
    refine g_lconst (v := (0 : Int64)) (pc := 5) X dX0_askMark_5 (by decide) ?_
    obtain ⟨rfl, rfl⟩ := som2 hf
    exact hret _ _ dX0_askMark_6

noncomputable def fX11_ask (v0 : Nat) (v1 : Int32) (v2 : Int32) (m : Mem) : Option (Int64 × Mem) := gp (KC v0 = 11) (bnd (m.2.2 v0 6) (fun q2 => gp (KC q2 = 10) (bnd (m.2.2 q2 3) (fun q5 => gp (KC q5 = 1) (bnd (fX1_isSign q5 v1 m) (fun r8 => if r8 = 0 then (some ((-9000000000000000001 : Int64), m)) else (bnd (fX11_isWithin v2 (0 : Int32) (1 : Int32)) (fun r11 => if r11 = 0 then (some ((-9000000000000000001 : Int64), m)) else (bnd (m.2.2 v0 5) (fun q12 => gp (KC q12 = 0) (bnd (fX0_begin q12 q5 v1 m) (fun m15 => if v2 = 0 then (bnd (m15.2.2 v0 5) (fun q23 => gp (KC q23 = 0) (bnd2 (fX0_askSize_L0 q23 (0 : Int32) m15) (fun r26 m27 => some (r26, m27))))) else (bnd (m15.2.2 v0 5) (fun q17 => gp (KC q17 = 0) (bnd2 (fX0_askMark_L0 q17 (0 : Int32) m15) (fun r20 m21 => some (r20, m21)))))))))))))))))
set_option maxHeartbeats 4000000 in
set_option maxRecDepth 100000 in
theorem cX11_ask_ct (z : Zx) (ad : Nat → Nat) (v0 : Nat) (v1 : Int32) (v2 : Int32) (m m2 : Mem) (r : Int64) (hf : fX11_ask v0 v1 v2 m = some (r, m2)) : CtL z wC yX11_ask cX11_ask 3 (some .long) (Rm 19) ad 91 [.ref (ad v0), .int v1, .int v2] m m2 r := by
  refine ct_ofL mi_X11_ask rfl (Nat.le_of_ble_eq_true rfl) (fun x X hret => ?_)
  refine g_lv [(0, .ref (ad v0)), (1, .int v1), (2, .int v2)] [0, 1, 2] rfl ?_
  unfold fX11_ask at hf
  refine g_aload_n (pc := 0) X dX11_ask_0 rfl 0 rfl ?_
  obtain ⟨hk1, hf⟩ := gp_some hf
  obtain ⟨q2, hr3, hf⟩ := bnd_some hf
  refine g_getR (pc := 1) X fl_X11_52 (KClt hk1 (by decide)) hk1 hr3 dX11_ask_1 ?_
  obtain ⟨hk4, hf⟩ := gp_some hf
  obtain ⟨q5, hr6, hf⟩ := bnd_some hf
  refine g_getR (pc := 4) X fl_X11_135 (KClt hk4 (by decide)) hk4 hr6 dX11_ask_4 ?_
  refine g_iload_n (pc := 7) X dX11_ask_7 rfl 1 rfl ?_
  obtain ⟨hk9, hf⟩ := gp_some hf
  obtain ⟨r8, hq7, hf⟩ := bnd_some hf
  refine g_callVI (pc := 8) (As := [.int v1]) (rest := []) X mi_X1_isSign im_X1_isSign se_X1_isSign (KClt hk9 (by decide)) hk9 clX1 ml_X11_293 (cX1_isSign_ct z ad q5 v1 m r8 hq7) rfl rfl (Nat.le_of_ble_eq_true rfl) ⟨rfl, rfl, by decide, by decide, Nat.le_refl _, Nat.le_refl _⟩ dX11_ask_8 ?_
  refine g_if_eq (pc := 11) (tgt := 23) X dX11_ask_11 (by decide) (fun hc => ?_) (fun hc => ?_)
  · have hf := itp hc hf
    refine g_ldc2 (pc := 23) X dX11_ask_23 kl_X11_64 ?_
    obtain ⟨rfl, rfl⟩ := som2 hf
    exact hret _ _ dX11_ask_26
  · have hf := itn hc hf
    refine g_iload_n (pc := 14) X dX11_ask_14 rfl 2 rfl ?_
    refine g_iconst (v := (0 : Int32)) (pc := 15) X dX11_ask_15 (by decide) ?_
    refine g_iconst (v := (1 : Int32)) (pc := 16) X dX11_ask_16 (by decide) ?_
    obtain ⟨r11, hq10, hf⟩ := bnd_some hf
    refine g_callSI (pc := 17) (As := [.int v2, .int (0 : Int32), .int (1 : Int32)]) (rest := []) X mi_X11_isWithin sm_X11_isWithin ml_X11_60 (cX11_isWithin_ct z ad v2 (0 : Int32) (1 : Int32) m r11 hq10) rfl rfl (Nat.le_of_ble_eq_true rfl) ⟨rfl, rfl, by decide, by decide, Nat.le_refl _, Nat.le_refl _⟩ dX11_ask_17 ?_
    refine g_if_ne (pc := 20) (tgt := 27) X dX11_ask_20 (by decide) (fun hc => ?_) (fun hc => ?_)
    · have hf := itn hc hf
      refine g_aload_n (pc := 27) X dX11_ask_27 rfl 0 rfl ?_
      obtain ⟨q12, hr13, hf⟩ := bnd_some hf
      refine g_getR (pc := 28) X fl_X11_47 (KClt hk1 (by decide)) hk1 hr13 dX11_ask_28 ?_
      refine g_aload_n (pc := 31) X dX11_ask_31 rfl 0 rfl ?_
      refine g_getR (pc := 32) X fl_X11_52 (KClt hk1 (by decide)) hk1 hr3 dX11_ask_32 ?_
      refine g_getR (pc := 35) X fl_X11_135 (KClt hk4 (by decide)) hk4 hr6 dX11_ask_35 ?_
      refine g_iload_n (pc := 38) X dX11_ask_38 rfl 1 rfl ?_
      obtain ⟨hk16, hf⟩ := gp_some hf
      obtain ⟨m15, hq14, hf⟩ := bnd_some hf
      refine g_callVV (pc := 39) (As := [.ref (ad q5), .int v1]) (rest := []) X mi_X0_begin im_X0_begin se_X0_begin (KClt hk16 (by decide)) hk16 clX0 ml_X11_340 (cX0_begin_ct z ad q12 q5 v1 m m15 hq14) rfl rfl (Nat.le_of_ble_eq_true rfl) ⟨rfl, rfl, by decide, by decide, Nat.le_refl _, Nat.le_refl _⟩ dX11_ask_39 ?_
      refine g_iload_n (pc := 42) X dX11_ask_42 rfl 2 rfl ?_
      refine g_if_ne (pc := 43) (tgt := 57) X dX11_ask_43 (by decide) (fun hc => ?_) (fun hc => ?_)
      · have hf := itn hc hf
        refine g_aload_n (pc := 57) X dX11_ask_57 rfl 0 rfl ?_
        obtain ⟨q17, hr18, hf⟩ := bnd_some hf
        refine g_getR (pc := 58) X fl_X11_47 (KClt hk1 (by decide)) hk1 hr18 dX11_ask_58 ?_
        refine g_iconst (v := (0 : Int32)) (pc := 61) X dX11_ask_61 (by decide) ?_
        obtain ⟨hk22, hf⟩ := gp_some hf
        obtain ⟨r20, m21, hq19, hf⟩ := bnd2_some hf
        refine g_callVL (pc := 62) (As := [.int (0 : Int32)]) (rest := []) X mi_X0_askMark im_X0_askMark se_X0_askMark (KClt hk22 (by decide)) hk22 clX0 ml_X11_346 (cX0_askMark_L0_ct z ad q17 (0 : Int32) m15 m21 r20 hq19) rfl rfl (Nat.le_of_ble_eq_true rfl) ⟨rfl, rfl, by decide, by decide, Nat.le_refl _, Nat.le_refl _⟩ dX11_ask_62 ?_
        obtain ⟨rfl, rfl⟩ := som2 hf
        exact hret _ _ dX11_ask_65
      · have hf := itp hc hf
        refine g_aload_n (pc := 46) X dX11_ask_46 rfl 0 rfl ?_
        obtain ⟨q23, hr24, hf⟩ := bnd_some hf
        refine g_getR (pc := 47) X fl_X11_47 (KClt hk1 (by decide)) hk1 hr24 dX11_ask_47 ?_
        refine g_iconst (v := (0 : Int32)) (pc := 50) X dX11_ask_50 (by decide) ?_
        obtain ⟨hk28, hf⟩ := gp_some hf
        obtain ⟨r26, m27, hq25, hf⟩ := bnd2_some hf
        refine g_callVL (pc := 51) (As := [.int (0 : Int32)]) (rest := []) X mi_X0_askSize im_X0_askSize se_X0_askSize (KClt hk28 (by decide)) hk28 clX0 ml_X11_343 (cX0_askSize_L0_ct z ad q23 (0 : Int32) m15 m27 r26 hq25) rfl rfl (Nat.le_of_ble_eq_true rfl) ⟨rfl, rfl, by decide, by decide, Nat.le_refl _, Nat.le_refl _⟩ dX11_ask_51 ?_
        refine g_goto (pc := 54) (tgt := 65) X dX11_ask_54 (by decide) ?_
        obtain ⟨rfl, rfl⟩ := som2 hf
        exact hret _ _ dX11_ask_65
    · have hf := itp hc hf
      refine g_ldc2 (pc := 23) X dX11_ask_23 kl_X11_64 ?_
      obtain ⟨rfl, rfl⟩ := som2 hf
      exact hret _ _ dX11_ask_26

noncomputable def fX11_trace (v0 : Nat) (v1 : Int32) (m : Mem) : Option Int32 := gp (KC v0 = 11) (bnd (m.2.2 v0 5) (fun q2 => gp (KC q2 = 0) (bnd (fX11_isWithin v1 (0 : Int32) ((m.1 q2 1) - (1 : Int32))) (fun r6 => if r6 = 0 then (some (-1000000 : Int32)) else (bnd (m.2.2 q2 0) (fun q7 => gp (KC q7 = 14) (gp (inb v1 (NC q7) = true) (some (m.1 q7 v1.toNatClampNeg)))))))))
set_option maxHeartbeats 4000000 in
set_option maxRecDepth 100000 in
theorem cX11_trace_ct (z : Zx) (ad : Nat → Nat) (v0 : Nat) (v1 : Int32) (m : Mem) (r : Int32) (hf : fX11_trace v0 v1 m = some r) : CtI z wC yX11_trace cX11_trace 2 (some .int) (Rm 3) ad 91 [.ref (ad v0), .int v1] m m r := by
  refine ct_ofI mi_X11_trace rfl (Nat.le_of_ble_eq_true rfl) (fun x X hret => ?_)
  refine g_lv [(0, .ref (ad v0)), (1, .int v1)] [0, 1] rfl ?_
  unfold fX11_trace at hf
  refine g_iload_n (pc := 0) X dX11_trace_0 rfl 1 rfl ?_
  refine g_iconst (v := (0 : Int32)) (pc := 1) X dX11_trace_1 (by decide) ?_
  refine g_aload_n (pc := 2) X dX11_trace_2 rfl 0 rfl ?_
  obtain ⟨hk1, hf⟩ := gp_some hf
  obtain ⟨q2, hr3, hf⟩ := bnd_some hf
  refine g_getR (pc := 3) X fl_X11_47 (KClt hk1 (by decide)) hk1 hr3 dX11_trace_3 ?_
  obtain ⟨hk4, hf⟩ := gp_some hf
  refine g_getI (pc := 6) X fl_X11_349 (KClt hk4 (by decide)) hk4 dX11_trace_6 ?_
  refine g_iconst (v := (1 : Int32)) (pc := 9) X dX11_trace_9 (by decide) ?_
  refine g_isub (pc := 10) X dX11_trace_10 ?_
  obtain ⟨r6, hq5, hf⟩ := bnd_some hf
  refine g_callSI (pc := 11) (As := [.int v1, .int (0 : Int32), .int ((m.1 q2 1) - (1 : Int32))]) (rest := []) X mi_X11_isWithin sm_X11_isWithin ml_X11_60 (cX11_isWithin_ct z ad v1 (0 : Int32) ((m.1 q2 1) - (1 : Int32)) m r6 hq5) rfl rfl (Nat.le_of_ble_eq_true rfl) ⟨rfl, rfl, by decide, by decide, Nat.le_refl _, Nat.le_refl _⟩ dX11_trace_11 ?_
  refine g_if_eq (pc := 14) (tgt := 29) X dX11_trace_14 (by decide) (fun hc => ?_) (fun hc => ?_)
  · have hf := itp hc hf
    refine g_ldc (pc := 29) X dX11_trace_29 k_X11_252 ?_
    obtain rfl := Option.some.inj hf
    exact hret _ _ rfl dX11_trace_31
  · have hf := itn hc hf
    refine g_aload_n (pc := 17) X dX11_trace_17 rfl 0 rfl ?_
    refine g_getR (pc := 18) X fl_X11_47 (KClt hk1 (by decide)) hk1 hr3 dX11_trace_18 ?_
    obtain ⟨q7, hr8, hf⟩ := bnd_some hf
    refine g_getR (pc := 21) X fl_X11_352 (KClt hk4 (by decide)) hk4 hr8 dX11_trace_21 ?_
    refine g_iload_n (pc := 24) X dX11_trace_24 rfl 1 rfl ?_
    obtain ⟨hk9, hf⟩ := gp_some hf
    obtain ⟨hi10, hf⟩ := gp_some hf
    refine g_iald (pc := 25) X (KClt hk9 (by decide)) hk9 hi10 dX11_trace_25 ?_
    refine g_goto (pc := 26) (tgt := 31) X dX11_trace_26 (by decide) ?_
    obtain rfl := Option.some.inj hf
    exact hret _ _ rfl dX11_trace_31

noncomputable def fX11_rowsThere_25 (v0 : Nat) (v1 : Int32) (v2 : Int32) (m : Mem) : Option ((Int32 × Int32) ⊕ (Int32)) := lt1 (v2 + 1) (fun v2_1 => some (.inl (v1, v2_1)))
noncomputable def fX11_rowsThere_4b (v0 : Nat) (v1 : Int32) (v2 : Int32) (m : Mem) : Option ((Int32 × Int32) ⊕ (Int32)) := if (8 : Int32) ≤ v2 then (some (.inr (v1))) else (gp (KC v0 = 11) (bnd (m.2.2 v0 0) (fun q4 => gp (KC q4 = 17) (gp (inb v2 (NC q4) = true) (bnd (m.2.2 q4 v2.toNatClampNeg) (fun q8 => gp (KC q8 = 6) (bnd (fX6_isMissing q8 m) (fun r11 => if r11 = 0 then (lt1 (v1 + 1) (fun v1_13 => fX11_rowsThere_25 v0 v1_13 v2 m)) else (fX11_rowsThere_25 v0 v1 v2 m)))))))))
noncomputable def fX11_rowsThere_4 (v0 : Nat) (v1 : Int32) (v2 : Int32) (m : Mem) : Option Int32 := bnd (iter (fun s => fX11_rowsThere_4b v0 s.1 s.2 m) FU (v1, v2)) (fun e => some e)
noncomputable def fX11_rowsThere (v0 : Nat) (m : Mem) : Option Int32 := lt1 ((0 : Int32)) (fun v1_15 => lt1 ((0 : Int32)) (fun v2_17 => fX11_rowsThere_4 v0 v1_15 v2_17 m))
set_option maxHeartbeats 4000000 in
set_option maxRecDepth 100000 in
theorem cX11_rowsThere_ct (z : Zx) (ad : Nat → Nat) (v0 : Nat) (m : Mem) (r : Int32) (hf : fX11_rowsThere v0 m = some r) : CtI z wC yX11_rowsThere cX11_rowsThere 3 (some .int) (Rm 3) ad 91 [.ref (ad v0)] m m r := by
  refine ct_ofI mi_X11_rowsThere rfl (Nat.le_of_ble_eq_true rfl) (fun x X hret => ?_)
  refine g_lv [(0, .ref (ad v0))] [0] rfl ?_
  have hL4 : ∀ (v0 : Nat) (v1 : Int32) (v2 : Int32), fX11_rowsThere_4 v0 v1 v2 m = some r → G z wC x 3 0 0 ad 91 m 4 [(0, .ref (ad v0)), (1, .int v1), (2, .int v2)] [] := by
    intro v0 v1 v2 hf
    unfold fX11_rowsThere_4 at hf
    obtain ⟨e4, hit4, hrest4⟩ := bnd_some hf
    refine iter_ok (Hd := fun (s : (Int32 × Int32)) => G z wC x 3 0 0 ad 91 m 4 [(0, .ref (ad v0)), (1, .int s.1), (2, .int s.2)] []) ?_ FU (v1, v2) hit4
    intro s ob4 hf hs4 he4
    obtain ⟨v1, v2⟩ := s
    have hf : fX11_rowsThere_4b v0 v1 v2 m = some ob4 := hf
    have hL25 : ∀ (v1 : Int32) (v2 : Int32), fX11_rowsThere_25 v0 v1 v2 m = some ob4 → G z wC x 3 0 0 ad 91 m 25 [(0, .ref (ad v0)), (1, .int v1), (2, .int v2)] [] := by
      intro v1 v2 hf
      unfold fX11_rowsThere_25 at hf
      obtain ⟨v2_1, e2, hf⟩ := lt1_some hf
      refine g_iinc (v2 := v2_1) (lv2 := [(0, .ref (ad v0)), (1, .int v1), (2, .int v2_1)]) (pc := 25) X dX11_rowsThere_25 2 rfl (by rw [e2]; rfl) (by decide) [1, 2, 0] rfl ?_
      refine g_goto (pc := 28) (tgt := 4) X dX11_rowsThere_28 (by decide) ?_
      exact hs4 (v1, v2_1) (Option.some.inj hf).symm
    unfold fX11_rowsThere_4b at hf
    refine g_iload_n (pc := 4) X dX11_rowsThere_4 rfl 2 rfl ?_
    refine g_bipush (v := (8 : Int32)) (pc := 5) X dX11_rowsThere_5 (by decide) ?_
    refine g_icmp_ge (pc := 7) (tgt := 31) X dX11_rowsThere_7 (by decide) (fun hc => ?_) (fun hc => ?_)
    · have hf := itp hc hf
      have he4 := he4 _ (Option.some.inj hf).symm
      subst he4
      have hf : some v1 = some r := hrest4
      refine g_iload_n (pc := 31) X dX11_rowsThere_31 rfl 1 rfl ?_
      obtain rfl := Option.some.inj hf
      exact hret _ _ rfl dX11_rowsThere_32
    · have hf := itn hc hf
      refine g_aload_n (pc := 10) X dX11_rowsThere_10 rfl 0 rfl ?_
      obtain ⟨hk3, hf⟩ := gp_some hf
      obtain ⟨q4, hr5, hf⟩ := bnd_some hf
      refine g_getR (pc := 11) X fl_X11_11 (KClt hk3 (by decide)) hk3 hr5 dX11_rowsThere_11 ?_
      refine g_iload_n (pc := 14) X dX11_rowsThere_14 rfl 2 rfl ?_
      obtain ⟨hk6, hf⟩ := gp_some hf
      obtain ⟨hi7, hf⟩ := gp_some hf
      obtain ⟨q8, hr9, hf⟩ := bnd_some hf
      refine g_aald (pc := 15) X (KClt hk6 (by decide)) hk6 (by decide) hi7 hr9 dX11_rowsThere_15 ?_
      obtain ⟨hk12, hf⟩ := gp_some hf
      obtain ⟨r11, hq10, hf⟩ := bnd_some hf
      refine g_callVI (pc := 16) (As := []) (rest := []) X mi_X6_isMissing im_X6_isMissing se_X6_isMissing (KClt hk12 (by decide)) hk12 clX6 ml_X11_78 (cX6_isMissing_ct z ad q8 m r11 hq10) rfl rfl (Nat.le_of_ble_eq_true rfl) ⟨rfl, rfl, by decide, by decide, Nat.le_refl _, Nat.le_refl _⟩ dX11_rowsThere_16 ?_
      refine g_if_ne (pc := 19) (tgt := 25) X dX11_rowsThere_19 (by decide) (fun hc => ?_) (fun hc => ?_)
      · have hf := itn hc hf
        exact hL25 _ _ hf
      · have hf := itp hc hf
        obtain ⟨v1_13, e14, hf⟩ := lt1_some hf
        refine g_iinc (v2 := v1_13) (lv2 := [(0, .ref (ad v0)), (1, .int v1_13), (2, .int v2)]) (pc := 22) X dX11_rowsThere_22 1 rfl (by rw [e14]; rfl) (by decide) [1, 0, 2] rfl ?_
        exact hL25 _ _ hf
  unfold fX11_rowsThere at hf
  refine g_iconst (v := (0 : Int32)) (pc := 0) X dX11_rowsThere_0 (by decide) ?_
  obtain ⟨v1_15, e16, hf⟩ := lt1_some hf
  refine g_topi e16 ?_
  refine g_istore_n (lv2 := [(0, .ref (ad v0)), (1, .int v1_15)]) (pc := 1) X dX11_rowsThere_1 rfl (by decide) [1, 0] rfl ?_
  refine g_iconst (v := (0 : Int32)) (pc := 2) X dX11_rowsThere_2 (by decide) ?_
  obtain ⟨v2_17, e18, hf⟩ := lt1_some hf
  refine g_topi e18 ?_
  refine g_istore_n (lv2 := [(0, .ref (ad v0)), (1, .int v1_15), (2, .int v2_17)]) (pc := 3) X dX11_rowsThere_3 rfl (by decide) [1, 2, 0] rfl ?_
  exact hL4 _ _ _ hf

noncomputable def fX9_cellsOfLand_4b (v0 : Nat) (v1 : Int32) (v2 : Int32) (m : Mem) : Option ((Int32 × Int32) ⊕ (Int32)) := if (8 : Int32) ≤ v2 then (some (.inr (v1))) else (gp (KC v0 = 9) (bnd (m.2.2 v0 0) (fun q2 => gp (KC q2 = 14) (gp (inb v2 (NC q2) = true) (bnd (fJ6_bitCount_0f7a4 (m.1 q2 v2.toNatClampNeg)) (fun r7 => lt1 (v1 + r7) (fun v1_8 => lt1 (v2 + 1) (fun v2_10 => some (.inl (v1_8, v2_10))))))))))
noncomputable def fX9_cellsOfLand_4 (v0 : Nat) (v1 : Int32) (v2 : Int32) (m : Mem) : Option Int32 := bnd (iter (fun s => fX9_cellsOfLand_4b v0 s.1 s.2 m) FU (v1, v2)) (fun e => some e)
noncomputable def fX9_cellsOfLand (v0 : Nat) (m : Mem) : Option Int32 := lt1 ((0 : Int32)) (fun v1_12 => lt1 ((0 : Int32)) (fun v2_14 => fX9_cellsOfLand_4 v0 v1_12 v2_14 m))
set_option maxHeartbeats 4000000 in
set_option maxRecDepth 100000 in
theorem cX9_cellsOfLand_ct (z : Zx) (ad : Nat → Nat) (v0 : Nat) (m : Mem) (r : Int32) (hf : fX9_cellsOfLand v0 m = some r) : CtI z wC yX9_cellsOfLand cX9_cellsOfLand 3 (some .int) (Rm 3) ad 91 [.ref (ad v0)] m m r := by
  refine ct_ofI mi_X9_cellsOfLand rfl (Nat.le_of_ble_eq_true rfl) (fun x X hret => ?_)
  refine g_lv [(0, .ref (ad v0))] [0] rfl ?_
  have hL4 : ∀ (v0 : Nat) (v1 : Int32) (v2 : Int32), fX9_cellsOfLand_4 v0 v1 v2 m = some r → G z wC x 3 0 0 ad 91 m 4 [(0, .ref (ad v0)), (1, .int v1), (2, .int v2)] [] := by
    intro v0 v1 v2 hf
    unfold fX9_cellsOfLand_4 at hf
    obtain ⟨e4, hit4, hrest4⟩ := bnd_some hf
    refine iter_ok (Hd := fun (s : (Int32 × Int32)) => G z wC x 3 0 0 ad 91 m 4 [(0, .ref (ad v0)), (1, .int s.1), (2, .int s.2)] []) ?_ FU (v1, v2) hit4
    intro s ob4 hf hs4 he4
    obtain ⟨v1, v2⟩ := s
    have hf : fX9_cellsOfLand_4b v0 v1 v2 m = some ob4 := hf
    unfold fX9_cellsOfLand_4b at hf
    refine g_iload_n (pc := 4) X dX9_cellsOfLand_4 rfl 2 rfl ?_
    refine g_bipush (v := (8 : Int32)) (pc := 5) X dX9_cellsOfLand_5 (by decide) ?_
    refine g_icmp_ge (pc := 7) (tgt := 28) X dX9_cellsOfLand_7 (by decide) (fun hc => ?_) (fun hc => ?_)
    · have hf := itp hc hf
      have he4 := he4 _ (Option.some.inj hf).symm
      subst he4
      have hf : some v1 = some r := hrest4
      refine g_iload_n (pc := 28) X dX9_cellsOfLand_28 rfl 1 rfl ?_
      obtain rfl := Option.some.inj hf
      exact hret _ _ rfl dX9_cellsOfLand_29
    · have hf := itn hc hf
      refine g_iload_n (pc := 10) X dX9_cellsOfLand_10 rfl 1 rfl ?_
      refine g_aload_n (pc := 11) X dX9_cellsOfLand_11 rfl 0 rfl ?_
      obtain ⟨hk1, hf⟩ := gp_some hf
      obtain ⟨q2, hr3, hf⟩ := bnd_some hf
      refine g_getR (pc := 12) X fl_X9_9 (KClt hk1 (by decide)) hk1 hr3 dX9_cellsOfLand_12 ?_
      refine g_iload_n (pc := 15) X dX9_cellsOfLand_15 rfl 2 rfl ?_
      obtain ⟨hk4, hf⟩ := gp_some hf
      obtain ⟨hi5, hf⟩ := gp_some hf
      refine g_iald (pc := 16) X (KClt hk4 (by decide)) hk4 hi5 dX9_cellsOfLand_16 ?_
      obtain ⟨r7, hq6, hf⟩ := bnd_some hf
      refine g_callSI (pc := 17) (As := [.int (m.1 q2 v2.toNatClampNeg)]) (rest := [.int v1]) X mi_J6_bitCount_0f7a4 sm_J6_bitCount_0f7a4 ml_X9_58 (cJ6_bitCount_0f7a4_ct z ad (m.1 q2 v2.toNatClampNeg) m r7 hq6) rfl rfl (Nat.le_of_ble_eq_true rfl) ⟨rfl, rfl, by decide, by decide, Nat.le_refl _, Nat.le_refl _⟩ dX9_cellsOfLand_17 ?_
      refine g_iadd (pc := 20) X dX9_cellsOfLand_20 ?_
      obtain ⟨v1_8, e9, hf⟩ := lt1_some hf
      refine g_topi e9 ?_
      refine g_istore_n (lv2 := [(0, .ref (ad v0)), (1, .int v1_8), (2, .int v2)]) (pc := 21) X dX9_cellsOfLand_21 rfl (by decide) [1, 0, 2] rfl ?_
      obtain ⟨v2_10, e11, hf⟩ := lt1_some hf
      refine g_iinc (v2 := v2_10) (lv2 := [(0, .ref (ad v0)), (1, .int v1_8), (2, .int v2_10)]) (pc := 22) X dX9_cellsOfLand_22 2 rfl (by rw [e11]; rfl) (by decide) [1, 2, 0] rfl ?_
      refine g_goto (pc := 25) (tgt := 4) X dX9_cellsOfLand_25 (by decide) ?_
      exact hs4 (v1_8, v2_10) (Option.some.inj hf).symm
  unfold fX9_cellsOfLand at hf
  refine g_iconst (v := (0 : Int32)) (pc := 0) X dX9_cellsOfLand_0 (by decide) ?_
  obtain ⟨v1_12, e13, hf⟩ := lt1_some hf
  refine g_topi e13 ?_
  refine g_istore_n (lv2 := [(0, .ref (ad v0)), (1, .int v1_12)]) (pc := 1) X dX9_cellsOfLand_1 rfl (by decide) [1, 0] rfl ?_
  refine g_iconst (v := (0 : Int32)) (pc := 2) X dX9_cellsOfLand_2 (by decide) ?_
  obtain ⟨v2_14, e15, hf⟩ := lt1_some hf
  refine g_topi e15 ?_
  refine g_istore_n (lv2 := [(0, .ref (ad v0)), (1, .int v1_12), (2, .int v2_14)]) (pc := 3) X dX9_cellsOfLand_3 rfl (by decide) [1, 2, 0] rfl ?_
  exact hL4 _ _ _ hf

noncomputable def fX11_count (v0 : Nat) (v1 : Int32) (m : Mem) : Option Int64 := if v1 = 0 then (gp (KC v0 = 11) (bnd (fX11_rowsThere v0 m) (fun r2 => some r2.toInt64))) else if v1 = 1 then (gp (KC v0 = 11) (bnd (m.2.2 v0 6) (fun q6 => gp (KC q6 = 10) (bnd (m.2.2 q6 0) (fun q9 => gp (KC q9 = 9) (some (((m.1 q9 3) * (m.1 q9 4)).toInt64))))))) else if v1 = 2 then (gp (KC v0 = 11) (bnd (m.2.2 v0 6) (fun q14 => gp (KC q14 = 10) (bnd (m.2.2 q14 0) (fun q17 => gp (KC q17 = 9) (some ((m.1 q17 5).toInt64))))))) else if v1 = 3 then (gp (KC v0 = 11) (bnd (m.2.2 v0 6) (fun q22 => gp (KC q22 = 10) (bnd (m.2.2 q22 0) (fun q25 => gp (KC q25 = 9) (bnd (fX9_cellsOfLand q25 m) (fun r28 => some r28.toInt64))))))) else if v1 = 4 then (gp (KC v0 = 11) (bnd (m.2.2 v0 6) (fun q32 => gp (KC q32 = 10) (bnd (m.2.2 q32 2) (fun q35 => gp (KC q35 = 2) (some ((m.1 q35 2).toInt64))))))) else if v1 = 5 then (gp (KC v0 = 11) (bnd (m.2.2 v0 6) (fun q40 => gp (KC q40 = 10) (bnd (m.2.2 q40 3) (fun q43 => gp (KC q43 = 1) (some ((m.1 q43 5).toInt64))))))) else if v1 = 6 then (gp (KC v0 = 11) (bnd (m.2.2 v0 6) (fun q48 => gp (KC q48 = 10) (bnd (m.2.2 q48 3) (fun q51 => gp (KC q51 = 1) (some ((m.1 q51 6).toInt64))))))) else if v1 = 7 then (gp (KC v0 = 11) (bnd (m.2.2 v0 1) (fun q56 => gp (KC q56 = 7) (some ((m.1 q56 1).toInt64))))) else if v1 = 8 then (gp (KC v0 = 11) (bnd (m.2.2 v0 6) (fun q61 => gp (KC q61 = 10) (bnd (m.2.2 q61 0) (fun q64 => gp (KC q64 = 9) (some ((m.1 q64 6).toInt64))))))) else some (-9000000000000000001 : Int64)
set_option maxHeartbeats 4000000 in
set_option maxRecDepth 100000 in
theorem cX11_count_ct (z : Zx) (ad : Nat → Nat) (v0 : Nat) (v1 : Int32) (m : Mem) (r : Int64) (hf : fX11_count v0 v1 m = some r) : CtL z wC yX11_count cX11_count 2 (some .long) (Rm 4) ad 91 [.ref (ad v0), .int v1] m m r := by
  refine ct_ofL mi_X11_count rfl (Nat.le_of_ble_eq_true rfl) (fun x X hret => ?_)
  refine g_lv [(0, .ref (ad v0)), (1, .int v1)] [0, 1] rfl ?_
  unfold fX11_count at hf
  refine g_iload_n (pc := 0) X dX11_count_0 rfl 1 rfl ?_
  by_cases hw4 : v1 = 0
  · have hf := itp hw4 hf
    refine g_tblIn (pc := 1) (tgt := 52) (off := 51) X dX11_count_1 (by rw [hw4]; decide) (by rw [hw4]; decide) (by rw [hw4]; rfl) (by decide) ?_
    refine g_aload_n (pc := 52) X dX11_count_52 rfl 0 rfl ?_
    obtain ⟨hk3, hf⟩ := gp_some hf
    obtain ⟨r2, hq1, hf⟩ := bnd_some hf
    refine g_callVI (pc := 53) (As := []) (rest := []) X mi_X11_rowsThere im_X11_rowsThere se_X11_rowsThere (KClt hk3 (by decide)) hk3 clX11 ml_X11_355 (cX11_rowsThere_ct z ad v0 m r2 hq1) rfl rfl (Nat.le_of_ble_eq_true rfl) ⟨rfl, rfl, by decide, by decide, Nat.le_refl _, Nat.le_refl _⟩ dX11_count_53 ?_
    refine g_i2l (pc := 56) X dX11_count_56 ?_
    obtain rfl := Option.some.inj hf
    exact hret _ _ dX11_count_57
  have hf := itn hw4 hf
  by_cases hw12 : v1 = 1
  · have hf := itp hw12 hf
    refine g_tblIn (pc := 1) (tgt := 58) (off := 57) X dX11_count_1 (by rw [hw12]; decide) (by rw [hw12]; decide) (by rw [hw12]; rfl) (by decide) ?_
    refine g_aload_n (pc := 58) X dX11_count_58 rfl 0 rfl ?_
    obtain ⟨hk5, hf⟩ := gp_some hf
    obtain ⟨q6, hr7, hf⟩ := bnd_some hf
    refine g_getR (pc := 59) X fl_X11_52 (KClt hk5 (by decide)) hk5 hr7 dX11_count_59 ?_
    obtain ⟨hk8, hf⟩ := gp_some hf
    obtain ⟨q9, hr10, hf⟩ := bnd_some hf
    refine g_getR (pc := 62) X fl_X11_150 (KClt hk8 (by decide)) hk8 hr10 dX11_count_62 ?_
    obtain ⟨hk11, hf⟩ := gp_some hf
    refine g_getI (pc := 65) X fl_X11_358 (KClt hk11 (by decide)) hk11 dX11_count_65 ?_
    refine g_aload_n (pc := 68) X dX11_count_68 rfl 0 rfl ?_
    refine g_getR (pc := 69) X fl_X11_52 (KClt hk5 (by decide)) hk5 hr7 dX11_count_69 ?_
    refine g_getR (pc := 72) X fl_X11_150 (KClt hk8 (by decide)) hk8 hr10 dX11_count_72 ?_
    refine g_getI (pc := 75) X fl_X11_361 (KClt hk11 (by decide)) hk11 dX11_count_75 ?_
    refine g_imul (pc := 78) X dX11_count_78 ?_
    refine g_i2l (pc := 79) X dX11_count_79 ?_
    obtain rfl := Option.some.inj hf
    exact hret _ _ dX11_count_80
  have hf := itn hw12 hf
  by_cases hw20 : v1 = 2
  · have hf := itp hw20 hf
    refine g_tblIn (pc := 1) (tgt := 81) (off := 80) X dX11_count_1 (by rw [hw20]; decide) (by rw [hw20]; decide) (by rw [hw20]; rfl) (by decide) ?_
    refine g_aload_n (pc := 81) X dX11_count_81 rfl 0 rfl ?_
    obtain ⟨hk13, hf⟩ := gp_some hf
    obtain ⟨q14, hr15, hf⟩ := bnd_some hf
    refine g_getR (pc := 82) X fl_X11_52 (KClt hk13 (by decide)) hk13 hr15 dX11_count_82 ?_
    obtain ⟨hk16, hf⟩ := gp_some hf
    obtain ⟨q17, hr18, hf⟩ := bnd_some hf
    refine g_getR (pc := 85) X fl_X11_150 (KClt hk16 (by decide)) hk16 hr18 dX11_count_85 ?_
    obtain ⟨hk19, hf⟩ := gp_some hf
    refine g_getI (pc := 88) X fl_X11_197 (KClt hk19 (by decide)) hk19 dX11_count_88 ?_
    refine g_i2l (pc := 91) X dX11_count_91 ?_
    obtain rfl := Option.some.inj hf
    exact hret _ _ dX11_count_92
  have hf := itn hw20 hf
  by_cases hw30 : v1 = 3
  · have hf := itp hw30 hf
    refine g_tblIn (pc := 1) (tgt := 93) (off := 92) X dX11_count_1 (by rw [hw30]; decide) (by rw [hw30]; decide) (by rw [hw30]; rfl) (by decide) ?_
    refine g_aload_n (pc := 93) X dX11_count_93 rfl 0 rfl ?_
    obtain ⟨hk21, hf⟩ := gp_some hf
    obtain ⟨q22, hr23, hf⟩ := bnd_some hf
    refine g_getR (pc := 94) X fl_X11_52 (KClt hk21 (by decide)) hk21 hr23 dX11_count_94 ?_
    obtain ⟨hk24, hf⟩ := gp_some hf
    obtain ⟨q25, hr26, hf⟩ := bnd_some hf
    refine g_getR (pc := 97) X fl_X11_150 (KClt hk24 (by decide)) hk24 hr26 dX11_count_97 ?_
    obtain ⟨hk29, hf⟩ := gp_some hf
    obtain ⟨r28, hq27, hf⟩ := bnd_some hf
    refine g_callVI (pc := 100) (As := []) (rest := []) X mi_X9_cellsOfLand im_X9_cellsOfLand se_X9_cellsOfLand (KClt hk29 (by decide)) hk29 clX9 ml_X11_364 (cX9_cellsOfLand_ct z ad q25 m r28 hq27) rfl rfl (Nat.le_of_ble_eq_true rfl) ⟨rfl, rfl, by decide, by decide, Nat.le_refl _, Nat.le_refl _⟩ dX11_count_100 ?_
    refine g_i2l (pc := 103) X dX11_count_103 ?_
    obtain rfl := Option.some.inj hf
    exact hret _ _ dX11_count_104
  have hf := itn hw30 hf
  by_cases hw38 : v1 = 4
  · have hf := itp hw38 hf
    refine g_tblIn (pc := 1) (tgt := 105) (off := 104) X dX11_count_1 (by rw [hw38]; decide) (by rw [hw38]; decide) (by rw [hw38]; rfl) (by decide) ?_
    refine g_aload_n (pc := 105) X dX11_count_105 rfl 0 rfl ?_
    obtain ⟨hk31, hf⟩ := gp_some hf
    obtain ⟨q32, hr33, hf⟩ := bnd_some hf
    refine g_getR (pc := 106) X fl_X11_52 (KClt hk31 (by decide)) hk31 hr33 dX11_count_106 ?_
    obtain ⟨hk34, hf⟩ := gp_some hf
    obtain ⟨q35, hr36, hf⟩ := bnd_some hf
    refine g_getR (pc := 109) X fl_X11_281 (KClt hk34 (by decide)) hk34 hr36 dX11_count_109 ?_
    obtain ⟨hk37, hf⟩ := gp_some hf
    refine g_getI (pc := 112) X fl_X11_367 (KClt hk37 (by decide)) hk37 dX11_count_112 ?_
    refine g_i2l (pc := 115) X dX11_count_115 ?_
    obtain rfl := Option.some.inj hf
    exact hret _ _ dX11_count_116
  have hf := itn hw38 hf
  by_cases hw46 : v1 = 5
  · have hf := itp hw46 hf
    refine g_tblIn (pc := 1) (tgt := 117) (off := 116) X dX11_count_1 (by rw [hw46]; decide) (by rw [hw46]; decide) (by rw [hw46]; rfl) (by decide) ?_
    refine g_aload_n (pc := 117) X dX11_count_117 rfl 0 rfl ?_
    obtain ⟨hk39, hf⟩ := gp_some hf
    obtain ⟨q40, hr41, hf⟩ := bnd_some hf
    refine g_getR (pc := 118) X fl_X11_52 (KClt hk39 (by decide)) hk39 hr41 dX11_count_118 ?_
    obtain ⟨hk42, hf⟩ := gp_some hf
    obtain ⟨q43, hr44, hf⟩ := bnd_some hf
    refine g_getR (pc := 121) X fl_X11_135 (KClt hk42 (by decide)) hk42 hr44 dX11_count_121 ?_
    obtain ⟨hk45, hf⟩ := gp_some hf
    refine g_getI (pc := 124) X fl_X11_370 (KClt hk45 (by decide)) hk45 dX11_count_124 ?_
    refine g_i2l (pc := 127) X dX11_count_127 ?_
    obtain rfl := Option.some.inj hf
    exact hret _ _ dX11_count_128
  have hf := itn hw46 hf
  by_cases hw54 : v1 = 6
  · have hf := itp hw54 hf
    refine g_tblIn (pc := 1) (tgt := 129) (off := 128) X dX11_count_1 (by rw [hw54]; decide) (by rw [hw54]; decide) (by rw [hw54]; rfl) (by decide) ?_
    refine g_aload_n (pc := 129) X dX11_count_129 rfl 0 rfl ?_
    obtain ⟨hk47, hf⟩ := gp_some hf
    obtain ⟨q48, hr49, hf⟩ := bnd_some hf
    refine g_getR (pc := 130) X fl_X11_52 (KClt hk47 (by decide)) hk47 hr49 dX11_count_130 ?_
    obtain ⟨hk50, hf⟩ := gp_some hf
    obtain ⟨q51, hr52, hf⟩ := bnd_some hf
    refine g_getR (pc := 133) X fl_X11_135 (KClt hk50 (by decide)) hk50 hr52 dX11_count_133 ?_
    obtain ⟨hk53, hf⟩ := gp_some hf
    refine g_getI (pc := 136) X fl_X11_139 (KClt hk53 (by decide)) hk53 dX11_count_136 ?_
    refine g_i2l (pc := 139) X dX11_count_139 ?_
    obtain rfl := Option.some.inj hf
    exact hret _ _ dX11_count_140
  have hf := itn hw54 hf
  by_cases hw59 : v1 = 7
  · have hf := itp hw59 hf
    refine g_tblIn (pc := 1) (tgt := 141) (off := 140) X dX11_count_1 (by rw [hw59]; decide) (by rw [hw59]; decide) (by rw [hw59]; rfl) (by decide) ?_
    refine g_aload_n (pc := 141) X dX11_count_141 rfl 0 rfl ?_
    obtain ⟨hk55, hf⟩ := gp_some hf
    obtain ⟨q56, hr57, hf⟩ := bnd_some hf
    refine g_getR (pc := 142) X fl_X11_18 (KClt hk55 (by decide)) hk55 hr57 dX11_count_142 ?_
    obtain ⟨hk58, hf⟩ := gp_some hf
    refine g_getI (pc := 145) X fl_X11_110 (KClt hk58 (by decide)) hk58 dX11_count_145 ?_
    refine g_i2l (pc := 148) X dX11_count_148 ?_
    obtain rfl := Option.some.inj hf
    exact hret _ _ dX11_count_149
  have hf := itn hw59 hf
  by_cases hw67 : v1 = 8
  · have hf := itp hw67 hf
    refine g_tblIn (pc := 1) (tgt := 150) (off := 149) X dX11_count_1 (by rw [hw67]; decide) (by rw [hw67]; decide) (by rw [hw67]; rfl) (by decide) ?_
    refine g_aload_n (pc := 150) X dX11_count_150 rfl 0 rfl ?_
    obtain ⟨hk60, hf⟩ := gp_some hf
    obtain ⟨q61, hr62, hf⟩ := bnd_some hf
    refine g_getR (pc := 151) X fl_X11_52 (KClt hk60 (by decide)) hk60 hr62 dX11_count_151 ?_
    obtain ⟨hk63, hf⟩ := gp_some hf
    obtain ⟨q64, hr65, hf⟩ := bnd_some hf
    refine g_getR (pc := 154) X fl_X11_150 (KClt hk63 (by decide)) hk63 hr65 dX11_count_154 ?_
    obtain ⟨hk66, hf⟩ := gp_some hf
    refine g_getI (pc := 157) X fl_X11_232 (KClt hk66 (by decide)) hk66 dX11_count_157 ?_
    refine g_i2l (pc := 160) X dX11_count_160 ?_
    obtain rfl := Option.some.inj hf
    exact hret _ _ dX11_count_161
  have hf := itn hw67 hf
  have hsw : v1.toInt < 0 ∨ 8 < v1.toInt := by
    have nhw4 : ¬ v1.toInt = 0 := fun h => hw4 (Int32.toInt_inj.mp (by rw [h]; rfl))
    have nhw12 : ¬ v1.toInt = 1 := fun h => hw12 (Int32.toInt_inj.mp (by rw [h]; rfl))
    have nhw20 : ¬ v1.toInt = 2 := fun h => hw20 (Int32.toInt_inj.mp (by rw [h]; rfl))
    have nhw30 : ¬ v1.toInt = 3 := fun h => hw30 (Int32.toInt_inj.mp (by rw [h]; rfl))
    have nhw38 : ¬ v1.toInt = 4 := fun h => hw38 (Int32.toInt_inj.mp (by rw [h]; rfl))
    have nhw46 : ¬ v1.toInt = 5 := fun h => hw46 (Int32.toInt_inj.mp (by rw [h]; rfl))
    have nhw54 : ¬ v1.toInt = 6 := fun h => hw54 (Int32.toInt_inj.mp (by rw [h]; rfl))
    have nhw59 : ¬ v1.toInt = 7 := fun h => hw59 (Int32.toInt_inj.mp (by rw [h]; rfl))
    have nhw67 : ¬ v1.toInt = 8 := fun h => hw67 (Int32.toInt_inj.mp (by rw [h]; rfl))
    omega
  refine g_tblOut (pc := 1) (tgt := 162) X dX11_count_1 hsw (by decide) ?_
  refine g_ldc2 (pc := 162) X dX11_count_162 kl_X11_64 ?_
  obtain rfl := Option.some.inj hf
  exact hret _ _ dX11_count_165

noncomputable def fX11_status (v0 : Nat) (m : Mem) : Option Int32 := gp (KC v0 = 11) (some (m.1 v0 9))
set_option maxHeartbeats 4000000 in
set_option maxRecDepth 100000 in
theorem cX11_status_ct (z : Zx) (ad : Nat → Nat) (v0 : Nat) (m : Mem) (r : Int32) (hf : fX11_status v0 m = some r) : CtI z wC yX11_status cX11_status 1 (some .int) (Rm 2) ad 91 [.ref (ad v0)] m m r := by
  refine ct_ofI mi_X11_status rfl (Nat.le_of_ble_eq_true rfl) (fun x X hret => ?_)
  refine g_lv [(0, .ref (ad v0))] [0] rfl ?_
  unfold fX11_status at hf
  refine g_aload_n (pc := 0) X dX11_status_0 rfl 0 rfl ?_
  obtain ⟨hk1, hf⟩ := gp_some hf
  refine g_getI (pc := 1) X fl_X11_373 (KClt hk1 (by decide)) hk1 dX11_status_1 ?_
  obtain rfl := Option.some.inj hf
  exact hret _ _ rfl dX11_status_4

