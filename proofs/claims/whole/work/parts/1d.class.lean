noncomputable def fX11_blown_148 (v0 : Nat) (m : Mem) : Option (Int64 × Mem) := gp (KC v0 = 11) (bnd (m.2.2 v0 6) (fun q2 => gp (KC q2 = 10) (bnd (m.2.2 q2 1) (fun q5 => gp (KC q5 = 4) (bnd2 (fX11_fine v0 ((m.1 q5 6).toInt64) m) (fun r9 m10 => some (r9, m10)))))))
noncomputable def fX11_blown_108b (v0 : Nat) (v2 : Int32) (v3 : Int32) (v4 : Nat) (v5 : Int32) (m : Mem) : Option ((Int32 × Mem) ⊕ (Mem)) := if (v2 + v3) ≤ v5 then (some (.inr (m))) else (gp (KC v0 = 11) (bnd (m.2.2 v0 6) (fun q12 => gp (KC q12 = 10) (bnd (m.2.2 q12 1) (fun q15 => bnd (m.2.2 q12 0) (fun q17 => gp (KC v4 = 6) (bnd (m.2.2 v4 0) (fun q20 => gp (KC q20 = 14) (gp (inb v5 (NC q20) = true) (gp (KC q15 = 4) (bnd (fX4_passHour q15 q17 (m.1 q20 v5.toNatClampNeg) (0 : Int32) m) (fun m25 => lt1 (v5 + 1) (fun v5_27 => some (.inl (v5_27, m25)))))))))))))))
noncomputable def fX11_blown_108 (v0 : Nat) (v2 : Int32) (v3 : Int32) (v4 : Nat) (v5 : Int32) (m : Mem) : Option (Int64 × Mem) := bnd (iter (fun s => fX11_blown_108b v0 v2 v3 v4 s.1 s.2) FU (v5, m)) (fun e => fX11_blown_148 v0 e)
noncomputable def fX11_blown (v0 : Nat) (v1 : Int32) (v2 : Int32) (v3 : Int32) (m : Mem) : Option (Int64 × Mem) := gp (KC v0 = 11) (bnd (m.2.2 v0 6) (fun q30 => gp (KC q30 = 10) (bnd (m.2.2 q30 1) (fun q33 => gp (KC q33 = 4) (if (m.1 q33 3) = 0 then (some ((-9000000000000000002 : Int64), m)) else (bnd (fX11_isWithin v1 (0 : Int32) (7 : Int32)) (fun r37 => if r37 = 0 then (some ((-9000000000000000001 : Int64), m)) else (bnd (fX11_isWithin v3 (1 : Int32) (40 : Int32)) (fun r39 => if r39 = 0 then (some ((-9000000000000000001 : Int64), m)) else (bnd (m.2.2 v0 0) (fun q40 => gp (KC q40 = 17) (gp (inb v1 (NC q40) = true) (bnd (m.2.2 q40 v1.toNatClampNeg) (fun q44 => gp (KC q44 = 6) (bnd (fX6_isMissing q44 m) (fun r47 => if r47 = 0 then (bnd (fX6_holds q44 v2 v3 m) (fun r50 => if r50 = 0 then (bnd2 (fX11_found v0 (2 : Int32) m) (fun r57 m58 => some (r57, m58))) else (bnd (m.2.2 q30 0) (fun q51 => gp (KC q51 = 9) (bnd (fX6_isAllWithin q44 v2 v3 ((m.1 q51 5) - (1 : Int32)) m) (fun r55 => if r55 = 0 then (some ((-9000000000000000001 : Int64), m)) else (fX11_blown_108 v0 v2 v3 q44 v2 m))))))) else (bnd2 (fX11_found v0 (1 : Int32) m) (fun r60 m61 => some (r60, m61)))))))))))))))))))
set_option maxHeartbeats 4000000 in
set_option maxRecDepth 100000 in
theorem cX11_blown_ct (z : Zx) (ad : Nat → Nat) (v0 : Nat) (v1 : Int32) (v2 : Int32) (v3 : Int32) (m m2 : Mem) (r : Int64) (hf : fX11_blown v0 v1 v2 v3 m = some (r, m2)) : CtL z wC yX11_blown cX11_blown 6 (some .long) (Rm 7) ad 91 [.ref (ad v0), .int v1, .int v2, .int v3] m m2 r := by
  refine ct_ofL mi_X11_blown rfl (Nat.le_of_ble_eq_true rfl) (fun x X hret => ?_)
  refine g_lv [(0, .ref (ad v0)), (1, .int v1), (2, .int v2), (3, .int v3)] [0, 1, 2, 3] rfl ?_
  have hL148 : ∀ (v0 : Nat) (m : Mem), fX11_blown_148 v0 m = some (r, m2) → G z wC x 6 0 0 ad 91 m 148 [(0, .ref (ad v0))] [] := by
    intro v0 m hf
    unfold fX11_blown_148 at hf
    refine g_aload_n (pc := 148) X dX11_blown_148 rfl 0 rfl ?_
    refine g_aload_n (pc := 149) X dX11_blown_149 rfl 0 rfl ?_
    obtain ⟨hk1, hf⟩ := gp_some hf
    obtain ⟨q2, hr3, hf⟩ := bnd_some hf
    refine g_getR (pc := 150) X fl_X11_52 (KClt hk1 (by decide)) hk1 hr3 dX11_blown_150 ?_
    obtain ⟨hk4, hf⟩ := gp_some hf
    obtain ⟨q5, hr6, hf⟩ := bnd_some hf
    refine g_getR (pc := 153) X fl_X11_159 (KClt hk4 (by decide)) hk4 hr6 dX11_blown_153 ?_
    obtain ⟨hk7, hf⟩ := gp_some hf
    refine g_getI (pc := 156) X fl_X11_194 (KClt hk7 (by decide)) hk7 dX11_blown_156 ?_
    refine g_i2l (pc := 159) X dX11_blown_159 ?_
    obtain ⟨r9, m10, hq8, hf⟩ := bnd2_some hf
    refine g_callVL (pc := 160) (As := [.long ((m.1 q5 6).toInt64)]) (rest := []) X mi_X11_fine im_X11_fine se_X11_fine (KClt hk1 (by decide)) hk1 clX11 ml_X11_74 (cX11_fine_ct z ad v0 ((m.1 q5 6).toInt64) m m10 r9 hq8) rfl rfl (Nat.le_of_ble_eq_true rfl) ⟨rfl, rfl, by decide, by decide, Nat.le_refl _, Nat.le_refl _⟩ dX11_blown_160 ?_
    obtain ⟨rfl, rfl⟩ := som2 hf
    exact hret _ _ dX11_blown_163
  have hL108 : ∀ (v0 : Nat) (v2 : Int32) (v3 : Int32) (v4 : Nat) (v5 : Int32) (m : Mem), fX11_blown_108 v0 v2 v3 v4 v5 m = some (r, m2) → G z wC x 6 0 0 ad 91 m 108 [(0, .ref (ad v0)), (2, .int v2), (3, .int v3), (4, .ref (ad v4)), (5, .int v5)] [] := by
    intro v0 v2 v3 v4 v5 m hf
    unfold fX11_blown_108 at hf
    obtain ⟨e108, hit108, hrest108⟩ := bnd_some hf
    refine iter_ok (Hd := fun (s : (Int32 × Mem)) => G z wC x 6 0 0 ad 91 s.2 108 [(0, .ref (ad v0)), (2, .int v2), (3, .int v3), (4, .ref (ad v4)), (5, .int s.1)] []) ?_ FU (v5, m) hit108
    intro s ob108 hf hs108 he108
    obtain ⟨v5, m⟩ := s
    have hf : fX11_blown_108b v0 v2 v3 v4 v5 m = some ob108 := hf
    unfold fX11_blown_108b at hf
    refine g_iload (pc := 108) X dX11_blown_108 4 rfl ?_
    refine g_iload_n (pc := 110) X dX11_blown_110 rfl 1 rfl ?_
    refine g_iload_n (pc := 111) X dX11_blown_111 rfl 2 rfl ?_
    refine g_iadd (pc := 112) X dX11_blown_112 ?_
    refine g_icmp_ge (pc := 113) (tgt := 148) X dX11_blown_113 (by decide) (fun hc => ?_) (fun hc => ?_)
    · have hf := itp hc hf
      have he108 := he108 _ (Option.some.inj hf).symm
      subst he108
      have hf : fX11_blown_148 v0 m = some (r, m2) := hrest108
      refine g_lv [(0, .ref (ad v0))] [0] rfl ?_
      exact hL148 _ _ hf
    · have hf := itn hc hf
      refine g_aload_n (pc := 116) X dX11_blown_116 rfl 0 rfl ?_
      obtain ⟨hk11, hf⟩ := gp_some hf
      obtain ⟨q12, hr13, hf⟩ := bnd_some hf
      refine g_getR (pc := 117) X fl_X11_52 (KClt hk11 (by decide)) hk11 hr13 dX11_blown_117 ?_
      obtain ⟨hk14, hf⟩ := gp_some hf
      obtain ⟨q15, hr16, hf⟩ := bnd_some hf
      refine g_getR (pc := 120) X fl_X11_159 (KClt hk14 (by decide)) hk14 hr16 dX11_blown_120 ?_
      refine g_aload_n (pc := 123) X dX11_blown_123 rfl 0 rfl ?_
      refine g_getR (pc := 124) X fl_X11_52 (KClt hk11 (by decide)) hk11 hr13 dX11_blown_124 ?_
      obtain ⟨q17, hr18, hf⟩ := bnd_some hf
      refine g_getR (pc := 127) X fl_X11_150 (KClt hk14 (by decide)) hk14 hr18 dX11_blown_127 ?_
      refine g_aload (pc := 130) X dX11_blown_130 3 rfl ?_
      obtain ⟨hk19, hf⟩ := gp_some hf
      obtain ⟨q20, hr21, hf⟩ := bnd_some hf
      refine g_getR (pc := 132) X fl_X11_94 (KClt hk19 (by decide)) hk19 hr21 dX11_blown_132 ?_
      refine g_iload (pc := 135) X dX11_blown_135 4 rfl ?_
      obtain ⟨hk22, hf⟩ := gp_some hf
      obtain ⟨hi23, hf⟩ := gp_some hf
      refine g_iald (pc := 137) X (KClt hk22 (by decide)) hk22 hi23 dX11_blown_137 ?_
      refine g_iconst (v := (0 : Int32)) (pc := 138) X dX11_blown_138 (by decide) ?_
      obtain ⟨hk26, hf⟩ := gp_some hf
      obtain ⟨m25, hq24, hf⟩ := bnd_some hf
      refine g_callVV (pc := 139) (As := [.ref (ad q17), .int (m.1 q20 v5.toNatClampNeg), .int (0 : Int32)]) (rest := []) X mi_X4_passHour im_X4_passHour se_X4_passHour (KClt hk26 (by decide)) hk26 clX4 ml_X11_190 (cX4_passHour_ct z ad q15 q17 (m.1 q20 v5.toNatClampNeg) (0 : Int32) m m25 hq24) rfl rfl (Nat.le_of_ble_eq_true rfl) ⟨rfl, rfl, by decide, by decide, Nat.le_refl _, Nat.le_refl _⟩ dX11_blown_139 ?_
      obtain ⟨v5_27, e28, hf⟩ := lt1_some hf
      refine g_iinc (v2 := v5_27) (lv2 := [(0, .ref (ad v0)), (2, .int v2), (3, .int v3), (4, .ref (ad v4)), (5, .int v5_27)]) (pc := 142) X dX11_blown_142 4 rfl (by rw [e28]; rfl) (by decide) [1, 2, 3, 4, 0] rfl ?_
      refine g_goto (pc := 145) (tgt := 108) X dX11_blown_145 (by decide) ?_
      exact hs108 (v5_27, m25) (Option.some.inj hf).symm
  unfold fX11_blown at hf
  refine g_aload_n (pc := 0) X dX11_blown_0 rfl 0 rfl ?_
  obtain ⟨hk29, hf⟩ := gp_some hf
  obtain ⟨q30, hr31, hf⟩ := bnd_some hf
  refine g_getR (pc := 1) X fl_X11_52 (KClt hk29 (by decide)) hk29 hr31 dX11_blown_1 ?_
  obtain ⟨hk32, hf⟩ := gp_some hf
  obtain ⟨q33, hr34, hf⟩ := bnd_some hf
  refine g_getR (pc := 4) X fl_X11_159 (KClt hk32 (by decide)) hk32 hr34 dX11_blown_4 ?_
  obtain ⟨hk35, hf⟩ := gp_some hf
  refine g_getI (pc := 7) X fl_X11_178 (KClt hk35 (by decide)) hk35 dX11_blown_7 ?_
  refine g_if_ne (pc := 10) (tgt := 17) X dX11_blown_10 (by decide) (fun hc => ?_) (fun hc => ?_)
  · have hf := itn hc hf
    refine g_iload_n (pc := 17) X dX11_blown_17 rfl 1 rfl ?_
    refine g_iconst (v := (0 : Int32)) (pc := 18) X dX11_blown_18 (by decide) ?_
    refine g_bipush (v := (7 : Int32)) (pc := 19) X dX11_blown_19 (by decide) ?_
    obtain ⟨r37, hq36, hf⟩ := bnd_some hf
    refine g_callSI (pc := 21) (As := [.int v1, .int (0 : Int32), .int (7 : Int32)]) (rest := []) X mi_X11_isWithin sm_X11_isWithin ml_X11_60 (cX11_isWithin_ct z ad v1 (0 : Int32) (7 : Int32) m r37 hq36) rfl rfl (Nat.le_of_ble_eq_true rfl) ⟨rfl, rfl, by decide, by decide, Nat.le_refl _, Nat.le_refl _⟩ dX11_blown_21 ?_
    refine g_if_eq (pc := 24) (tgt := 37) X dX11_blown_24 (by decide) (fun hc => ?_) (fun hc => ?_)
    · have hf := itp hc hf
      refine g_ldc2 (pc := 37) X dX11_blown_37 kl_X11_64 ?_
      obtain ⟨rfl, rfl⟩ := som2 hf
      exact hret _ _ dX11_blown_40
    · have hf := itn hc hf
      refine g_iload_n (pc := 27) X dX11_blown_27 rfl 3 rfl ?_
      refine g_iconst (v := (1 : Int32)) (pc := 28) X dX11_blown_28 (by decide) ?_
      refine g_bipush (v := (40 : Int32)) (pc := 29) X dX11_blown_29 (by decide) ?_
      obtain ⟨r39, hq38, hf⟩ := bnd_some hf
      refine g_callSI (pc := 31) (As := [.int v3, .int (1 : Int32), .int (40 : Int32)]) (rest := []) X mi_X11_isWithin sm_X11_isWithin ml_X11_60 (cX11_isWithin_ct z ad v3 (1 : Int32) (40 : Int32) m r39 hq38) rfl rfl (Nat.le_of_ble_eq_true rfl) ⟨rfl, rfl, by decide, by decide, Nat.le_refl _, Nat.le_refl _⟩ dX11_blown_31 ?_
      refine g_if_ne (pc := 34) (tgt := 41) X dX11_blown_34 (by decide) (fun hc => ?_) (fun hc => ?_)
      · have hf := itn hc hf
        refine g_aload_n (pc := 41) X dX11_blown_41 rfl 0 rfl ?_
        obtain ⟨q40, hr41, hf⟩ := bnd_some hf
        refine g_getR (pc := 42) X fl_X11_11 (KClt hk29 (by decide)) hk29 hr41 dX11_blown_42 ?_
        refine g_iload_n (pc := 45) X dX11_blown_45 rfl 1 rfl ?_
        obtain ⟨hk42, hf⟩ := gp_some hf
        obtain ⟨hi43, hf⟩ := gp_some hf
        obtain ⟨q44, hr45, hf⟩ := bnd_some hf
        refine g_aald (pc := 46) X (KClt hk42 (by decide)) hk42 (by decide) hi43 hr45 dX11_blown_46 ?_
        refine g_astore (lv2 := [(0, .ref (ad v0)), (1, .int v1), (2, .int v2), (3, .int v3), (4, .ref (ad q44))]) (pc := 47) X dX11_blown_47 (by decide) [1, 2, 3, 4, 0] rfl ?_
        refine g_aload (pc := 49) X dX11_blown_49 4 rfl ?_
        obtain ⟨hk48, hf⟩ := gp_some hf
        obtain ⟨r47, hq46, hf⟩ := bnd_some hf
        refine g_callVI (pc := 51) (As := []) (rest := []) X mi_X6_isMissing im_X6_isMissing se_X6_isMissing (KClt hk48 (by decide)) hk48 clX6 ml_X11_78 (cX6_isMissing_ct z ad q44 m r47 hq46) rfl rfl (Nat.le_of_ble_eq_true rfl) ⟨rfl, rfl, by decide, by decide, Nat.le_refl _, Nat.le_refl _⟩ dX11_blown_51 ?_
        refine g_if_eq (pc := 54) (tgt := 63) X dX11_blown_54 (by decide) (fun hc => ?_) (fun hc => ?_)
        · have hf := itp hc hf
          refine g_aload (pc := 63) X dX11_blown_63 4 rfl ?_
          refine g_iload_n (pc := 65) X dX11_blown_65 rfl 2 rfl ?_
          refine g_iload_n (pc := 66) X dX11_blown_66 rfl 3 rfl ?_
          obtain ⟨r50, hq49, hf⟩ := bnd_some hf
          refine g_callVI (pc := 67) (As := [.int v2, .int v3]) (rest := []) X mi_X6_holds im_X6_holds se_X6_holds (KClt hk48 (by decide)) hk48 clX6 ml_X11_82 (cX6_holds_ct z ad q44 v2 v3 m r50 hq49) rfl rfl (Nat.le_of_ble_eq_true rfl) ⟨rfl, rfl, by decide, by decide, Nat.le_refl _, Nat.le_refl _⟩ dX11_blown_67 ?_
          refine g_if_ne (pc := 70) (tgt := 79) X dX11_blown_70 (by decide) (fun hc => ?_) (fun hc => ?_)
          · have hf := itn hc hf
            refine g_aload (pc := 79) X dX11_blown_79 4 rfl ?_
            refine g_iload_n (pc := 81) X dX11_blown_81 rfl 2 rfl ?_
            refine g_iload_n (pc := 82) X dX11_blown_82 rfl 3 rfl ?_
            refine g_aload_n (pc := 83) X dX11_blown_83 rfl 0 rfl ?_
            refine g_getR (pc := 84) X fl_X11_52 (KClt hk29 (by decide)) hk29 hr31 dX11_blown_84 ?_
            obtain ⟨q51, hr52, hf⟩ := bnd_some hf
            refine g_getR (pc := 87) X fl_X11_150 (KClt hk32 (by decide)) hk32 hr52 dX11_blown_87 ?_
            obtain ⟨hk53, hf⟩ := gp_some hf
            refine g_getI (pc := 90) X fl_X11_197 (KClt hk53 (by decide)) hk53 dX11_blown_90 ?_
            refine g_iconst (v := (1 : Int32)) (pc := 93) X dX11_blown_93 (by decide) ?_
            refine g_isub (pc := 94) X dX11_blown_94 ?_
            obtain ⟨r55, hq54, hf⟩ := bnd_some hf
            refine g_callVI (pc := 95) (As := [.int v2, .int v3, .int ((m.1 q51 5) - (1 : Int32))]) (rest := []) X mi_X6_isAllWithin im_X6_isAllWithin se_X6_isAllWithin (KClt hk48 (by decide)) hk48 clX6 ml_X11_200 (cX6_isAllWithin_ct z ad q44 v2 v3 ((m.1 q51 5) - (1 : Int32)) m r55 hq54) rfl rfl (Nat.le_of_ble_eq_true rfl) ⟨rfl, rfl, by decide, by decide, Nat.le_refl _, Nat.le_refl _⟩ dX11_blown_95 ?_
            refine g_if_ne (pc := 98) (tgt := 105) X dX11_blown_98 (by decide) (fun hc => ?_) (fun hc => ?_)
            · have hf := itn hc hf
              refine g_iload_n (pc := 105) X dX11_blown_105 rfl 2 rfl ?_
              refine g_istore (lv2 := [(0, .ref (ad v0)), (1, .int v1), (2, .int v2), (3, .int v3), (4, .ref (ad q44)), (5, .int v2)]) (pc := 106) X dX11_blown_106 (by decide) [1, 2, 3, 4, 5, 0] rfl ?_
              refine g_lv [(0, .ref (ad v0)), (2, .int v2), (3, .int v3), (4, .ref (ad q44)), (5, .int v2)] [0, 2, 3, 4, 5] rfl ?_
              exact hL108 _ _ _ _ _ _ hf
            · have hf := itp hc hf
              refine g_ldc2 (pc := 101) X dX11_blown_101 kl_X11_64 ?_
              obtain ⟨rfl, rfl⟩ := som2 hf
              exact hret _ _ dX11_blown_104
          · have hf := itp hc hf
            refine g_aload_n (pc := 73) X dX11_blown_73 rfl 0 rfl ?_
            refine g_iconst (v := (2 : Int32)) (pc := 74) X dX11_blown_74 (by decide) ?_
            obtain ⟨r57, m58, hq56, hf⟩ := bnd2_some hf
            refine g_callVL (pc := 75) (As := [.int (2 : Int32)]) (rest := []) X mi_X11_found im_X11_found se_X11_found (KClt hk29 (by decide)) hk29 clX11 ml_X11_66 (cX11_found_ct z ad v0 (2 : Int32) m m58 r57 hq56) rfl rfl (Nat.le_of_ble_eq_true rfl) ⟨rfl, rfl, by decide, by decide, Nat.le_refl _, Nat.le_refl _⟩ dX11_blown_75 ?_
            obtain ⟨rfl, rfl⟩ := som2 hf
            exact hret _ _ dX11_blown_78
        · have hf := itn hc hf
          refine g_aload_n (pc := 57) X dX11_blown_57 rfl 0 rfl ?_
          refine g_iconst (v := (1 : Int32)) (pc := 58) X dX11_blown_58 (by decide) ?_
          obtain ⟨r60, m61, hq59, hf⟩ := bnd2_some hf
          refine g_callVL (pc := 59) (As := [.int (1 : Int32)]) (rest := []) X mi_X11_found im_X11_found se_X11_found (KClt hk29 (by decide)) hk29 clX11 ml_X11_66 (cX11_found_ct z ad v0 (1 : Int32) m m61 r60 hq59) rfl rfl (Nat.le_of_ble_eq_true rfl) ⟨rfl, rfl, by decide, by decide, Nat.le_refl _, Nat.le_refl _⟩ dX11_blown_59 ?_
          obtain ⟨rfl, rfl⟩ := som2 hf
          exact hret _ _ dX11_blown_62
      · have hf := itp hc hf
        refine g_ldc2 (pc := 37) X dX11_blown_37 kl_X11_64 ?_
        obtain ⟨rfl, rfl⟩ := som2 hf
        exact hret _ _ dX11_blown_40
  · have hf := itp hc hf
    refine g_ldc2 (pc := 13) X dX11_blown_13 kl_X11_148 ?_
    obtain ⟨rfl, rfl⟩ := som2 hf
    exact hret _ _ dX11_blown_16

noncomputable def fX11_ship (v0 : Nat) (v1 : Int32) (m : Mem) : Option Int64 := gp (KC v0 = 11) (bnd (m.2.2 v0 6) (fun q2 => gp (KC q2 = 10) (bnd (m.2.2 q2 1) (fun q5 => gp (KC q5 = 4) (if (m.1 q5 3) = 0 then (some (-9000000000000000002 : Int64)) else (if v1 = 0 then (gp (¬ (16 : Int32) = 0) (some (((m.1 q5 4) - (m.1 q5 4) / (16 : Int32) * (16 : Int32)).toInt64))) else if v1 = 1 then (gp (¬ (16 : Int32) = 0) (some (((m.1 q5 4) / (16 : Int32)).toInt64))) else if v1 = 2 then (some ((m.1 q5 5).toInt64)) else if v1 = 3 then (some ((m.1 q5 6).toInt64)) else if v1 = 4 then (if (m.1 q5 7) = 0 then (some (0 : Int64)) else (some (1 : Int64))) else if v1 = 5 then (bnd (fX4_isSunk q5 m) (fun r16 => if r16 = 0 then (some (0 : Int64)) else (some (1 : Int64)))) else if v1 = 6 then (some ((m.1 q5 0).toInt64)) else some (-9000000000000000001 : Int64)))))))
set_option maxHeartbeats 4000000 in
set_option maxRecDepth 100000 in
theorem cX11_ship_ct (z : Zx) (ad : Nat → Nat) (v0 : Nat) (v1 : Int32) (m : Mem) (r : Int64) (hf : fX11_ship v0 v1 m = some r) : CtL z wC yX11_ship cX11_ship 3 (some .long) (Rm 3) ad 91 [.ref (ad v0), .int v1] m m r := by
  refine ct_ofL mi_X11_ship rfl (Nat.le_of_ble_eq_true rfl) (fun x X hret => ?_)
  refine g_lv [(0, .ref (ad v0)), (1, .int v1)] [0, 1] rfl ?_
  unfold fX11_ship at hf
  refine g_aload_n (pc := 0) X dX11_ship_0 rfl 0 rfl ?_
  obtain ⟨hk1, hf⟩ := gp_some hf
  obtain ⟨q2, hr3, hf⟩ := bnd_some hf
  refine g_getR (pc := 1) X fl_X11_52 (KClt hk1 (by decide)) hk1 hr3 dX11_ship_1 ?_
  obtain ⟨hk4, hf⟩ := gp_some hf
  obtain ⟨q5, hr6, hf⟩ := bnd_some hf
  refine g_getR (pc := 4) X fl_X11_159 (KClt hk4 (by decide)) hk4 hr6 dX11_ship_4 ?_
  refine g_astore_n (lv2 := [(0, .ref (ad v0)), (1, .int v1), (2, .ref (ad q5))]) (pc := 7) X dX11_ship_7 rfl (by decide) [1, 2, 0] rfl ?_
  refine g_aload_n (pc := 8) X dX11_ship_8 rfl 2 rfl ?_
  obtain ⟨hk7, hf⟩ := gp_some hf
  refine g_getI (pc := 9) X fl_X11_178 (KClt hk7 (by decide)) hk7 dX11_ship_9 ?_
  refine g_if_ne (pc := 12) (tgt := 19) X dX11_ship_12 (by decide) (fun hc => ?_) (fun hc => ?_)
  · have hf := itn hc hf
    refine g_iload_n (pc := 19) X dX11_ship_19 rfl 1 rfl ?_
    by_cases hw9 : v1 = 0
    · have hf := itp hw9 hf
      refine g_tblIn (pc := 20) (tgt := 64) (off := 44) X dX11_ship_20 (by rw [hw9]; decide) (by rw [hw9]; decide) (by rw [hw9]; rfl) (by decide) ?_
      refine g_aload_n (pc := 64) X dX11_ship_64 rfl 2 rfl ?_
      refine g_getI (pc := 65) X fl_X11_203 (KClt hk7 (by decide)) hk7 dX11_ship_65 ?_
      refine g_bipush (v := (16 : Int32)) (pc := 68) X dX11_ship_68 (by decide) ?_
      obtain ⟨hz8, hf⟩ := gp_some hf
      refine g_irem (pc := 70) X dX11_ship_70 hz8 ?_
      refine g_i2l (pc := 71) X dX11_ship_71 ?_
      obtain rfl := Option.some.inj hf
      exact hret _ _ dX11_ship_72
    have hf := itn hw9 hf
    by_cases hw11 : v1 = 1
    · have hf := itp hw11 hf
      refine g_tblIn (pc := 20) (tgt := 73) (off := 53) X dX11_ship_20 (by rw [hw11]; decide) (by rw [hw11]; decide) (by rw [hw11]; rfl) (by decide) ?_
      refine g_aload_n (pc := 73) X dX11_ship_73 rfl 2 rfl ?_
      refine g_getI (pc := 74) X fl_X11_203 (KClt hk7 (by decide)) hk7 dX11_ship_74 ?_
      refine g_bipush (v := (16 : Int32)) (pc := 77) X dX11_ship_77 (by decide) ?_
      obtain ⟨hz10, hf⟩ := gp_some hf
      refine g_idiv (pc := 79) X dX11_ship_79 hz10 ?_
      refine g_i2l (pc := 80) X dX11_ship_80 ?_
      obtain rfl := Option.some.inj hf
      exact hret _ _ dX11_ship_81
    have hf := itn hw11 hf
    by_cases hw12 : v1 = 2
    · have hf := itp hw12 hf
      refine g_tblIn (pc := 20) (tgt := 82) (off := 62) X dX11_ship_20 (by rw [hw12]; decide) (by rw [hw12]; decide) (by rw [hw12]; rfl) (by decide) ?_
      refine g_aload_n (pc := 82) X dX11_ship_82 rfl 2 rfl ?_
      refine g_getI (pc := 83) X fl_X11_206 (KClt hk7 (by decide)) hk7 dX11_ship_83 ?_
      refine g_i2l (pc := 86) X dX11_ship_86 ?_
      obtain rfl := Option.some.inj hf
      exact hret _ _ dX11_ship_87
    have hf := itn hw12 hf
    by_cases hw13 : v1 = 3
    · have hf := itp hw13 hf
      refine g_tblIn (pc := 20) (tgt := 88) (off := 68) X dX11_ship_20 (by rw [hw13]; decide) (by rw [hw13]; decide) (by rw [hw13]; rfl) (by decide) ?_
      refine g_aload_n (pc := 88) X dX11_ship_88 rfl 2 rfl ?_
      refine g_getI (pc := 89) X fl_X11_194 (KClt hk7 (by decide)) hk7 dX11_ship_89 ?_
      refine g_i2l (pc := 92) X dX11_ship_92 ?_
      obtain rfl := Option.some.inj hf
      exact hret _ _ dX11_ship_93
    have hf := itn hw13 hf
    by_cases hw14 : v1 = 4
    · have hf := itp hw14 hf
      refine g_tblIn (pc := 20) (tgt := 94) (off := 74) X dX11_ship_20 (by rw [hw14]; decide) (by rw [hw14]; decide) (by rw [hw14]; rfl) (by decide) ?_
      refine g_aload_n (pc := 94) X dX11_ship_94 rfl 2 rfl ?_
      refine g_getI (pc := 95) X fl_X11_209 (KClt hk7 (by decide)) hk7 dX11_ship_95 ?_
      refine g_if_eq (pc := 98) (tgt := 105) X dX11_ship_98 (by decide) (fun hc => ?_) (fun hc => ?_)
      · have hf := itp hc hf
        refine g_lconst (v := (0 : Int64)) (pc := 105) X dX11_ship_105 (by decide) ?_
        obtain rfl := Option.some.inj hf
        exact hret _ _ dX11_ship_106
      · have hf := itn hc hf
        refine g_lconst (v := (1 : Int64)) (pc := 101) X dX11_ship_101 (by decide) ?_
        refine g_goto (pc := 102) (tgt := 106) X dX11_ship_102 (by decide) ?_
        obtain rfl := Option.some.inj hf
        exact hret _ _ dX11_ship_106
    have hf := itn hw14 hf
    by_cases hw17 : v1 = 5
    · have hf := itp hw17 hf
      refine g_tblIn (pc := 20) (tgt := 107) (off := 87) X dX11_ship_20 (by rw [hw17]; decide) (by rw [hw17]; decide) (by rw [hw17]; rfl) (by decide) ?_
      refine g_aload_n (pc := 107) X dX11_ship_107 rfl 2 rfl ?_
      obtain ⟨r16, hq15, hf⟩ := bnd_some hf
      refine g_callVI (pc := 108) (As := []) (rest := []) X mi_X4_isSunk im_X4_isSunk se_X4_isSunk (KClt hk7 (by decide)) hk7 clX4 ml_X11_212 (cX4_isSunk_ct z ad q5 m r16 hq15) rfl rfl (Nat.le_of_ble_eq_true rfl) ⟨rfl, rfl, by decide, by decide, Nat.le_refl _, Nat.le_refl _⟩ dX11_ship_108 ?_
      refine g_if_eq (pc := 111) (tgt := 118) X dX11_ship_111 (by decide) (fun hc => ?_) (fun hc => ?_)
      · have hf := itp hc hf
        refine g_lconst (v := (0 : Int64)) (pc := 118) X dX11_ship_118 (by decide) ?_
        obtain rfl := Option.some.inj hf
        exact hret _ _ dX11_ship_119
      · have hf := itn hc hf
        refine g_lconst (v := (1 : Int64)) (pc := 114) X dX11_ship_114 (by decide) ?_
        refine g_goto (pc := 115) (tgt := 119) X dX11_ship_115 (by decide) ?_
        obtain rfl := Option.some.inj hf
        exact hret _ _ dX11_ship_119
    have hf := itn hw17 hf
    by_cases hw18 : v1 = 6
    · have hf := itp hw18 hf
      refine g_tblIn (pc := 20) (tgt := 120) (off := 100) X dX11_ship_20 (by rw [hw18]; decide) (by rw [hw18]; decide) (by rw [hw18]; rfl) (by decide) ?_
      refine g_aload_n (pc := 120) X dX11_ship_120 rfl 2 rfl ?_
      refine g_getI (pc := 121) X fl_X11_175 (KClt hk7 (by decide)) hk7 dX11_ship_121 ?_
      refine g_i2l (pc := 124) X dX11_ship_124 ?_
      obtain rfl := Option.some.inj hf
      exact hret _ _ dX11_ship_125
    have hf := itn hw18 hf
    have hsw : v1.toInt < 0 ∨ 6 < v1.toInt := by
      have nhw9 : ¬ v1.toInt = 0 := fun h => hw9 (Int32.toInt_inj.mp (by rw [h]; rfl))
      have nhw11 : ¬ v1.toInt = 1 := fun h => hw11 (Int32.toInt_inj.mp (by rw [h]; rfl))
      have nhw12 : ¬ v1.toInt = 2 := fun h => hw12 (Int32.toInt_inj.mp (by rw [h]; rfl))
      have nhw13 : ¬ v1.toInt = 3 := fun h => hw13 (Int32.toInt_inj.mp (by rw [h]; rfl))
      have nhw14 : ¬ v1.toInt = 4 := fun h => hw14 (Int32.toInt_inj.mp (by rw [h]; rfl))
      have nhw17 : ¬ v1.toInt = 5 := fun h => hw17 (Int32.toInt_inj.mp (by rw [h]; rfl))
      have nhw18 : ¬ v1.toInt = 6 := fun h => hw18 (Int32.toInt_inj.mp (by rw [h]; rfl))
      omega
    refine g_tblOut (pc := 20) (tgt := 126) X dX11_ship_20 hsw (by decide) ?_
    refine g_ldc2 (pc := 126) X dX11_ship_126 kl_X11_64 ?_
    obtain rfl := Option.some.inj hf
    exact hret _ _ dX11_ship_129
  · have hf := itp hc hf
    refine g_ldc2 (pc := 15) X dX11_ship_15 kl_X11_148 ?_
    obtain rfl := Option.some.inj hf
    exact hret _ _ dX11_ship_18

noncomputable def fX9_isOpen (v0 : Nat) (v1 : Int32) (m : Mem) : Option Int32 := gp (KC v0 = 9) (bnd (fX9_isCell v0 v1 m) (fun r2 => if r2 = 0 then (some (0 : Int32)) else (bnd (fX9_isLand v0 v1 m) (fun r5 => if r5 = 0 then (some (1 : Int32)) else (some (0 : Int32))))))
set_option maxHeartbeats 4000000 in
set_option maxRecDepth 100000 in
theorem cX9_isOpen_ct (z : Zx) (ad : Nat → Nat) (v0 : Nat) (v1 : Int32) (m : Mem) (r : Int32) (hf : fX9_isOpen v0 v1 m = some r) : CtI z wC yX9_isOpen cX9_isOpen 2 (some .boolean) (Rm 6) ad 91 [.ref (ad v0), .int v1] m m r := by
  refine ct_ofI mi_X9_isOpen rfl (Nat.le_of_ble_eq_true rfl) (fun x X hret => ?_)
  refine g_lv [(0, .ref (ad v0)), (1, .int v1)] [0, 1] rfl ?_
  unfold fX9_isOpen at hf
  refine g_aload_n (pc := 0) X dX9_isOpen_0 rfl 0 rfl ?_
  refine g_iload_n (pc := 1) X dX9_isOpen_1 rfl 1 rfl ?_
  obtain ⟨hk3, hf⟩ := gp_some hf
  obtain ⟨r2, hq1, hf⟩ := bnd_some hf
  refine g_callVI (pc := 2) (As := [.int v1]) (rest := []) X mi_X9_isCell im_X9_isCell se_X9_isCell (KClt hk3 (by decide)) hk3 clX9 ml_X9_48 (cX9_isCell_ct z ad v0 v1 m r2 hq1) rfl rfl (Nat.le_of_ble_eq_true rfl) ⟨rfl, rfl, by decide, by decide, Nat.le_refl _, Nat.le_refl _⟩ dX9_isOpen_2 ?_
  refine g_if_eq (pc := 5) (tgt := 20) X dX9_isOpen_5 (by decide) (fun hc => ?_) (fun hc => ?_)
  · have hf := itp hc hf
    refine g_iconst (v := (0 : Int32)) (pc := 20) X dX9_isOpen_20 (by decide) ?_
    obtain rfl := Option.some.inj hf
    exact hret _ _ (by decide) dX9_isOpen_21
  · have hf := itn hc hf
    refine g_aload_n (pc := 8) X dX9_isOpen_8 rfl 0 rfl ?_
    refine g_iload_n (pc := 9) X dX9_isOpen_9 rfl 1 rfl ?_
    obtain ⟨r5, hq4, hf⟩ := bnd_some hf
    refine g_callVI (pc := 10) (As := [.int v1]) (rest := []) X mi_X9_isLand im_X9_isLand se_X9_isLand (KClt hk3 (by decide)) hk3 clX9 ml_X9_55 (cX9_isLand_ct z ad v0 v1 m r5 hq4) rfl rfl (Nat.le_of_ble_eq_true rfl) ⟨rfl, rfl, by decide, by decide, Nat.le_refl _, Nat.le_refl _⟩ dX9_isOpen_10 ?_
    refine g_if_ne (pc := 13) (tgt := 20) X dX9_isOpen_13 (by decide) (fun hc => ?_) (fun hc => ?_)
    · have hf := itn hc hf
      refine g_iconst (v := (0 : Int32)) (pc := 20) X dX9_isOpen_20 (by decide) ?_
      obtain rfl := Option.some.inj hf
      exact hret _ _ (by decide) dX9_isOpen_21
    · have hf := itp hc hf
      refine g_iconst (v := (1 : Int32)) (pc := 16) X dX9_isOpen_16 (by decide) ?_
      refine g_goto (pc := 17) (tgt := 21) X dX9_isOpen_17 (by decide) ?_
      obtain rfl := Option.some.inj hf
      exact hret _ _ (by decide) dX9_isOpen_21

noncomputable def fX3_begin_29 (v0 : Nat) (v1 : Int32) (m : Mem) : Option Mem := gp (KC v0 = 3) (bnd (m.2.2 v0 0) (fun q2 => gp (KC q2 = 15) (gp (inb v1 (NC q2) = true) (lt1 (uJ m q2 v1.toNatClampNeg (1 : Int64)) (fun m6 => bnd (m6.2.2 v0 1) (fun q8 => gp (KC q8 = 14) (gp (inb v1 (NC q8) = true) (lt1 (uI m6 q8 v1.toNatClampNeg (1 : Int32)) (fun m12 => some m12)))))))))
noncomputable def fX3_begin_2b (v0 : Nat) (v1 : Int32) (v2 : Int32) (m : Mem) : Option ((Int32 × Mem) ⊕ (Mem)) := if (128 : Int32) ≤ v2 then (some (.inr (m))) else (gp (KC v0 = 3) (bnd (m.2.2 v0 0) (fun q15 => gp (KC q15 = 15) (gp (inb v2 (NC q15) = true) (lt1 (uJ m q15 v2.toNatClampNeg (0 : Int64)) (fun m19 => bnd (m19.2.2 v0 1) (fun q21 => gp (KC q21 = 14) (gp (inb v2 (NC q21) = true) (lt1 (uI m19 q21 v2.toNatClampNeg (0 : Int32)) (fun m25 => lt1 (v2 + 1) (fun v2_27 => some (.inl (v2_27, m25)))))))))))))
noncomputable def fX3_begin_2 (v0 : Nat) (v1 : Int32) (v2 : Int32) (m : Mem) : Option Mem := bnd (iter (fun s => fX3_begin_2b v0 v1 s.1 s.2) FU (v2, m)) (fun e => fX3_begin_29 v0 v1 e)
noncomputable def fX3_begin (v0 : Nat) (v1 : Int32) (m : Mem) : Option Mem := lt1 ((0 : Int32)) (fun v2_29 => fX3_begin_2 v0 v1 v2_29 m)
set_option maxHeartbeats 4000000 in
set_option maxRecDepth 100000 in
theorem cX3_begin_ct (z : Zx) (ad : Nat → Nat) (v0 : Nat) (v1 : Int32) (m m2 : Mem) (hf : fX3_begin v0 v1 m = some m2) : CtV z wC yX3_begin cX3_begin 3 none (Rm 2) ad 91 [.ref (ad v0), .int v1] m m2 := by
  refine ct_ofV mi_X3_begin rfl (Nat.le_of_ble_eq_true rfl) (fun x X hret => ?_)
  refine g_lv [(0, .ref (ad v0)), (1, .int v1)] [0, 1] rfl ?_
  have hL29 : ∀ (v0 : Nat) (v1 : Int32) (m : Mem), fX3_begin_29 v0 v1 m = some m2 → G z wC x 3 0 0 ad 91 m 29 [(0, .ref (ad v0)), (1, .int v1)] [] := by
    intro v0 v1 m hf
    unfold fX3_begin_29 at hf
    refine g_aload_n (pc := 29) X dX3_begin_29 rfl 0 rfl ?_
    obtain ⟨hk1, hf⟩ := gp_some hf
    obtain ⟨q2, hr3, hf⟩ := bnd_some hf
    refine g_getR (pc := 30) X fl_X3_9 (KClt hk1 (by decide)) hk1 hr3 dX3_begin_30 ?_
    refine g_iload_n (pc := 33) X dX3_begin_33 rfl 1 rfl ?_
    refine g_lconst (v := (1 : Int64)) (pc := 34) X dX3_begin_34 (by decide) ?_
    obtain ⟨hk4, hf⟩ := gp_some hf
    obtain ⟨hi5, hf⟩ := gp_some hf
    refine g_last (pc := 35) X (KClt hk4 (by decide)) hk4 hi5 dX3_begin_35 ?_
    obtain ⟨m6, e7, hf⟩ := lt1_some hf
    refine g_mem e7 ?_
    refine g_aload_n (pc := 36) X dX3_begin_36 rfl 0 rfl ?_
    obtain ⟨q8, hr9, hf⟩ := bnd_some hf
    refine g_getR (pc := 37) X fl_X3_15 (KClt hk1 (by decide)) hk1 hr9 dX3_begin_37 ?_
    refine g_iload_n (pc := 40) X dX3_begin_40 rfl 1 rfl ?_
    refine g_iconst (v := (1 : Int32)) (pc := 41) X dX3_begin_41 (by decide) ?_
    obtain ⟨hk10, hf⟩ := gp_some hf
    obtain ⟨hi11, hf⟩ := gp_some hf
    refine g_iast (pc := 42) X (KClt hk10 (by decide)) hk10 hi11 dX3_begin_42 ?_
    obtain ⟨m12, e13, hf⟩ := lt1_some hf
    refine g_mem e13 ?_
    obtain rfl := Option.some.inj hf
    exact hret _ _ dX3_begin_43
  have hL2 : ∀ (v0 : Nat) (v1 : Int32) (v2 : Int32) (m : Mem), fX3_begin_2 v0 v1 v2 m = some m2 → G z wC x 3 0 0 ad 91 m 2 [(0, .ref (ad v0)), (1, .int v1), (2, .int v2)] [] := by
    intro v0 v1 v2 m hf
    unfold fX3_begin_2 at hf
    obtain ⟨e2, hit2, hrest2⟩ := bnd_some hf
    refine iter_ok (Hd := fun (s : (Int32 × Mem)) => G z wC x 3 0 0 ad 91 s.2 2 [(0, .ref (ad v0)), (1, .int v1), (2, .int s.1)] []) ?_ FU (v2, m) hit2
    intro s ob2 hf hs2 he2
    obtain ⟨v2, m⟩ := s
    have hf : fX3_begin_2b v0 v1 v2 m = some ob2 := hf
    unfold fX3_begin_2b at hf
    refine g_iload_n (pc := 2) X dX3_begin_2 rfl 2 rfl ?_
    refine g_sipush (v := (128 : Int32)) (pc := 3) X dX3_begin_3 (by decide) ?_
    refine g_icmp_ge (pc := 6) (tgt := 29) X dX3_begin_6 (by decide) (fun hc => ?_) (fun hc => ?_)
    · have hf := itp hc hf
      have he2 := he2 _ (Option.some.inj hf).symm
      subst he2
      have hf : fX3_begin_29 v0 v1 m = some m2 := hrest2
      refine g_lv [(0, .ref (ad v0)), (1, .int v1)] [0, 1] rfl ?_
      exact hL29 _ _ _ hf
    · have hf := itn hc hf
      refine g_aload_n (pc := 9) X dX3_begin_9 rfl 0 rfl ?_
      obtain ⟨hk14, hf⟩ := gp_some hf
      obtain ⟨q15, hr16, hf⟩ := bnd_some hf
      refine g_getR (pc := 10) X fl_X3_9 (KClt hk14 (by decide)) hk14 hr16 dX3_begin_10 ?_
      refine g_iload_n (pc := 13) X dX3_begin_13 rfl 2 rfl ?_
      refine g_lconst (v := (0 : Int64)) (pc := 14) X dX3_begin_14 (by decide) ?_
      obtain ⟨hk17, hf⟩ := gp_some hf
      obtain ⟨hi18, hf⟩ := gp_some hf
      refine g_last (pc := 15) X (KClt hk17 (by decide)) hk17 hi18 dX3_begin_15 ?_
      obtain ⟨m19, e20, hf⟩ := lt1_some hf
      refine g_mem e20 ?_
      refine g_aload_n (pc := 16) X dX3_begin_16 rfl 0 rfl ?_
      obtain ⟨q21, hr22, hf⟩ := bnd_some hf
      refine g_getR (pc := 17) X fl_X3_15 (KClt hk14 (by decide)) hk14 hr22 dX3_begin_17 ?_
      refine g_iload_n (pc := 20) X dX3_begin_20 rfl 2 rfl ?_
      refine g_iconst (v := (0 : Int32)) (pc := 21) X dX3_begin_21 (by decide) ?_
      obtain ⟨hk23, hf⟩ := gp_some hf
      obtain ⟨hi24, hf⟩ := gp_some hf
      refine g_iast (pc := 22) X (KClt hk23 (by decide)) hk23 hi24 dX3_begin_22 ?_
      obtain ⟨m25, e26, hf⟩ := lt1_some hf
      refine g_mem e26 ?_
      obtain ⟨v2_27, e28, hf⟩ := lt1_some hf
      refine g_iinc (v2 := v2_27) (lv2 := [(0, .ref (ad v0)), (1, .int v1), (2, .int v2_27)]) (pc := 23) X dX3_begin_23 2 rfl (by rw [e28]; rfl) (by decide) [1, 2, 0] rfl ?_
      refine g_goto (pc := 26) (tgt := 2) X dX3_begin_26 (by decide) ?_
      exact hs2 (v2_27, m25) (Option.some.inj hf).symm
  unfold fX3_begin at hf
  refine g_iconst (v := (0 : Int32)) (pc := 0) X dX3_begin_0 (by decide) ?_
  obtain ⟨v2_29, e30, hf⟩ := lt1_some hf
  refine g_topi e30 ?_
  refine g_istore_n (lv2 := [(0, .ref (ad v0)), (1, .int v1), (2, .int v2_29)]) (pc := 1) X dX3_begin_1 rfl (by decide) [1, 2, 0] rfl ?_
  exact hL2 _ _ _ _ hf

noncomputable def fX9_oddsOf (v0 : Nat) (v1 : Int32) (m : Mem) : Option Int32 := bnd (fX11_isWithin v1 (0 : Int32) (3 : Int32)) (fun r2 => if r2 = 0 then (some (0 : Int32)) else (gp (KC v0 = 9) (bnd (m.2.2 v0 2) (fun q4 => gp (KC q4 = 14) (gp (inb v1 (NC q4) = true) (some (m.1 q4 v1.toNatClampNeg)))))))
set_option maxHeartbeats 4000000 in
set_option maxRecDepth 100000 in
theorem cX9_oddsOf_ct (z : Zx) (ad : Nat → Nat) (v0 : Nat) (v1 : Int32) (m : Mem) (r : Int32) (hf : fX9_oddsOf v0 v1 m = some r) : CtI z wC yX9_oddsOf cX9_oddsOf 2 (some .int) (Rm 3) ad 91 [.ref (ad v0), .int v1] m m r := by
  refine ct_ofI mi_X9_oddsOf rfl (Nat.le_of_ble_eq_true rfl) (fun x X hret => ?_)
  refine g_lv [(0, .ref (ad v0)), (1, .int v1)] [0, 1] rfl ?_
  unfold fX9_oddsOf at hf
  refine g_iload_n (pc := 0) X dX9_oddsOf_0 rfl 1 rfl ?_
  refine g_iconst (v := (0 : Int32)) (pc := 1) X dX9_oddsOf_1 (by decide) ?_
  refine g_iconst (v := (3 : Int32)) (pc := 2) X dX9_oddsOf_2 (by decide) ?_
  obtain ⟨r2, hq1, hf⟩ := bnd_some hf
  refine g_callSNI (pc := 3) (As := [.int v1, .int (0 : Int32), .int (3 : Int32)]) (rest := []) (q := 10) X mi_X11_isWithin sm_X11_isWithin rfl (cX11_isWithin_ct z ad v1 (0 : Int32) (3 : Int32) m r2 hq1) rfl rfl (Nat.le_of_ble_eq_true rfl) ⟨rfl, rfl, by decide, by decide, Nat.le_refl _, Nat.le_refl _⟩ dX9_oddsOf_3 ?_
  refine g_if_eq (pc := 6) (tgt := 18) X dX9_oddsOf_6 (by decide) (fun hc => ?_) (fun hc => ?_)
  · have hf := itp hc hf
    refine g_iconst (v := (0 : Int32)) (pc := 18) X dX9_oddsOf_18 (by decide) ?_
    obtain rfl := Option.some.inj hf
    exact hret _ _ rfl dX9_oddsOf_19
  · have hf := itn hc hf
    refine g_aload_n (pc := 9) X dX9_oddsOf_9 rfl 0 rfl ?_
    obtain ⟨hk3, hf⟩ := gp_some hf
    obtain ⟨q4, hr5, hf⟩ := bnd_some hf
    refine g_getR (pc := 10) X fl_X9_18 (KClt hk3 (by decide)) hk3 hr5 dX9_oddsOf_10 ?_
    refine g_iload_n (pc := 13) X dX9_oddsOf_13 rfl 1 rfl ?_
    obtain ⟨hk6, hf⟩ := gp_some hf
    obtain ⟨hi7, hf⟩ := gp_some hf
    refine g_iald (pc := 14) X (KClt hk6 (by decide)) hk6 hi7 dX9_oddsOf_14 ?_
    refine g_goto (pc := 15) (tgt := 19) X dX9_oddsOf_15 (by decide) ?_
    obtain rfl := Option.some.inj hf
    exact hret _ _ rfl dX9_oddsOf_19

noncomputable def fX3_spread_36 (v0 : Nat) (v1 : Nat) (v2 : Int32) (v3 : Int32) (v4 : Int32) (v5 : Int32) (s0 : Int32) (m : Mem) : Option ((Int32 × Mem) ⊕ (Mem)) := gp (KC v0 = 3) (bnd (m.2.2 v0 2) (fun q2 => gp (KC q2 = 15) (gp (inb s0 (NC q2) = true) (bnd (m.2.2 v0 0) (fun q6 => gp (KC q6 = 15) (gp (inb v2 (NC q6) = true) (gp (KC v1 = 9) (bnd (fX9_oddsOf v1 v5 m) (fun r11 => gp (inb s0 (NC q2) = true) (lt1 (uJ m q2 s0.toNatClampNeg ((m.2.1 q2 s0.toNatClampNeg) + ((m.2.1 q6 v2.toNatClampNeg) * r11.toInt64))) (fun m14 => bnd (m14.2.2 v0 3) (fun q16 => gp (KC q16 = 14) (gp (inb s0 (NC q16) = true) (bnd (m14.2.2 v0 1) (fun q20 => gp (KC q20 = 14) (gp (inb v2 (NC q20) = true) (gp (inb s0 (NC q16) = true) (lt1 (uI m14 q16 s0.toNatClampNeg ((m14.1 q16 s0.toNatClampNeg) + (m14.1 q20 v2.toNatClampNeg))) (fun m25 => lt1 (v5 + 1) (fun v5_27 => some (.inl (v5_27, m25))))))))))))))))))))))
noncomputable def fX3_spread_10b (v0 : Nat) (v1 : Nat) (v2 : Int32) (v3 : Int32) (v4 : Int32) (v5 : Int32) (m : Mem) : Option ((Int32 × Mem) ⊕ (Mem)) := gp (KC v1 = 9) (if (m.1 v1 5) ≤ v5 then (some (.inr (m))) else (if v4 = 0 then (bnd (fX9_cellBehind v1 v2 v5 v3 m) (fun r31 => fX3_spread_36 v0 v1 v2 v3 v4 v5 r31 m)) else (fX3_spread_36 v0 v1 v2 v3 v4 v5 v2 m)))
noncomputable def fX3_spread_10 (v0 : Nat) (v1 : Nat) (v2 : Int32) (v3 : Int32) (v4 : Int32) (v5 : Int32) (m : Mem) : Option Mem := bnd (iter (fun s => fX3_spread_10b v0 v1 v2 v3 v4 s.1 s.2) FU (v5, m)) (fun e => some e)
noncomputable def fX3_spread (v0 : Nat) (v1 : Nat) (v2 : Int32) (v3 : Int32) (m : Mem) : Option Mem := gp (KC v1 = 9) (bnd (fX9_isLand v1 v2 m) (fun r33 => lt1 ((0 : Int32)) (fun v5_35 => fX3_spread_10 v0 v1 v2 v3 r33 v5_35 m)))
set_option maxHeartbeats 4000000 in
set_option maxRecDepth 100000 in
theorem cX3_spread_ct (z : Zx) (ad : Nat → Nat) (v0 : Nat) (v1 : Nat) (v2 : Int32) (v3 : Int32) (m m2 : Mem) (hf : fX3_spread v0 v1 v2 v3 m = some m2) : CtV z wC yX3_spread cX3_spread 7 none (Rm 6) ad 91 [.ref (ad v0), .ref (ad v1), .int v2, .int v3] m m2 := by
  refine ct_ofV mi_X3_spread rfl (Nat.le_of_ble_eq_true rfl) (fun x X hret => ?_)
  refine g_lv [(0, .ref (ad v0)), (1, .ref (ad v1)), (2, .int v2), (3, .int v3)] [0, 1, 2, 3] rfl ?_
  have hL10 : ∀ (v0 : Nat) (v1 : Nat) (v2 : Int32) (v3 : Int32) (v4 : Int32) (v5 : Int32) (m : Mem), fX3_spread_10 v0 v1 v2 v3 v4 v5 m = some m2 → G z wC x 7 0 0 ad 91 m 10 [(0, .ref (ad v0)), (1, .ref (ad v1)), (2, .int v2), (3, .int v3), (4, .int v4), (5, .int v5)] [] := by
    intro v0 v1 v2 v3 v4 v5 m hf
    unfold fX3_spread_10 at hf
    obtain ⟨e10, hit10, hrest10⟩ := bnd_some hf
    refine iter_ok (Hd := fun (s : (Int32 × Mem)) => G z wC x 7 0 0 ad 91 s.2 10 [(0, .ref (ad v0)), (1, .ref (ad v1)), (2, .int v2), (3, .int v3), (4, .int v4), (5, .int s.1)] []) ?_ FU (v5, m) hit10
    intro s ob10 hf hs10 he10
    obtain ⟨v5, m⟩ := s
    have hf : fX3_spread_10b v0 v1 v2 v3 v4 v5 m = some ob10 := hf
    have hL36 : ∀ (v5 : Int32) (s0 : Int32) (m : Mem), fX3_spread_36 v0 v1 v2 v3 v4 v5 s0 m = some ob10 → G z wC x 7 0 0 ad 91 m 36 [(0, .ref (ad v0)), (1, .ref (ad v1)), (2, .int v2), (3, .int v3), (4, .int v4), (5, .int v5)] [.int s0] := by
      intro v5 s0 m hf
      unfold fX3_spread_36 at hf
      refine g_istore (lv2 := [(0, .ref (ad v0)), (1, .ref (ad v1)), (2, .int v2), (3, .int v3), (4, .int v4), (5, .int v5), (6, .int s0)]) (pc := 36) X dX3_spread_36 (by decide) [1, 2, 3, 4, 5, 6, 0] rfl ?_
      refine g_aload_n (pc := 38) X dX3_spread_38 rfl 0 rfl ?_
      obtain ⟨hk1, hf⟩ := gp_some hf
      obtain ⟨q2, hr3, hf⟩ := bnd_some hf
      refine g_getR (pc := 39) X fl_X3_19 (KClt hk1 (by decide)) hk1 hr3 dX3_spread_39 ?_
      refine g_iload (pc := 42) X dX3_spread_42 6 rfl ?_
      refine g_dup2_11 (pc := 44) X dX3_spread_44 rfl rfl ?_
      obtain ⟨hk4, hf⟩ := gp_some hf
      obtain ⟨hi5, hf⟩ := gp_some hf
      refine g_lald (pc := 45) X (KClt hk4 (by decide)) hk4 hi5 dX3_spread_45 ?_
      refine g_aload_n (pc := 46) X dX3_spread_46 rfl 0 rfl ?_
      obtain ⟨q6, hr7, hf⟩ := bnd_some hf
      refine g_getR (pc := 47) X fl_X3_9 (KClt hk1 (by decide)) hk1 hr7 dX3_spread_47 ?_
      refine g_iload_n (pc := 50) X dX3_spread_50 rfl 2 rfl ?_
      obtain ⟨hk8, hf⟩ := gp_some hf
      obtain ⟨hi9, hf⟩ := gp_some hf
      refine g_lald (pc := 51) X (KClt hk8 (by decide)) hk8 hi9 dX3_spread_51 ?_
      refine g_aload_n (pc := 52) X dX3_spread_52 rfl 1 rfl ?_
      refine g_iload (pc := 53) X dX3_spread_53 5 rfl ?_
      obtain ⟨hk12, hf⟩ := gp_some hf
      obtain ⟨r11, hq10, hf⟩ := bnd_some hf
      refine g_callVI (pc := 55) (As := [.int v5]) (rest := [.long (m.2.1 q6 v2.toNatClampNeg), .long (m.2.1 q2 s0.toNatClampNeg), .int s0, .ref (ad q2)]) X mi_X9_oddsOf im_X9_oddsOf se_X9_oddsOf (KClt hk12 (by decide)) hk12 clX9 ml_X3_61 (cX9_oddsOf_ct z ad v1 v5 m r11 hq10) rfl rfl (Nat.le_of_ble_eq_true rfl) ⟨rfl, rfl, by decide, by decide, Nat.le_refl _, Nat.le_refl _⟩ dX3_spread_55 ?_
      refine g_i2l (pc := 58) X dX3_spread_58 ?_
      refine g_lmul (pc := 59) X dX3_spread_59 ?_
      refine g_ladd (pc := 60) X dX3_spread_60 ?_
      obtain ⟨hi13, hf⟩ := gp_some hf
      refine g_last (pc := 61) X (KClt hk4 (by decide)) hk4 hi13 dX3_spread_61 ?_
      obtain ⟨m14, e15, hf⟩ := lt1_some hf
      refine g_mem e15 ?_
      refine g_aload_n (pc := 62) X dX3_spread_62 rfl 0 rfl ?_
      obtain ⟨q16, hr17, hf⟩ := bnd_some hf
      refine g_getR (pc := 63) X fl_X3_22 (KClt hk1 (by decide)) hk1 hr17 dX3_spread_63 ?_
      refine g_iload (pc := 66) X dX3_spread_66 6 rfl ?_
      refine g_dup2_11 (pc := 68) X dX3_spread_68 rfl rfl ?_
      obtain ⟨hk18, hf⟩ := gp_some hf
      obtain ⟨hi19, hf⟩ := gp_some hf
      refine g_iald (pc := 69) X (KClt hk18 (by decide)) hk18 hi19 dX3_spread_69 ?_
      refine g_aload_n (pc := 70) X dX3_spread_70 rfl 0 rfl ?_
      obtain ⟨q20, hr21, hf⟩ := bnd_some hf
      refine g_getR (pc := 71) X fl_X3_15 (KClt hk1 (by decide)) hk1 hr21 dX3_spread_71 ?_
      refine g_iload_n (pc := 74) X dX3_spread_74 rfl 2 rfl ?_
      obtain ⟨hk22, hf⟩ := gp_some hf
      obtain ⟨hi23, hf⟩ := gp_some hf
      refine g_iald (pc := 75) X (KClt hk22 (by decide)) hk22 hi23 dX3_spread_75 ?_
      refine g_iadd (pc := 76) X dX3_spread_76 ?_
      obtain ⟨hi24, hf⟩ := gp_some hf
      refine g_iast (pc := 77) X (KClt hk18 (by decide)) hk18 hi24 dX3_spread_77 ?_
      obtain ⟨m25, e26, hf⟩ := lt1_some hf
      refine g_mem e26 ?_
      obtain ⟨v5_27, e28, hf⟩ := lt1_some hf
      refine g_iinc (v2 := v5_27) (lv2 := [(0, .ref (ad v0)), (1, .ref (ad v1)), (2, .int v2), (3, .int v3), (4, .int v4), (5, .int v5_27), (6, .int s0)]) (pc := 78) X dX3_spread_78 5 rfl (by rw [e28]; rfl) (by decide) [1, 2, 3, 4, 5, 0, 6] rfl ?_
      refine g_goto (pc := 81) (tgt := 10) X dX3_spread_81 (by decide) ?_
      refine g_lv [(0, .ref (ad v0)), (1, .ref (ad v1)), (2, .int v2), (3, .int v3), (4, .int v4), (5, .int v5_27)] [0, 1, 2, 3, 4, 5] rfl ?_
      exact hs10 (v5_27, m25) (Option.some.inj hf).symm
    unfold fX3_spread_10b at hf
    refine g_iload (pc := 10) X dX3_spread_10 5 rfl ?_
    refine g_aload_n (pc := 12) X dX3_spread_12 rfl 1 rfl ?_
    obtain ⟨hk29, hf⟩ := gp_some hf
    refine g_getI (pc := 13) X fl_X3_54 (KClt hk29 (by decide)) hk29 dX3_spread_13 ?_
    refine g_icmp_ge (pc := 16) (tgt := 84) X dX3_spread_16 (by decide) (fun hc => ?_) (fun hc => ?_)
    · have hf := itp hc hf
      have he10 := he10 _ (Option.some.inj hf).symm
      subst he10
      have hf : some m = some m2 := hrest10
      obtain rfl := Option.some.inj hf
      exact hret _ _ dX3_spread_84
    · have hf := itn hc hf
      refine g_iload (pc := 19) X dX3_spread_19 4 rfl ?_
      refine g_if_eq (pc := 21) (tgt := 28) X dX3_spread_21 (by decide) (fun hc => ?_) (fun hc => ?_)
      · have hf := itp hc hf
        refine g_aload_n (pc := 28) X dX3_spread_28 rfl 1 rfl ?_
        refine g_iload_n (pc := 29) X dX3_spread_29 rfl 2 rfl ?_
        refine g_iload (pc := 30) X dX3_spread_30 5 rfl ?_
        refine g_iload_n (pc := 32) X dX3_spread_32 rfl 3 rfl ?_
        obtain ⟨r31, hq30, hf⟩ := bnd_some hf
        refine g_callVI (pc := 33) (As := [.int v2, .int v5, .int v3]) (rest := []) X mi_X9_cellBehind im_X9_cellBehind se_X9_cellBehind (KClt hk29 (by decide)) hk29 clX9 ml_X3_57 (cX9_cellBehind_ct z ad v1 v2 v5 v3 m r31 hq30) rfl rfl (Nat.le_of_ble_eq_true rfl) ⟨rfl, rfl, by decide, by decide, Nat.le_refl _, Nat.le_refl _⟩ dX3_spread_33 ?_
        exact hL36 _ _ _ hf
      · have hf := itn hc hf
        refine g_iload_n (pc := 24) X dX3_spread_24 rfl 2 rfl ?_
        refine g_goto (pc := 25) (tgt := 36) X dX3_spread_25 (by decide) ?_
        exact hL36 _ _ _ hf
  unfold fX3_spread at hf
  refine g_aload_n (pc := 0) X dX3_spread_0 rfl 1 rfl ?_
  refine g_iload_n (pc := 1) X dX3_spread_1 rfl 2 rfl ?_
  obtain ⟨hk34, hf⟩ := gp_some hf
  obtain ⟨r33, hq32, hf⟩ := bnd_some hf
  refine g_callVI (pc := 2) (As := [.int v2]) (rest := []) X mi_X9_isLand im_X9_isLand se_X9_isLand (KClt hk34 (by decide)) hk34 clX9 ml_X3_50 (cX9_isLand_ct z ad v1 v2 m r33 hq32) rfl rfl (Nat.le_of_ble_eq_true rfl) ⟨rfl, rfl, by decide, by decide, Nat.le_refl _, Nat.le_refl _⟩ dX3_spread_2 ?_
  refine g_istore (lv2 := [(0, .ref (ad v0)), (1, .ref (ad v1)), (2, .int v2), (3, .int v3), (4, .int r33)]) (pc := 5) X dX3_spread_5 (by decide) [1, 2, 3, 4, 0] rfl ?_
  refine g_iconst (v := (0 : Int32)) (pc := 7) X dX3_spread_7 (by decide) ?_
  obtain ⟨v5_35, e36, hf⟩ := lt1_some hf
  refine g_topi e36 ?_
  refine g_istore (lv2 := [(0, .ref (ad v0)), (1, .ref (ad v1)), (2, .int v2), (3, .int v3), (4, .int r33), (5, .int v5_35)]) (pc := 8) X dX3_spread_8 (by decide) [1, 2, 3, 4, 5, 0] rfl ?_
  exact hL10 _ _ _ _ _ _ _ hf

noncomputable def fX3_passHour_60 (v0 : Nat) (m : Mem) : Option Mem := gp (KC v0 = 3) (bnd (m.2.2 v0 0) (fun q2 => bnd (m.2.2 v0 2) (fun q4 => lt1 (uR m v0 0 (some q4)) (fun m6 => lt1 (uR m6 v0 2 (some q2)) (fun m8 => bnd (m8.2.2 v0 1) (fun q10 => bnd (m8.2.2 v0 3) (fun q12 => lt1 (uR m8 v0 1 (some q12)) (fun m14 => lt1 (uR m14 v0 3 (some q10)) (fun m16 => some m16)))))))))
noncomputable def fX3_passHour_54 (v0 : Nat) (v1 : Nat) (v2 : Int32) (v3 : Int32) (m : Mem) : Option ((Int32 × Mem) ⊕ (Mem)) := lt1 (v3 + 1) (fun v3_18 => some (.inl (v3_18, m)))
noncomputable def fX3_passHour_31b (v0 : Nat) (v1 : Nat) (v2 : Int32) (v3 : Int32) (m : Mem) : Option ((Int32 × Mem) ⊕ (Mem)) := if (128 : Int32) ≤ v3 then (some (.inr (m))) else (gp (KC v0 = 3) (bnd (m.2.2 v0 1) (fun q21 => gp (KC q21 = 14) (gp (inb v3 (NC q21) = true) (if (m.1 q21 v3.toNatClampNeg) ≤ 0 then (fX3_passHour_54 v0 v1 v2 v3 m) else (bnd (fX3_spread v0 v1 v3 v2 m) (fun m26 => fX3_passHour_54 v0 v1 v2 v3 m26)))))))
noncomputable def fX3_passHour_31 (v0 : Nat) (v1 : Nat) (v2 : Int32) (v3 : Int32) (m : Mem) : Option Mem := bnd (iter (fun s => fX3_passHour_31b v0 v1 v2 s.1 s.2) FU (v3, m)) (fun e => fX3_passHour_60 v0 e)
noncomputable def fX3_passHour_29 (v0 : Nat) (v1 : Nat) (v2 : Int32) (m : Mem) : Option Mem := lt1 ((0 : Int32)) (fun v3_27 => fX3_passHour_31 v0 v1 v2 v3_27 m)
noncomputable def fX3_passHour_2b (v0 : Nat) (v1 : Nat) (v2 : Int32) (v3 : Int32) (m : Mem) : Option ((Int32 × Mem) ⊕ (Mem)) := if (128 : Int32) ≤ v3 then (some (.inr (m))) else (gp (KC v0 = 3) (bnd (m.2.2 v0 2) (fun q30 => gp (KC q30 = 15) (gp (inb v3 (NC q30) = true) (lt1 (uJ m q30 v3.toNatClampNeg (0 : Int64)) (fun m34 => bnd (m34.2.2 v0 3) (fun q36 => gp (KC q36 = 14) (gp (inb v3 (NC q36) = true) (lt1 (uI m34 q36 v3.toNatClampNeg (0 : Int32)) (fun m40 => lt1 (v3 + 1) (fun v3_42 => some (.inl (v3_42, m40)))))))))))))
noncomputable def fX3_passHour_2 (v0 : Nat) (v1 : Nat) (v2 : Int32) (v3 : Int32) (m : Mem) : Option Mem := bnd (iter (fun s => fX3_passHour_2b v0 v1 v2 s.1 s.2) FU (v3, m)) (fun e => fX3_passHour_29 v0 v1 v2 e)
noncomputable def fX3_passHour (v0 : Nat) (v1 : Nat) (v2 : Int32) (m : Mem) : Option Mem := lt1 ((0 : Int32)) (fun v3_44 => fX3_passHour_2 v0 v1 v2 v3_44 m)
set_option maxHeartbeats 4000000 in
set_option maxRecDepth 100000 in
theorem cX3_passHour_ct (z : Zx) (ad : Nat → Nat) (v0 : Nat) (v1 : Nat) (v2 : Int32) (m m2 : Mem) (hf : fX3_passHour v0 v1 v2 m = some m2) : CtV z wC yX3_passHour cX3_passHour 5 none (Rm 7) ad 91 [.ref (ad v0), .ref (ad v1), .int v2] m m2 := by
  refine ct_ofV mi_X3_passHour rfl (Nat.le_of_ble_eq_true rfl) (fun x X hret => ?_)
  refine g_lv [(0, .ref (ad v0)), (1, .ref (ad v1)), (2, .int v2)] [0, 1, 2] rfl ?_
  have hL60 : ∀ (v0 : Nat) (m : Mem), fX3_passHour_60 v0 m = some m2 → G z wC x 5 0 0 ad 91 m 60 [(0, .ref (ad v0))] [] := by
    intro v0 m hf
    unfold fX3_passHour_60 at hf
    refine g_aload_n (pc := 60) X dX3_passHour_60 rfl 0 rfl ?_
    obtain ⟨hk1, hf⟩ := gp_some hf
    obtain ⟨q2, hr3, hf⟩ := bnd_some hf
    refine g_getR (pc := 61) X fl_X3_9 (KClt hk1 (by decide)) hk1 hr3 dX3_passHour_61 ?_
    refine g_astore_n (lv2 := [(0, .ref (ad v0)), (3, .ref (ad q2))]) (pc := 64) X dX3_passHour_64 rfl (by decide) [1, 0] rfl ?_
    refine g_aload_n (pc := 65) X dX3_passHour_65 rfl 0 rfl ?_
    refine g_aload_n (pc := 66) X dX3_passHour_66 rfl 0 rfl ?_
    obtain ⟨q4, hr5, hf⟩ := bnd_some hf
    refine g_getR (pc := 67) X fl_X3_19 (KClt hk1 (by decide)) hk1 hr5 dX3_passHour_67 ?_
    refine g_putR (pc := 70) X fl_X3_9 (KClt hk1 (by decide)) hk1 rfl rfl dX3_passHour_70 ?_
    obtain ⟨m6, e7, hf⟩ := lt1_some hf
    refine g_mem e7 ?_
    refine g_aload_n (pc := 73) X dX3_passHour_73 rfl 0 rfl ?_
    refine g_aload_n (pc := 74) X dX3_passHour_74 rfl 1 rfl ?_
    refine g_putR (pc := 75) X fl_X3_19 (KClt hk1 (by decide)) hk1 rfl rfl dX3_passHour_75 ?_
    obtain ⟨m8, e9, hf⟩ := lt1_some hf
    refine g_mem e9 ?_
    refine g_aload_n (pc := 78) X dX3_passHour_78 rfl 0 rfl ?_
    obtain ⟨q10, hr11, hf⟩ := bnd_some hf
    refine g_getR (pc := 79) X fl_X3_15 (KClt hk1 (by decide)) hk1 hr11 dX3_passHour_79 ?_
    refine g_astore (lv2 := [(0, .ref (ad v0)), (3, .ref (ad q2)), (4, .ref (ad q10))]) (pc := 82) X dX3_passHour_82 (by decide) [1, 2, 0] rfl ?_
    refine g_aload_n (pc := 84) X dX3_passHour_84 rfl 0 rfl ?_
    refine g_aload_n (pc := 85) X dX3_passHour_85 rfl 0 rfl ?_
    obtain ⟨q12, hr13, hf⟩ := bnd_some hf
    refine g_getR (pc := 86) X fl_X3_22 (KClt hk1 (by decide)) hk1 hr13 dX3_passHour_86 ?_
    refine g_putR (pc := 89) X fl_X3_15 (KClt hk1 (by decide)) hk1 rfl rfl dX3_passHour_89 ?_
    obtain ⟨m14, e15, hf⟩ := lt1_some hf
    refine g_mem e15 ?_
    refine g_aload_n (pc := 92) X dX3_passHour_92 rfl 0 rfl ?_
    refine g_aload (pc := 93) X dX3_passHour_93 2 rfl ?_
    refine g_putR (pc := 95) X fl_X3_22 (KClt hk1 (by decide)) hk1 rfl rfl dX3_passHour_95 ?_
    obtain ⟨m16, e17, hf⟩ := lt1_some hf
    refine g_mem e17 ?_
    obtain rfl := Option.some.inj hf
    exact hret _ _ dX3_passHour_98
  have hL31 : ∀ (v0 : Nat) (v1 : Nat) (v2 : Int32) (v3 : Int32) (m : Mem), fX3_passHour_31 v0 v1 v2 v3 m = some m2 → G z wC x 5 0 0 ad 91 m 31 [(0, .ref (ad v0)), (1, .ref (ad v1)), (2, .int v2), (3, .int v3)] [] := by
    intro v0 v1 v2 v3 m hf
    unfold fX3_passHour_31 at hf
    obtain ⟨e31, hit31, hrest31⟩ := bnd_some hf
    refine iter_ok (Hd := fun (s : (Int32 × Mem)) => G z wC x 5 0 0 ad 91 s.2 31 [(0, .ref (ad v0)), (1, .ref (ad v1)), (2, .int v2), (3, .int s.1)] []) ?_ FU (v3, m) hit31
    intro s ob31 hf hs31 he31
    obtain ⟨v3, m⟩ := s
    have hf : fX3_passHour_31b v0 v1 v2 v3 m = some ob31 := hf
    have hL54 : ∀ (v3 : Int32) (m : Mem), fX3_passHour_54 v0 v1 v2 v3 m = some ob31 → G z wC x 5 0 0 ad 91 m 54 [(0, .ref (ad v0)), (1, .ref (ad v1)), (2, .int v2), (3, .int v3)] [] := by
      intro v3 m hf
      unfold fX3_passHour_54 at hf
      obtain ⟨v3_18, e19, hf⟩ := lt1_some hf
      refine g_iinc (v2 := v3_18) (lv2 := [(0, .ref (ad v0)), (1, .ref (ad v1)), (2, .int v2), (3, .int v3_18)]) (pc := 54) X dX3_passHour_54 3 rfl (by rw [e19]; rfl) (by decide) [1, 2, 3, 0] rfl ?_
      refine g_goto (pc := 57) (tgt := 31) X dX3_passHour_57 (by decide) ?_
      exact hs31 (v3_18, m) (Option.some.inj hf).symm
    unfold fX3_passHour_31b at hf
    refine g_iload_n (pc := 31) X dX3_passHour_31 rfl 3 rfl ?_
    refine g_sipush (v := (128 : Int32)) (pc := 32) X dX3_passHour_32 (by decide) ?_
    refine g_icmp_ge (pc := 35) (tgt := 60) X dX3_passHour_35 (by decide) (fun hc => ?_) (fun hc => ?_)
    · have hf := itp hc hf
      have he31 := he31 _ (Option.some.inj hf).symm
      subst he31
      have hf : fX3_passHour_60 v0 m = some m2 := hrest31
      refine g_lv [(0, .ref (ad v0))] [0] rfl ?_
      exact hL60 _ _ hf
    · have hf := itn hc hf
      refine g_aload_n (pc := 38) X dX3_passHour_38 rfl 0 rfl ?_
      obtain ⟨hk20, hf⟩ := gp_some hf
      obtain ⟨q21, hr22, hf⟩ := bnd_some hf
      refine g_getR (pc := 39) X fl_X3_15 (KClt hk20 (by decide)) hk20 hr22 dX3_passHour_39 ?_
      refine g_iload_n (pc := 42) X dX3_passHour_42 rfl 3 rfl ?_
      obtain ⟨hk23, hf⟩ := gp_some hf
      obtain ⟨hi24, hf⟩ := gp_some hf
      refine g_iald (pc := 43) X (KClt hk23 (by decide)) hk23 hi24 dX3_passHour_43 ?_
      refine g_if_le (pc := 44) (tgt := 54) X dX3_passHour_44 (by decide) (fun hc => ?_) (fun hc => ?_)
      · have hf := itp hc hf
        exact hL54 _ _ hf
      · have hf := itn hc hf
        refine g_aload_n (pc := 47) X dX3_passHour_47 rfl 0 rfl ?_
        refine g_aload_n (pc := 48) X dX3_passHour_48 rfl 1 rfl ?_
        refine g_iload_n (pc := 49) X dX3_passHour_49 rfl 3 rfl ?_
        refine g_iload_n (pc := 50) X dX3_passHour_50 rfl 2 rfl ?_
        obtain ⟨m26, hq25, hf⟩ := bnd_some hf
        refine g_callVV (pc := 51) (As := [.ref (ad v1), .int v3, .int v2]) (rest := []) X mi_X3_spread im_X3_spread se_X3_spread (KClt hk20 (by decide)) hk20 clX3 ml_X3_46 (cX3_spread_ct z ad v0 v1 v3 v2 m m26 hq25) rfl rfl (Nat.le_of_ble_eq_true rfl) ⟨rfl, rfl, by decide, by decide, Nat.le_refl _, Nat.le_refl _⟩ dX3_passHour_51 ?_
        exact hL54 _ _ hf
  have hL29 : ∀ (v0 : Nat) (v1 : Nat) (v2 : Int32) (m : Mem), fX3_passHour_29 v0 v1 v2 m = some m2 → G z wC x 5 0 0 ad 91 m 29 [(0, .ref (ad v0)), (1, .ref (ad v1)), (2, .int v2)] [] := by
    intro v0 v1 v2 m hf
    unfold fX3_passHour_29 at hf
    refine g_iconst (v := (0 : Int32)) (pc := 29) X dX3_passHour_29 (by decide) ?_
    obtain ⟨v3_27, e28, hf⟩ := lt1_some hf
    refine g_topi e28 ?_
    refine g_istore_n (lv2 := [(0, .ref (ad v0)), (1, .ref (ad v1)), (2, .int v2), (3, .int v3_27)]) (pc := 30) X dX3_passHour_30 rfl (by decide) [1, 2, 3, 0] rfl ?_
    exact hL31 _ _ _ _ _ hf
  have hL2 : ∀ (v0 : Nat) (v1 : Nat) (v2 : Int32) (v3 : Int32) (m : Mem), fX3_passHour_2 v0 v1 v2 v3 m = some m2 → G z wC x 5 0 0 ad 91 m 2 [(0, .ref (ad v0)), (1, .ref (ad v1)), (2, .int v2), (3, .int v3)] [] := by
    intro v0 v1 v2 v3 m hf
    unfold fX3_passHour_2 at hf
    obtain ⟨e2, hit2, hrest2⟩ := bnd_some hf
    refine iter_ok (Hd := fun (s : (Int32 × Mem)) => G z wC x 5 0 0 ad 91 s.2 2 [(0, .ref (ad v0)), (1, .ref (ad v1)), (2, .int v2), (3, .int s.1)] []) ?_ FU (v3, m) hit2
    intro s ob2 hf hs2 he2
    obtain ⟨v3, m⟩ := s
    have hf : fX3_passHour_2b v0 v1 v2 v3 m = some ob2 := hf
    unfold fX3_passHour_2b at hf
    refine g_iload_n (pc := 2) X dX3_passHour_2 rfl 3 rfl ?_
    refine g_sipush (v := (128 : Int32)) (pc := 3) X dX3_passHour_3 (by decide) ?_
    refine g_icmp_ge (pc := 6) (tgt := 29) X dX3_passHour_6 (by decide) (fun hc => ?_) (fun hc => ?_)
    · have hf := itp hc hf
      have he2 := he2 _ (Option.some.inj hf).symm
      subst he2
      have hf : fX3_passHour_29 v0 v1 v2 m = some m2 := hrest2
      refine g_lv [(0, .ref (ad v0)), (1, .ref (ad v1)), (2, .int v2)] [0, 1, 2] rfl ?_
      exact hL29 _ _ _ _ hf
    · have hf := itn hc hf
      refine g_aload_n (pc := 9) X dX3_passHour_9 rfl 0 rfl ?_
      obtain ⟨hk29, hf⟩ := gp_some hf
      obtain ⟨q30, hr31, hf⟩ := bnd_some hf
      refine g_getR (pc := 10) X fl_X3_19 (KClt hk29 (by decide)) hk29 hr31 dX3_passHour_10 ?_
      refine g_iload_n (pc := 13) X dX3_passHour_13 rfl 3 rfl ?_
      refine g_lconst (v := (0 : Int64)) (pc := 14) X dX3_passHour_14 (by decide) ?_
      obtain ⟨hk32, hf⟩ := gp_some hf
      obtain ⟨hi33, hf⟩ := gp_some hf
      refine g_last (pc := 15) X (KClt hk32 (by decide)) hk32 hi33 dX3_passHour_15 ?_
      obtain ⟨m34, e35, hf⟩ := lt1_some hf
      refine g_mem e35 ?_
      refine g_aload_n (pc := 16) X dX3_passHour_16 rfl 0 rfl ?_
      obtain ⟨q36, hr37, hf⟩ := bnd_some hf
      refine g_getR (pc := 17) X fl_X3_22 (KClt hk29 (by decide)) hk29 hr37 dX3_passHour_17 ?_
      refine g_iload_n (pc := 20) X dX3_passHour_20 rfl 3 rfl ?_
      refine g_iconst (v := (0 : Int32)) (pc := 21) X dX3_passHour_21 (by decide) ?_
      obtain ⟨hk38, hf⟩ := gp_some hf
      obtain ⟨hi39, hf⟩ := gp_some hf
      refine g_iast (pc := 22) X (KClt hk38 (by decide)) hk38 hi39 dX3_passHour_22 ?_
      obtain ⟨m40, e41, hf⟩ := lt1_some hf
      refine g_mem e41 ?_
      obtain ⟨v3_42, e43, hf⟩ := lt1_some hf
      refine g_iinc (v2 := v3_42) (lv2 := [(0, .ref (ad v0)), (1, .ref (ad v1)), (2, .int v2), (3, .int v3_42)]) (pc := 23) X dX3_passHour_23 3 rfl (by rw [e43]; rfl) (by decide) [1, 2, 3, 0] rfl ?_
      refine g_goto (pc := 26) (tgt := 2) X dX3_passHour_26 (by decide) ?_
      exact hs2 (v3_42, m40) (Option.some.inj hf).symm
  unfold fX3_passHour at hf
  refine g_iconst (v := (0 : Int32)) (pc := 0) X dX3_passHour_0 (by decide) ?_
  obtain ⟨v3_44, e45, hf⟩ := lt1_some hf
  refine g_topi e45 ?_
  refine g_istore_n (lv2 := [(0, .ref (ad v0)), (1, .ref (ad v1)), (2, .int v2), (3, .int v3_44)]) (pc := 1) X dX3_passHour_1 rfl (by decide) [1, 2, 3, 0] rfl ?_
  exact hL2 _ _ _ _ _ hf

noncomputable def fX3_go_8b (v0 : Nat) (v1 : Nat) (v3 : Int32) (v4 : Int32) (v5 : Int32) (m : Mem) : Option ((Int32 × Mem) ⊕ (Mem)) := if v4 ≤ v5 then (some (.inr (m))) else (gp (KC v0 = 3) (bnd (fX3_passHour v0 v1 v3 m) (fun m2 => lt1 (v5 + 1) (fun v5_4 => some (.inl (v5_4, m2))))))
noncomputable def fX3_go_8 (v0 : Nat) (v1 : Nat) (v3 : Int32) (v4 : Int32) (v5 : Int32) (m : Mem) : Option Mem := bnd (iter (fun s => fX3_go_8b v0 v1 v3 v4 s.1 s.2) FU (v5, m)) (fun e => some e)
noncomputable def fX3_go (v0 : Nat) (v1 : Nat) (v2 : Int32) (v3 : Int32) (v4 : Int32) (m : Mem) : Option Mem := gp (KC v0 = 3) (bnd (fX3_begin v0 v2 m) (fun m7 => lt1 ((0 : Int32)) (fun v5_9 => fX3_go_8 v0 v1 v3 v4 v5_9 m7)))
set_option maxHeartbeats 4000000 in
set_option maxRecDepth 100000 in
theorem cX3_go_ct (z : Zx) (ad : Nat → Nat) (v0 : Nat) (v1 : Nat) (v2 : Int32) (v3 : Int32) (v4 : Int32) (m m2 : Mem) (hf : fX3_go v0 v1 v2 v3 v4 m = some m2) : CtV z wC yX3_go cX3_go 6 none (Rm 8) ad 91 [.ref (ad v0), .ref (ad v1), .int v2, .int v3, .int v4] m m2 := by
  refine ct_ofV mi_X3_go rfl (Nat.le_of_ble_eq_true rfl) (fun x X hret => ?_)
  refine g_lv [(0, .ref (ad v0)), (1, .ref (ad v1)), (2, .int v2), (3, .int v3), (4, .int v4)] [0, 1, 2, 3, 4] rfl ?_
  have hL8 : ∀ (v0 : Nat) (v1 : Nat) (v3 : Int32) (v4 : Int32) (v5 : Int32) (m : Mem), fX3_go_8 v0 v1 v3 v4 v5 m = some m2 → G z wC x 6 0 0 ad 91 m 8 [(0, .ref (ad v0)), (1, .ref (ad v1)), (3, .int v3), (4, .int v4), (5, .int v5)] [] := by
    intro v0 v1 v3 v4 v5 m hf
    unfold fX3_go_8 at hf
    obtain ⟨e8, hit8, hrest8⟩ := bnd_some hf
    refine iter_ok (Hd := fun (s : (Int32 × Mem)) => G z wC x 6 0 0 ad 91 s.2 8 [(0, .ref (ad v0)), (1, .ref (ad v1)), (3, .int v3), (4, .int v4), (5, .int s.1)] []) ?_ FU (v5, m) hit8
    intro s ob8 hf hs8 he8
    obtain ⟨v5, m⟩ := s
    have hf : fX3_go_8b v0 v1 v3 v4 v5 m = some ob8 := hf
    unfold fX3_go_8b at hf
    refine g_iload (pc := 8) X dX3_go_8 4 rfl ?_
    refine g_iload (pc := 10) X dX3_go_10 3 rfl ?_
    refine g_icmp_ge (pc := 12) (tgt := 27) X dX3_go_12 (by decide) (fun hc => ?_) (fun hc => ?_)
    · have hf := itp hc hf
      have he8 := he8 _ (Option.some.inj hf).symm
      subst he8
      have hf : some m = some m2 := hrest8
      obtain rfl := Option.some.inj hf
      exact hret _ _ dX3_go_27
    · have hf := itn hc hf
      refine g_aload_n (pc := 15) X dX3_go_15 rfl 0 rfl ?_
      refine g_aload_n (pc := 16) X dX3_go_16 rfl 1 rfl ?_
      refine g_iload_n (pc := 17) X dX3_go_17 rfl 2 rfl ?_
      obtain ⟨hk3, hf⟩ := gp_some hf
      obtain ⟨m2, hq1, hf⟩ := bnd_some hf
      refine g_callVV (pc := 18) (As := [.ref (ad v1), .int v3]) (rest := []) X mi_X3_passHour im_X3_passHour se_X3_passHour (KClt hk3 (by decide)) hk3 clX3 ml_X3_32 (cX3_passHour_ct z ad v0 v1 v3 m m2 hq1) rfl rfl (Nat.le_of_ble_eq_true rfl) ⟨rfl, rfl, by decide, by decide, Nat.le_refl _, Nat.le_refl _⟩ dX3_go_18 ?_
      obtain ⟨v5_4, e5, hf⟩ := lt1_some hf
      refine g_iinc (v2 := v5_4) (lv2 := [(0, .ref (ad v0)), (1, .ref (ad v1)), (3, .int v3), (4, .int v4), (5, .int v5_4)]) (pc := 21) X dX3_go_21 4 rfl (by rw [e5]; rfl) (by decide) [1, 2, 3, 4, 0] rfl ?_
      refine g_goto (pc := 24) (tgt := 8) X dX3_go_24 (by decide) ?_
      exact hs8 (v5_4, m2) (Option.some.inj hf).symm
  unfold fX3_go at hf
  refine g_aload_n (pc := 0) X dX3_go_0 rfl 0 rfl ?_
  refine g_iload_n (pc := 1) X dX3_go_1 rfl 2 rfl ?_
  obtain ⟨hk8, hf⟩ := gp_some hf
  obtain ⟨m7, hq6, hf⟩ := bnd_some hf
  refine g_callVV (pc := 2) (As := [.int v2]) (rest := []) X mi_X3_begin im_X3_begin se_X3_begin (KClt hk8 (by decide)) hk8 clX3 ml_X3_28 (cX3_begin_ct z ad v0 v2 m m7 hq6) rfl rfl (Nat.le_of_ble_eq_true rfl) ⟨rfl, rfl, by decide, by decide, Nat.le_refl _, Nat.le_refl _⟩ dX3_go_2 ?_
  refine g_iconst (v := (0 : Int32)) (pc := 5) X dX3_go_5 (by decide) ?_
  obtain ⟨v5_9, e10, hf⟩ := lt1_some hf
  refine g_topi e10 ?_
  refine g_istore (lv2 := [(0, .ref (ad v0)), (1, .ref (ad v1)), (2, .int v2), (3, .int v3), (4, .int v4), (5, .int v5_9)]) (pc := 6) X dX3_go_6 (by decide) [1, 2, 3, 4, 5, 0] rfl ?_
  refine g_lv [(0, .ref (ad v0)), (1, .ref (ad v1)), (3, .int v3), (4, .int v4), (5, .int v5_9)] [0, 1, 3, 4, 5] rfl ?_
  exact hL8 _ _ _ _ _ _ hf

noncomputable def fX11_power_5b (v0 : Int64) (v2 : Int32) (v3 : Int64) (v5 : Int32) : Option ((Int64 × Int32) ⊕ (Int64)) := if v2 ≤ v5 then (some (.inr (v3))) else (lt1 (v3 * v0) (fun v3_1 => lt1 (v5 + 1) (fun v5_3 => some (.inl (v3_1, v5_3)))))
noncomputable def fX11_power_5 (v0 : Int64) (v2 : Int32) (v3 : Int64) (v5 : Int32) : Option Int64 := bnd (iter (fun s => fX11_power_5b v0 v2 s.1 s.2) FU (v3, v5)) (fun e => some e)
noncomputable def fX11_power (v0 : Int64) (v2 : Int32) : Option Int64 := lt1 ((1 : Int64)) (fun v3_5 => lt1 ((0 : Int32)) (fun v5_7 => fX11_power_5 v0 v2 v3_5 v5_7))
set_option maxHeartbeats 4000000 in
set_option maxRecDepth 100000 in
theorem cX11_power_ct (z : Zx) (ad : Nat → Nat) (v0 : Int64) (v2 : Int32) (m : Mem) (r : Int64) (hf : fX11_power v0 v2 = some r) : CtL z wC yX11_power cX11_power 6 (some .long) (Rm 2) ad 91 [.long v0, .int v2] m m r := by
  refine ct_ofL mi_X11_power rfl (Nat.le_of_ble_eq_true rfl) (fun x X hret => ?_)
  refine g_lv [(0, .long v0), (2, .int v2)] [0, 1] rfl ?_
  have hL5 : ∀ (v0 : Int64) (v2 : Int32) (v3 : Int64) (v5 : Int32), fX11_power_5 v0 v2 v3 v5 = some r → G z wC x 6 0 0 ad 91 m 5 [(0, .long v0), (2, .int v2), (3, .long v3), (5, .int v5)] [] := by
    intro v0 v2 v3 v5 hf
    unfold fX11_power_5 at hf
    obtain ⟨e5, hit5, hrest5⟩ := bnd_some hf
    refine iter_ok (Hd := fun (s : (Int64 × Int32)) => G z wC x 6 0 0 ad 91 m 5 [(0, .long v0), (2, .int v2), (3, .long s.1), (5, .int s.2)] []) ?_ FU (v3, v5) hit5
    intro s ob5 hf hs5 he5
    obtain ⟨v3, v5⟩ := s
    have hf : fX11_power_5b v0 v2 v3 v5 = some ob5 := hf
    unfold fX11_power_5b at hf
    refine g_iload (pc := 5) X dX11_power_5 3 rfl ?_
    refine g_iload_n (pc := 7) X dX11_power_7 rfl 1 rfl ?_
    refine g_icmp_ge (pc := 8) (tgt := 21) X dX11_power_8 (by decide) (fun hc => ?_) (fun hc => ?_)
    · have hf := itp hc hf
      have he5 := he5 _ (Option.some.inj hf).symm
      subst he5
      have hf : some v3 = some r := hrest5
      refine g_lload_n (pc := 21) X dX11_power_21 rfl 2 rfl ?_
      obtain rfl := Option.some.inj hf
      exact hret _ _ dX11_power_22
    · have hf := itn hc hf
      refine g_lload_n (pc := 11) X dX11_power_11 rfl 2 rfl ?_
      refine g_lload_n (pc := 12) X dX11_power_12 rfl 0 rfl ?_
      refine g_lmul (pc := 13) X dX11_power_13 ?_
      obtain ⟨v3_1, e2, hf⟩ := lt1_some hf
      refine g_topl e2 ?_
      refine g_lstore_n (lv2 := [(0, .long v0), (2, .int v2), (3, .long v3_1), (5, .int v5)]) (pc := 14) X dX11_power_14 rfl (by decide) [1, 2, 0, 3] rfl ?_
      obtain ⟨v5_3, e4, hf⟩ := lt1_some hf
      refine g_iinc (v2 := v5_3) (lv2 := [(0, .long v0), (2, .int v2), (3, .long v3_1), (5, .int v5_3)]) (pc := 15) X dX11_power_15 3 rfl (by rw [e4]; rfl) (by decide) [1, 2, 3, 0] rfl ?_
      refine g_goto (pc := 18) (tgt := 5) X dX11_power_18 (by decide) ?_
      exact hs5 (v3_1, v5_3) (Option.some.inj hf).symm
  unfold fX11_power at hf
  refine g_lconst (v := (1 : Int64)) (pc := 0) X dX11_power_0 (by decide) ?_
  obtain ⟨v3_5, e6, hf⟩ := lt1_some hf
  refine g_topl e6 ?_
  refine g_lstore_n (lv2 := [(0, .long v0), (2, .int v2), (3, .long v3_5)]) (pc := 1) X dX11_power_1 rfl (by decide) [1, 2, 0] rfl ?_
  refine g_iconst (v := (0 : Int32)) (pc := 2) X dX11_power_2 (by decide) ?_
  obtain ⟨v5_7, e8, hf⟩ := lt1_some hf
  refine g_topi e8 ?_
  refine g_istore (lv2 := [(0, .long v0), (2, .int v2), (3, .long v3_5), (5, .int v5_7)]) (pc := 3) X dX11_power_3 (by decide) [1, 2, 3, 0] rfl ?_
  exact hL5 _ _ _ _ hf

noncomputable def fX11_partOfFraction_67 (v0 : Int64) (v2 : Int64) (v4 : Int32) (v5 : Int64) : Option Int64 := if (0 : Int64) < v5 then (if v4 = 0 then (gp (¬ v5 = 0) (some (v0 / v5))) else (gp (¬ v5 = 0) (some (v2 / v5)))) else (if v4 = 0 then (some v0) else (some v2))
noncomputable def fX11_partOfFraction_32b (v0 : Int64) (v2 : Int64) (v4 : Int32) (v5 : Int64) (v7 : Int64) (v9 : Int32) : Option ((Int64 × Int64 × Int32) ⊕ (Int64)) := if (100 : Int32) ≤ v9 then (some (.inr (v5))) else (if v7 = (0 : Int64) then (some (.inr (v5))) else (gp (¬ v7 = 0) (lt1 (v5 - v5 / v7 * v7) (fun v10_4 => lt1 (v9 + 1) (fun v9_6 => some (.inl (v7, v10_4, v9_6)))))))
noncomputable def fX11_partOfFraction_32 (v0 : Int64) (v2 : Int64) (v4 : Int32) (v5 : Int64) (v7 : Int64) (v9 : Int32) : Option Int64 := bnd (iter (fun s => fX11_partOfFraction_32b v0 v2 v4 s.1 s.2.1 s.2.2) FU (v5, v7, v9)) (fun e => fX11_partOfFraction_67 v0 v2 v4 e)
noncomputable def fX11_partOfFraction_12 (v4 : Int32) : Option Int64 := if v4 = 0 then (some (0 : Int64)) else (some (1 : Int64))
noncomputable def fX11_partOfFraction (v0 : Int64) (v2 : Int64) (v4 : Int32) : Option Int64 := if v0 ≤ (0 : Int64) then (fX11_partOfFraction_12 v4) else (if (0 : Int64) < v2 then (lt1 ((0 : Int32)) (fun v9_8 => fX11_partOfFraction_32 v0 v2 v4 v0 v2 v9_8)) else (fX11_partOfFraction_12 v4))
set_option maxHeartbeats 4000000 in
set_option maxRecDepth 100000 in
theorem cX11_partOfFraction_ct (z : Zx) (ad : Nat → Nat) (v0 : Int64) (v2 : Int64) (v4 : Int32) (m : Mem) (r : Int64) (hf : fX11_partOfFraction v0 v2 v4 = some r) : CtL z wC yX11_partOfFraction cX11_partOfFraction 12 (some .long) (Rm 2) ad 91 [.long v0, .long v2, .int v4] m m r := by
  refine ct_ofL mi_X11_partOfFraction rfl (Nat.le_of_ble_eq_true rfl) (fun x X hret => ?_)
  refine g_lv [(0, .long v0), (2, .long v2), (4, .int v4)] [0, 1, 2] rfl ?_
  have hL67 : ∀ (v0 : Int64) (v2 : Int64) (v4 : Int32) (v5 : Int64), fX11_partOfFraction_67 v0 v2 v4 v5 = some r → G z wC x 12 0 0 ad 91 m 67 [(0, .long v0), (2, .long v2), (4, .int v4), (5, .long v5)] [] := by
    intro v0 v2 v4 v5 hf
    unfold fX11_partOfFraction_67 at hf
    refine g_lload (pc := 67) X dX11_partOfFraction_67 3 rfl ?_
    refine g_lconst (v := (0 : Int64)) (pc := 69) X dX11_partOfFraction_69 (by decide) ?_
    refine g_lcmp_gt (pc := 70) (tgt := 85) X dX11_partOfFraction_70 dX11_partOfFraction_71 (by decide) (fun hc => ?_) (fun hc => ?_)
    · have hf := itp hc hf
      refine g_iload (pc := 85) X dX11_partOfFraction_85 2 rfl ?_
      refine g_if_ne (pc := 87) (tgt := 97) X dX11_partOfFraction_87 (by decide) (fun hc => ?_) (fun hc => ?_)
      · have hf := itn hc hf
        refine g_lload_n (pc := 97) X dX11_partOfFraction_97 rfl 1 rfl ?_
        refine g_lload (pc := 98) X dX11_partOfFraction_98 3 rfl ?_
        obtain ⟨hz1, hf⟩ := gp_some hf
        refine g_ldiv (pc := 100) X dX11_partOfFraction_100 hz1 ?_
        obtain rfl := Option.some.inj hf
        exact hret _ _ dX11_partOfFraction_101
      · have hf := itp hc hf
        refine g_lload_n (pc := 90) X dX11_partOfFraction_90 rfl 0 rfl ?_
        refine g_lload (pc := 91) X dX11_partOfFraction_91 3 rfl ?_
        obtain ⟨hz2, hf⟩ := gp_some hf
        refine g_ldiv (pc := 93) X dX11_partOfFraction_93 hz2 ?_
        refine g_goto (pc := 94) (tgt := 101) X dX11_partOfFraction_94 (by decide) ?_
        obtain rfl := Option.some.inj hf
        exact hret _ _ dX11_partOfFraction_101
    · have hf := itn hc hf
      refine g_iload (pc := 74) X dX11_partOfFraction_74 2 rfl ?_
      refine g_if_ne (pc := 76) (tgt := 83) X dX11_partOfFraction_76 (by decide) (fun hc => ?_) (fun hc => ?_)
      · have hf := itn hc hf
        refine g_lload_n (pc := 83) X dX11_partOfFraction_83 rfl 1 rfl ?_
        obtain rfl := Option.some.inj hf
        exact hret _ _ dX11_partOfFraction_84
      · have hf := itp hc hf
        refine g_lload_n (pc := 79) X dX11_partOfFraction_79 rfl 0 rfl ?_
        refine g_goto (pc := 80) (tgt := 84) X dX11_partOfFraction_80 (by decide) ?_
        obtain rfl := Option.some.inj hf
        exact hret _ _ dX11_partOfFraction_84
  have hL32 : ∀ (v0 : Int64) (v2 : Int64) (v4 : Int32) (v5 : Int64) (v7 : Int64) (v9 : Int32), fX11_partOfFraction_32 v0 v2 v4 v5 v7 v9 = some r → G z wC x 12 0 0 ad 91 m 32 [(0, .long v0), (2, .long v2), (4, .int v4), (5, .long v5), (7, .long v7), (9, .int v9)] [] := by
    intro v0 v2 v4 v5 v7 v9 hf
    unfold fX11_partOfFraction_32 at hf
    obtain ⟨e32, hit32, hrest32⟩ := bnd_some hf
    refine iter_ok (Hd := fun (s : (Int64 × Int64 × Int32)) => G z wC x 12 0 0 ad 91 m 32 [(0, .long v0), (2, .long v2), (4, .int v4), (5, .long s.1), (7, .long s.2.1), (9, .int s.2.2)] []) ?_ FU (v5, v7, v9) hit32
    intro s ob32 hf hs32 he32
    obtain ⟨v5, v7, v9⟩ := s
    have hf : fX11_partOfFraction_32b v0 v2 v4 v5 v7 v9 = some ob32 := hf
    unfold fX11_partOfFraction_32b at hf
    refine g_iload (pc := 32) X dX11_partOfFraction_32 5 rfl ?_
    refine g_bipush (v := (100 : Int32)) (pc := 34) X dX11_partOfFraction_34 (by decide) ?_
    refine g_icmp_ge (pc := 36) (tgt := 67) X dX11_partOfFraction_36 (by decide) (fun hc => ?_) (fun hc => ?_)
    · have hf := itp hc hf
      have he32 := he32 _ (Option.some.inj hf).symm
      subst he32
      have hf : fX11_partOfFraction_67 v0 v2 v4 v5 = some r := hrest32
      refine g_lv [(0, .long v0), (2, .long v2), (4, .int v4), (5, .long v5)] [0, 1, 2, 3] rfl ?_
      exact hL67 _ _ _ _ hf
    · have hf := itn hc hf
      refine g_lload (pc := 39) X dX11_partOfFraction_39 4 rfl ?_
      refine g_lconst (v := (0 : Int64)) (pc := 41) X dX11_partOfFraction_41 (by decide) ?_
      refine g_lcmp_eq (pc := 42) (tgt := 67) X dX11_partOfFraction_42 dX11_partOfFraction_43 (by decide) (fun hc => ?_) (fun hc => ?_)
      · have hf := itp hc hf
        have he32 := he32 _ (Option.some.inj hf).symm
        subst he32
        have hf : fX11_partOfFraction_67 v0 v2 v4 v5 = some r := hrest32
        refine g_lv [(0, .long v0), (2, .long v2), (4, .int v4), (5, .long v5)] [0, 1, 2, 3] rfl ?_
        exact hL67 _ _ _ _ hf
      · have hf := itn hc hf
        refine g_lload (pc := 46) X dX11_partOfFraction_46 3 rfl ?_
        refine g_lload (pc := 48) X dX11_partOfFraction_48 4 rfl ?_
        obtain ⟨hz3, hf⟩ := gp_some hf
        refine g_lrem (pc := 50) X dX11_partOfFraction_50 hz3 ?_
        obtain ⟨v10_4, e5, hf⟩ := lt1_some hf
        refine g_topl e5 ?_
        refine g_lstore (lv2 := [(0, .long v0), (2, .long v2), (4, .int v4), (5, .long v5), (7, .long v7), (9, .int v9), (10, .long v10_4)]) (pc := 51) X dX11_partOfFraction_51 (by decide) [1, 2, 3, 4, 5, 6, 0] rfl ?_
        refine g_lload (pc := 53) X dX11_partOfFraction_53 4 rfl ?_
        refine g_lstore (lv2 := [(0, .long v0), (2, .long v2), (4, .int v4), (5, .long v7), (7, .long v7), (9, .int v9), (10, .long v10_4)]) (pc := 55) X dX11_partOfFraction_55 (by decide) [1, 2, 3, 0, 4, 5, 6] rfl ?_
        refine g_lload (pc := 57) X dX11_partOfFraction_57 6 rfl ?_
        refine g_lstore (lv2 := [(0, .long v0), (2, .long v2), (4, .int v4), (5, .long v7), (7, .long v10_4), (9, .int v9), (10, .long v10_4)]) (pc := 59) X dX11_partOfFraction_59 (by decide) [1, 2, 3, 4, 0, 5, 6] rfl ?_
        obtain ⟨v9_6, e7, hf⟩ := lt1_some hf
        refine g_iinc (v2 := v9_6) (lv2 := [(0, .long v0), (2, .long v2), (4, .int v4), (5, .long v7), (7, .long v10_4), (9, .int v9_6), (10, .long v10_4)]) (pc := 61) X dX11_partOfFraction_61 5 rfl (by rw [e7]; rfl) (by decide) [1, 2, 3, 4, 5, 0, 6] rfl ?_
        refine g_goto (pc := 64) (tgt := 32) X dX11_partOfFraction_64 (by decide) ?_
        refine g_lv [(0, .long v0), (2, .long v2), (4, .int v4), (5, .long v7), (7, .long v10_4), (9, .int v9_6)] [0, 1, 2, 3, 4, 5] rfl ?_
        exact hs32 (v7, v10_4, v9_6) (Option.some.inj hf).symm
  have hL12 : ∀ (v4 : Int32), fX11_partOfFraction_12 v4 = some r → G z wC x 12 0 0 ad 91 m 12 [(4, .int v4)] [] := by
    intro v4 hf
    unfold fX11_partOfFraction_12 at hf
    refine g_iload (pc := 12) X dX11_partOfFraction_12 0 rfl ?_
    refine g_if_ne (pc := 14) (tgt := 21) X dX11_partOfFraction_14 (by decide) (fun hc => ?_) (fun hc => ?_)
    · have hf := itn hc hf
      refine g_lconst (v := (1 : Int64)) (pc := 21) X dX11_partOfFraction_21 (by decide) ?_
      obtain rfl := Option.some.inj hf
      exact hret _ _ dX11_partOfFraction_22
    · have hf := itp hc hf
      refine g_lconst (v := (0 : Int64)) (pc := 17) X dX11_partOfFraction_17 (by decide) ?_
      refine g_goto (pc := 18) (tgt := 22) X dX11_partOfFraction_18 (by decide) ?_
      obtain rfl := Option.some.inj hf
      exact hret _ _ dX11_partOfFraction_22
  unfold fX11_partOfFraction at hf
  refine g_lload_n (pc := 0) X dX11_partOfFraction_0 rfl 0 rfl ?_
  refine g_lconst (v := (0 : Int64)) (pc := 1) X dX11_partOfFraction_1 (by decide) ?_
  refine g_lcmp_le (pc := 2) (tgt := 12) X dX11_partOfFraction_2 dX11_partOfFraction_3 (by decide) (fun hc => ?_) (fun hc => ?_)
  · have hf := itp hc hf
    refine g_lv [(4, .int v4)] [2] rfl ?_
    exact hL12 _ hf
  · have hf := itn hc hf
    refine g_lload_n (pc := 6) X dX11_partOfFraction_6 rfl 1 rfl ?_
    refine g_lconst (v := (0 : Int64)) (pc := 7) X dX11_partOfFraction_7 (by decide) ?_
    refine g_lcmp_gt (pc := 8) (tgt := 23) X dX11_partOfFraction_8 dX11_partOfFraction_9 (by decide) (fun hc => ?_) (fun hc => ?_)
    · have hf := itp hc hf
      refine g_lload_n (pc := 23) X dX11_partOfFraction_23 rfl 0 rfl ?_
      refine g_lstore (lv2 := [(0, .long v0), (2, .long v2), (4, .int v4), (5, .long v0)]) (pc := 24) X dX11_partOfFraction_24 (by decide) [1, 2, 3, 0] rfl ?_
      refine g_lload_n (pc := 26) X dX11_partOfFraction_26 rfl 1 rfl ?_
      refine g_lstore (lv2 := [(0, .long v0), (2, .long v2), (4, .int v4), (5, .long v0), (7, .long v2)]) (pc := 27) X dX11_partOfFraction_27 (by decide) [1, 2, 3, 4, 0] rfl ?_
      refine g_iconst (v := (0 : Int32)) (pc := 29) X dX11_partOfFraction_29 (by decide) ?_
      obtain ⟨v9_8, e9, hf⟩ := lt1_some hf
      refine g_topi e9 ?_
      refine g_istore (lv2 := [(0, .long v0), (2, .long v2), (4, .int v4), (5, .long v0), (7, .long v2), (9, .int v9_8)]) (pc := 30) X dX11_partOfFraction_30 (by decide) [1, 2, 3, 4, 5, 0] rfl ?_
      exact hL32 _ _ _ _ _ _ hf
    · have hf := itn hc hf
      refine g_lv [(4, .int v4)] [2] rfl ?_
      exact hL12 _ hf

noncomputable def fX11_herself (v0 : Nat) (v1 : Int32) (v2 : Int32) (v3 : Int32) (v4 : Int32) (v5 : Int32) (m : Mem) : Option (Int64 × Mem) := gp (KC v0 = 11) (bnd (m.2.2 v0 6) (fun q2 => gp (KC q2 = 10) (bnd (m.2.2 q2 0) (fun q5 => gp (KC q5 = 9) (bnd (fX9_isOpen q5 v1 m) (fun r8 => if r8 = 0 then (some ((-9000000000000000001 : Int64), m)) else (bnd (fX9_isCell q5 v2 m) (fun r11 => if r11 = 0 then (some ((-9000000000000000001 : Int64), m)) else (bnd (fX11_isWithin v3 (0 : Int32) (7 : Int32)) (fun r13 => if r13 = 0 then (some ((-9000000000000000001 : Int64), m)) else (bnd (fX11_isWithin v4 (0 : Int32) (8 : Int32)) (fun r15 => if r15 = 0 then (some ((-9000000000000000001 : Int64), m)) else (bnd (fX11_isWithin v5 (0 : Int32) (2 : Int32)) (fun r17 => if r17 = 0 then (some ((-9000000000000000001 : Int64), m)) else (bnd (m.2.2 v0 4) (fun q18 => gp (KC q18 = 3) (bnd (fX3_go q18 q5 v1 v3 v4 m) (fun m21 => if v5 = (2 : Int32) then (bnd (m21.2.2 v0 4) (fun q40 => gp (KC q40 = 3) (bnd (m21.2.2 q40 1) (fun q43 => gp (KC q43 = 14) (gp (inb v2 (NC q43) = true) (some ((m21.1 q43 v2.toNatClampNeg).toInt64, m21))))))) else (bnd (m21.2.2 v0 4) (fun q23 => gp (KC q23 = 3) (bnd (m21.2.2 q23 0) (fun q26 => gp (KC q26 = 15) (gp (inb v2 (NC q26) = true) (bnd (m21.2.2 v0 6) (fun q30 => gp (KC q30 = 10) (bnd (m21.2.2 q30 0) (fun q33 => gp (KC q33 = 9) (bnd (fX11_power ((m21.1 q33 6).toInt64) v4) (fun r37 => bnd (fX11_partOfFraction (m21.2.1 q26 v2.toNatClampNeg) r37 v5) (fun r39 => some (r39, m21)))))))))))))))))))))))))))))))
set_option maxHeartbeats 4000000 in
set_option maxRecDepth 100000 in
theorem cX11_herself_ct (z : Zx) (ad : Nat → Nat) (v0 : Nat) (v1 : Int32) (v2 : Int32) (v3 : Int32) (v4 : Int32) (v5 : Int32) (m m2 : Mem) (r : Int64) (hf : fX11_herself v0 v1 v2 v3 v4 v5 m = some (r, m2)) : CtL z wC yX11_herself cX11_herself 6 (some .long) (Rm 9) ad 91 [.ref (ad v0), .int v1, .int v2, .int v3, .int v4, .int v5] m m2 r := by
  refine ct_ofL mi_X11_herself rfl (Nat.le_of_ble_eq_true rfl) (fun x X hret => ?_)
  refine g_lv [(0, .ref (ad v0)), (1, .int v1), (2, .int v2), (3, .int v3), (4, .int v4), (5, .int v5)] [0, 1, 2, 3, 4, 5] rfl ?_
  unfold fX11_herself at hf
  refine g_aload_n (pc := 0) X dX11_herself_0 rfl 0 rfl ?_
  obtain ⟨hk1, hf⟩ := gp_some hf
  obtain ⟨q2, hr3, hf⟩ := bnd_some hf
  refine g_getR (pc := 1) X fl_X11_52 (KClt hk1 (by decide)) hk1 hr3 dX11_herself_1 ?_
  obtain ⟨hk4, hf⟩ := gp_some hf
  obtain ⟨q5, hr6, hf⟩ := bnd_some hf
  refine g_getR (pc := 4) X fl_X11_150 (KClt hk4 (by decide)) hk4 hr6 dX11_herself_4 ?_
  refine g_iload_n (pc := 7) X dX11_herself_7 rfl 1 rfl ?_
  obtain ⟨hk9, hf⟩ := gp_some hf
  obtain ⟨r8, hq7, hf⟩ := bnd_some hf
  refine g_callVI (pc := 8) (As := [.int v1]) (rest := []) X mi_X9_isOpen im_X9_isOpen se_X9_isOpen (KClt hk9 (by decide)) hk9 clX9 ml_X11_215 (cX9_isOpen_ct z ad q5 v1 m r8 hq7) rfl rfl (Nat.le_of_ble_eq_true rfl) ⟨rfl, rfl, by decide, by decide, Nat.le_refl _, Nat.le_refl _⟩ dX11_herself_8 ?_
  refine g_if_eq (pc := 11) (tgt := 38) X dX11_herself_11 (by decide) (fun hc => ?_) (fun hc => ?_)
  · have hf := itp hc hf
    refine g_ldc2 (pc := 38) X dX11_herself_38 kl_X11_64 ?_
    obtain ⟨rfl, rfl⟩ := som2 hf
    exact hret _ _ dX11_herself_41
  · have hf := itn hc hf
    refine g_aload_n (pc := 14) X dX11_herself_14 rfl 0 rfl ?_
    refine g_getR (pc := 15) X fl_X11_52 (KClt hk1 (by decide)) hk1 hr3 dX11_herself_15 ?_
    refine g_getR (pc := 18) X fl_X11_150 (KClt hk4 (by decide)) hk4 hr6 dX11_herself_18 ?_
    refine g_iload_n (pc := 21) X dX11_herself_21 rfl 2 rfl ?_
    obtain ⟨r11, hq10, hf⟩ := bnd_some hf
    refine g_callVI (pc := 22) (As := [.int v2]) (rest := []) X mi_X9_isCell im_X9_isCell se_X9_isCell (KClt hk9 (by decide)) hk9 clX9 ml_X11_218 (cX9_isCell_ct z ad q5 v2 m r11 hq10) rfl rfl (Nat.le_of_ble_eq_true rfl) ⟨rfl, rfl, by decide, by decide, Nat.le_refl _, Nat.le_refl _⟩ dX11_herself_22 ?_
    refine g_if_eq (pc := 25) (tgt := 38) X dX11_herself_25 (by decide) (fun hc => ?_) (fun hc => ?_)
    · have hf := itp hc hf
      refine g_ldc2 (pc := 38) X dX11_herself_38 kl_X11_64 ?_
      obtain ⟨rfl, rfl⟩ := som2 hf
      exact hret _ _ dX11_herself_41
    · have hf := itn hc hf
      refine g_iload_n (pc := 28) X dX11_herself_28 rfl 3 rfl ?_
      refine g_iconst (v := (0 : Int32)) (pc := 29) X dX11_herself_29 (by decide) ?_
      refine g_bipush (v := (7 : Int32)) (pc := 30) X dX11_herself_30 (by decide) ?_
      obtain ⟨r13, hq12, hf⟩ := bnd_some hf
      refine g_callSI (pc := 32) (As := [.int v3, .int (0 : Int32), .int (7 : Int32)]) (rest := []) X mi_X11_isWithin sm_X11_isWithin ml_X11_60 (cX11_isWithin_ct z ad v3 (0 : Int32) (7 : Int32) m r13 hq12) rfl rfl (Nat.le_of_ble_eq_true rfl) ⟨rfl, rfl, by decide, by decide, Nat.le_refl _, Nat.le_refl _⟩ dX11_herself_32 ?_
      refine g_if_ne (pc := 35) (tgt := 42) X dX11_herself_35 (by decide) (fun hc => ?_) (fun hc => ?_)
      · have hf := itn hc hf
        refine g_iload (pc := 42) X dX11_herself_42 4 rfl ?_
        refine g_iconst (v := (0 : Int32)) (pc := 44) X dX11_herself_44 (by decide) ?_
        refine g_bipush (v := (8 : Int32)) (pc := 45) X dX11_herself_45 (by decide) ?_
        obtain ⟨r15, hq14, hf⟩ := bnd_some hf
        refine g_callSI (pc := 47) (As := [.int v4, .int (0 : Int32), .int (8 : Int32)]) (rest := []) X mi_X11_isWithin sm_X11_isWithin ml_X11_60 (cX11_isWithin_ct z ad v4 (0 : Int32) (8 : Int32) m r15 hq14) rfl rfl (Nat.le_of_ble_eq_true rfl) ⟨rfl, rfl, by decide, by decide, Nat.le_refl _, Nat.le_refl _⟩ dX11_herself_47 ?_
        refine g_if_eq (pc := 50) (tgt := 63) X dX11_herself_50 (by decide) (fun hc => ?_) (fun hc => ?_)
        · have hf := itp hc hf
          refine g_ldc2 (pc := 63) X dX11_herself_63 kl_X11_64 ?_
          obtain ⟨rfl, rfl⟩ := som2 hf
          exact hret _ _ dX11_herself_66
        · have hf := itn hc hf
          refine g_iload (pc := 53) X dX11_herself_53 5 rfl ?_
          refine g_iconst (v := (0 : Int32)) (pc := 55) X dX11_herself_55 (by decide) ?_
          refine g_iconst (v := (2 : Int32)) (pc := 56) X dX11_herself_56 (by decide) ?_
          obtain ⟨r17, hq16, hf⟩ := bnd_some hf
          refine g_callSI (pc := 57) (As := [.int v5, .int (0 : Int32), .int (2 : Int32)]) (rest := []) X mi_X11_isWithin sm_X11_isWithin ml_X11_60 (cX11_isWithin_ct z ad v5 (0 : Int32) (2 : Int32) m r17 hq16) rfl rfl (Nat.le_of_ble_eq_true rfl) ⟨rfl, rfl, by decide, by decide, Nat.le_refl _, Nat.le_refl _⟩ dX11_herself_57 ?_
          refine g_if_ne (pc := 60) (tgt := 67) X dX11_herself_60 (by decide) (fun hc => ?_) (fun hc => ?_)
          · have hf := itn hc hf
            refine g_aload_n (pc := 67) X dX11_herself_67 rfl 0 rfl ?_
            obtain ⟨q18, hr19, hf⟩ := bnd_some hf
            refine g_getR (pc := 68) X fl_X11_40 (KClt hk1 (by decide)) hk1 hr19 dX11_herself_68 ?_
            refine g_aload_n (pc := 71) X dX11_herself_71 rfl 0 rfl ?_
            refine g_getR (pc := 72) X fl_X11_52 (KClt hk1 (by decide)) hk1 hr3 dX11_herself_72 ?_
            refine g_getR (pc := 75) X fl_X11_150 (KClt hk4 (by decide)) hk4 hr6 dX11_herself_75 ?_
            refine g_iload_n (pc := 78) X dX11_herself_78 rfl 1 rfl ?_
            refine g_iload_n (pc := 79) X dX11_herself_79 rfl 3 rfl ?_
            refine g_iload (pc := 80) X dX11_herself_80 4 rfl ?_
            obtain ⟨hk22, hf⟩ := gp_some hf
            obtain ⟨m21, hq20, hf⟩ := bnd_some hf
            refine g_callVV (pc := 82) (As := [.ref (ad q5), .int v1, .int v3, .int v4]) (rest := []) X mi_X3_go im_X3_go se_X3_go (KClt hk22 (by decide)) hk22 clX3 ml_X11_221 (cX3_go_ct z ad q18 q5 v1 v3 v4 m m21 hq20) rfl rfl (Nat.le_of_ble_eq_true rfl) ⟨rfl, rfl, by decide, by decide, Nat.le_refl _, Nat.le_refl _⟩ dX11_herself_82 ?_
            refine g_iload (pc := 85) X dX11_herself_85 5 rfl ?_
            refine g_iconst (v := (2 : Int32)) (pc := 87) X dX11_herself_87 (by decide) ?_
            refine g_icmp_ne (pc := 88) (tgt := 102) X dX11_herself_88 (by decide) (fun hc => ?_) (fun hc => ?_)
            · have hf := itn hc hf
              refine g_aload_n (pc := 102) X dX11_herself_102 rfl 0 rfl ?_
              obtain ⟨q23, hr24, hf⟩ := bnd_some hf
              refine g_getR (pc := 103) X fl_X11_40 (KClt hk1 (by decide)) hk1 hr24 dX11_herself_103 ?_
              obtain ⟨hk25, hf⟩ := gp_some hf
              obtain ⟨q26, hr27, hf⟩ := bnd_some hf
              refine g_getR (pc := 106) X fl_X11_228 (KClt hk25 (by decide)) hk25 hr27 dX11_herself_106 ?_
              refine g_iload_n (pc := 109) X dX11_herself_109 rfl 2 rfl ?_
              obtain ⟨hk28, hf⟩ := gp_some hf
              obtain ⟨hi29, hf⟩ := gp_some hf
              refine g_lald (pc := 110) X (KClt hk28 (by decide)) hk28 hi29 dX11_herself_110 ?_
              refine g_aload_n (pc := 111) X dX11_herself_111 rfl 0 rfl ?_
              obtain ⟨q30, hr31, hf⟩ := bnd_some hf
              refine g_getR (pc := 112) X fl_X11_52 (KClt hk1 (by decide)) hk1 hr31 dX11_herself_112 ?_
              obtain ⟨hk32, hf⟩ := gp_some hf
              obtain ⟨q33, hr34, hf⟩ := bnd_some hf
              refine g_getR (pc := 115) X fl_X11_150 (KClt hk32 (by decide)) hk32 hr34 dX11_herself_115 ?_
              obtain ⟨hk35, hf⟩ := gp_some hf
              refine g_getI (pc := 118) X fl_X11_232 (KClt hk35 (by decide)) hk35 dX11_herself_118 ?_
              refine g_i2l (pc := 121) X dX11_herself_121 ?_
              refine g_iload (pc := 122) X dX11_herself_122 4 rfl ?_
              obtain ⟨r37, hq36, hf⟩ := bnd_some hf
              refine g_callSL (pc := 124) (As := [.long ((m21.1 q33 6).toInt64), .int v4]) (rest := [.long (m21.2.1 q26 v2.toNatClampNeg)]) X mi_X11_power sm_X11_power ml_X11_235 (cX11_power_ct z ad ((m21.1 q33 6).toInt64) v4 m21 r37 hq36) rfl rfl (Nat.le_of_ble_eq_true rfl) ⟨rfl, rfl, by decide, by decide, Nat.le_refl _, Nat.le_refl _⟩ dX11_herself_124 ?_
              refine g_iload (pc := 127) X dX11_herself_127 5 rfl ?_
              obtain ⟨r39, hq38, hf⟩ := bnd_some hf
              refine g_callSL (pc := 129) (As := [.long (m21.2.1 q26 v2.toNatClampNeg), .long r37, .int v5]) (rest := []) X mi_X11_partOfFraction sm_X11_partOfFraction ml_X11_239 (cX11_partOfFraction_ct z ad (m21.2.1 q26 v2.toNatClampNeg) r37 v5 m21 r39 hq38) rfl rfl (Nat.le_of_ble_eq_true rfl) ⟨rfl, rfl, by decide, by decide, Nat.le_refl _, Nat.le_refl _⟩ dX11_herself_129 ?_
              obtain ⟨rfl, rfl⟩ := som2 hf
              exact hret _ _ dX11_herself_132
            · have hf := itp hc hf
              refine g_aload_n (pc := 91) X dX11_herself_91 rfl 0 rfl ?_
              obtain ⟨q40, hr41, hf⟩ := bnd_some hf
              refine g_getR (pc := 92) X fl_X11_40 (KClt hk1 (by decide)) hk1 hr41 dX11_herself_92 ?_
              obtain ⟨hk42, hf⟩ := gp_some hf
              obtain ⟨q43, hr44, hf⟩ := bnd_some hf
              refine g_getR (pc := 95) X fl_X11_225 (KClt hk42 (by decide)) hk42 hr44 dX11_herself_95 ?_
              refine g_iload_n (pc := 98) X dX11_herself_98 rfl 2 rfl ?_
              obtain ⟨hk45, hf⟩ := gp_some hf
              obtain ⟨hi46, hf⟩ := gp_some hf
              refine g_iald (pc := 99) X (KClt hk45 (by decide)) hk45 hi46 dX11_herself_99 ?_
              refine g_i2l (pc := 100) X dX11_herself_100 ?_
              obtain ⟨rfl, rfl⟩ := som2 hf
              exact hret _ _ dX11_herself_101
          · have hf := itp hc hf
            refine g_ldc2 (pc := 63) X dX11_herself_63 kl_X11_64 ?_
            obtain ⟨rfl, rfl⟩ := som2 hf
            exact hret _ _ dX11_herself_66
      · have hf := itp hc hf
        refine g_ldc2 (pc := 38) X dX11_herself_38 kl_X11_64 ?_
        obtain ⟨rfl, rfl⟩ := som2 hf
        exact hret _ _ dX11_herself_41

noncomputable def fX3_timeArrivals_27 (v0 : Nat) (v1 : Nat) (v3 : Int32) (v4 : Int32) (v5 : Int32) (m : Mem) : Option ((Int32 × Mem) ⊕ (Mem)) := gp (KC v0 = 3) (bnd (m.2.2 v0 4) (fun q2 => bnd (m.2.2 v0 0) (fun q4 => gp (KC q4 = 15) (gp (inb v3 (NC q4) = true) (gp (KC v1 = 9) (bnd (fX11_power ((m.1 v1 6).toInt64) ((8 : Int32) - v5)) (fun r10 => gp (KC q2 = 15) (gp (inb v5 (NC q2) = true) (lt1 (uJ m q2 v5.toNatClampNeg ((m.2.1 q4 v3.toNatClampNeg) * r10)) (fun m13 => lt1 (v5 + 1) (fun v5_15 => some (.inl (v5_15, m13)))))))))))))
noncomputable def fX3_timeArrivals_8b (v0 : Nat) (v1 : Nat) (v3 : Int32) (v4 : Int32) (v5 : Int32) (m : Mem) : Option ((Int32 × Mem) ⊕ (Mem)) := if (8 : Int32) < v5 then (some (.inr (m))) else (if v5 ≤ 0 then (fX3_timeArrivals_27 v0 v1 v3 v4 v5 m) else (gp (KC v0 = 3) (bnd (fX3_passHour v0 v1 v4 m) (fun m18 => fX3_timeArrivals_27 v0 v1 v3 v4 v5 m18))))
noncomputable def fX3_timeArrivals_8 (v0 : Nat) (v1 : Nat) (v3 : Int32) (v4 : Int32) (v5 : Int32) (m : Mem) : Option Mem := bnd (iter (fun s => fX3_timeArrivals_8b v0 v1 v3 v4 s.1 s.2) FU (v5, m)) (fun e => some e)
noncomputable def fX3_timeArrivals (v0 : Nat) (v1 : Nat) (v2 : Int32) (v3 : Int32) (v4 : Int32) (m : Mem) : Option Mem := gp (KC v0 = 3) (bnd (fX3_begin v0 v2 m) (fun m21 => lt1 ((0 : Int32)) (fun v5_23 => fX3_timeArrivals_8 v0 v1 v3 v4 v5_23 m21)))
set_option maxHeartbeats 4000000 in
set_option maxRecDepth 100000 in
theorem cX3_timeArrivals_ct (z : Zx) (ad : Nat → Nat) (v0 : Nat) (v1 : Nat) (v2 : Int32) (v3 : Int32) (v4 : Int32) (m m2 : Mem) (hf : fX3_timeArrivals v0 v1 v2 v3 v4 m = some m2) : CtV z wC yX3_timeArrivals cX3_timeArrivals 6 none (Rm 8) ad 91 [.ref (ad v0), .ref (ad v1), .int v2, .int v3, .int v4] m m2 := by
  refine ct_ofV mi_X3_timeArrivals rfl (Nat.le_of_ble_eq_true rfl) (fun x X hret => ?_)
  refine g_lv [(0, .ref (ad v0)), (1, .ref (ad v1)), (2, .int v2), (3, .int v3), (4, .int v4)] [0, 1, 2, 3, 4] rfl ?_
  have hL8 : ∀ (v0 : Nat) (v1 : Nat) (v3 : Int32) (v4 : Int32) (v5 : Int32) (m : Mem), fX3_timeArrivals_8 v0 v1 v3 v4 v5 m = some m2 → G z wC x 6 0 0 ad 91 m 8 [(0, .ref (ad v0)), (1, .ref (ad v1)), (3, .int v3), (4, .int v4), (5, .int v5)] [] := by
    intro v0 v1 v3 v4 v5 m hf
    unfold fX3_timeArrivals_8 at hf
    obtain ⟨e8, hit8, hrest8⟩ := bnd_some hf
    refine iter_ok (Hd := fun (s : (Int32 × Mem)) => G z wC x 6 0 0 ad 91 s.2 8 [(0, .ref (ad v0)), (1, .ref (ad v1)), (3, .int v3), (4, .int v4), (5, .int s.1)] []) ?_ FU (v5, m) hit8
    intro s ob8 hf hs8 he8
    obtain ⟨v5, m⟩ := s
    have hf : fX3_timeArrivals_8b v0 v1 v3 v4 v5 m = some ob8 := hf
    have hL27 : ∀ (v5 : Int32) (m : Mem), fX3_timeArrivals_27 v0 v1 v3 v4 v5 m = some ob8 → G z wC x 6 0 0 ad 91 m 27 [(0, .ref (ad v0)), (1, .ref (ad v1)), (3, .int v3), (4, .int v4), (5, .int v5)] [] := by
      intro v5 m hf
      unfold fX3_timeArrivals_27 at hf
      refine g_aload_n (pc := 27) X dX3_timeArrivals_27 rfl 0 rfl ?_
      obtain ⟨hk1, hf⟩ := gp_some hf
      obtain ⟨q2, hr3, hf⟩ := bnd_some hf
      refine g_getR (pc := 28) X fl_X3_25 (KClt hk1 (by decide)) hk1 hr3 dX3_timeArrivals_28 ?_
      refine g_iload (pc := 31) X dX3_timeArrivals_31 4 rfl ?_
      refine g_aload_n (pc := 33) X dX3_timeArrivals_33 rfl 0 rfl ?_
      obtain ⟨q4, hr5, hf⟩ := bnd_some hf
      refine g_getR (pc := 34) X fl_X3_9 (KClt hk1 (by decide)) hk1 hr5 dX3_timeArrivals_34 ?_
      refine g_iload_n (pc := 37) X dX3_timeArrivals_37 rfl 2 rfl ?_
      obtain ⟨hk6, hf⟩ := gp_some hf
      obtain ⟨hi7, hf⟩ := gp_some hf
      refine g_lald (pc := 38) X (KClt hk6 (by decide)) hk6 hi7 dX3_timeArrivals_38 ?_
      refine g_aload_n (pc := 39) X dX3_timeArrivals_39 rfl 1 rfl ?_
      obtain ⟨hk8, hf⟩ := gp_some hf
      refine g_getI (pc := 40) X fl_X3_36 (KClt hk8 (by decide)) hk8 dX3_timeArrivals_40 ?_
      refine g_i2l (pc := 43) X dX3_timeArrivals_43 ?_
      refine g_bipush (v := (8 : Int32)) (pc := 44) X dX3_timeArrivals_44 (by decide) ?_
      refine g_iload (pc := 46) X dX3_timeArrivals_46 4 rfl ?_
      refine g_isub (pc := 48) X dX3_timeArrivals_48 ?_
      obtain ⟨r10, hq9, hf⟩ := bnd_some hf
      refine g_callSNL (pc := 49) (As := [.long ((m.1 v1 6).toInt64), .int ((8 : Int32) - v5)]) (rest := [.long (m.2.1 q4 v3.toNatClampNeg), .int v5, .ref (ad q2)]) (q := 14) X mi_X11_power sm_X11_power rfl (cX11_power_ct z ad ((m.1 v1 6).toInt64) ((8 : Int32) - v5) m r10 hq9) rfl rfl (Nat.le_of_ble_eq_true rfl) ⟨rfl, rfl, by decide, by decide, Nat.le_refl _, Nat.le_refl _⟩ dX3_timeArrivals_49 ?_
      refine g_lmul (pc := 52) X dX3_timeArrivals_52 ?_
      obtain ⟨hk11, hf⟩ := gp_some hf
      obtain ⟨hi12, hf⟩ := gp_some hf
      refine g_last (pc := 53) X (KClt hk11 (by decide)) hk11 hi12 dX3_timeArrivals_53 ?_
      obtain ⟨m13, e14, hf⟩ := lt1_some hf
      refine g_mem e14 ?_
      obtain ⟨v5_15, e16, hf⟩ := lt1_some hf
      refine g_iinc (v2 := v5_15) (lv2 := [(0, .ref (ad v0)), (1, .ref (ad v1)), (3, .int v3), (4, .int v4), (5, .int v5_15)]) (pc := 54) X dX3_timeArrivals_54 4 rfl (by rw [e16]; rfl) (by decide) [1, 2, 3, 4, 0] rfl ?_
      refine g_goto (pc := 57) (tgt := 8) X dX3_timeArrivals_57 (by decide) ?_
      exact hs8 (v5_15, m13) (Option.some.inj hf).symm
    unfold fX3_timeArrivals_8b at hf
    refine g_iload (pc := 8) X dX3_timeArrivals_8 4 rfl ?_
    refine g_bipush (v := (8 : Int32)) (pc := 10) X dX3_timeArrivals_10 (by decide) ?_
    refine g_icmp_gt (pc := 12) (tgt := 60) X dX3_timeArrivals_12 (by decide) (fun hc => ?_) (fun hc => ?_)
    · have hf := itp hc hf
      have he8 := he8 _ (Option.some.inj hf).symm
      subst he8
      have hf : some m = some m2 := hrest8
      obtain rfl := Option.some.inj hf
      exact hret _ _ dX3_timeArrivals_60
    · have hf := itn hc hf
      refine g_iload (pc := 15) X dX3_timeArrivals_15 4 rfl ?_
      refine g_if_le (pc := 17) (tgt := 27) X dX3_timeArrivals_17 (by decide) (fun hc => ?_) (fun hc => ?_)
      · have hf := itp hc hf
        exact hL27 _ _ hf
      · have hf := itn hc hf
        refine g_aload_n (pc := 20) X dX3_timeArrivals_20 rfl 0 rfl ?_
        refine g_aload_n (pc := 21) X dX3_timeArrivals_21 rfl 1 rfl ?_
        refine g_iload (pc := 22) X dX3_timeArrivals_22 3 rfl ?_
        obtain ⟨hk19, hf⟩ := gp_some hf
        obtain ⟨m18, hq17, hf⟩ := bnd_some hf
        refine g_callVV (pc := 24) (As := [.ref (ad v1), .int v4]) (rest := []) X mi_X3_passHour im_X3_passHour se_X3_passHour (KClt hk19 (by decide)) hk19 clX3 ml_X3_32 (cX3_passHour_ct z ad v0 v1 v4 m m18 hq17) rfl rfl (Nat.le_of_ble_eq_true rfl) ⟨rfl, rfl, by decide, by decide, Nat.le_refl _, Nat.le_refl _⟩ dX3_timeArrivals_24 ?_
        exact hL27 _ _ hf
  unfold fX3_timeArrivals at hf
  refine g_aload_n (pc := 0) X dX3_timeArrivals_0 rfl 0 rfl ?_
  refine g_iload_n (pc := 1) X dX3_timeArrivals_1 rfl 2 rfl ?_
  obtain ⟨hk22, hf⟩ := gp_some hf
  obtain ⟨m21, hq20, hf⟩ := bnd_some hf
  refine g_callVV (pc := 2) (As := [.int v2]) (rest := []) X mi_X3_begin im_X3_begin se_X3_begin (KClt hk22 (by decide)) hk22 clX3 ml_X3_28 (cX3_begin_ct z ad v0 v2 m m21 hq20) rfl rfl (Nat.le_of_ble_eq_true rfl) ⟨rfl, rfl, by decide, by decide, Nat.le_refl _, Nat.le_refl _⟩ dX3_timeArrivals_2 ?_
  refine g_iconst (v := (0 : Int32)) (pc := 5) X dX3_timeArrivals_5 (by decide) ?_
  obtain ⟨v5_23, e24, hf⟩ := lt1_some hf
  refine g_topi e24 ?_
  refine g_istore (lv2 := [(0, .ref (ad v0)), (1, .ref (ad v1)), (2, .int v2), (3, .int v3), (4, .int v4), (5, .int v5_23)]) (pc := 6) X dX3_timeArrivals_6 (by decide) [1, 2, 3, 4, 5, 0] rfl ?_
  refine g_lv [(0, .ref (ad v0)), (1, .ref (ad v1)), (3, .int v3), (4, .int v4), (5, .int v5_23)] [0, 1, 3, 4, 5] rfl ?_
  exact hL8 _ _ _ _ _ _ hf

noncomputable def fX11_could_92 (v0 : Nat) (v3 : Int32) (v4 : Int32) (m : Mem) : Option ((Int32 × Int32) ⊕ (Int32)) := lt1 (v4 + 1) (fun v4_1 => some (.inl (v3, v4_1)))
noncomputable def fX11_could_63b (v0 : Nat) (v3 : Int32) (v4 : Int32) (m : Mem) : Option ((Int32 × Int32) ⊕ (Int32)) := if (8 : Int32) < v4 then (some (.inr (v3))) else (gp (KC v0 = 11) (bnd (m.2.2 v0 4) (fun q4 => gp (KC q4 = 3) (bnd (m.2.2 q4 4) (fun q7 => gp (KC q7 = 15) (gp (inb v4 (NC q7) = true) (if (m.2.1 q7 v4.toNatClampNeg) ≤ (0 : Int64) then (fX11_could_92 v0 v3 v4 m) else (lt1 (v3 ||| ((1 : Int32) <<< (v4 &&& 31))) (fun v3_11 => fX11_could_92 v0 v3_11 v4 m)))))))))
noncomputable def fX11_could_63 (v0 : Nat) (v3 : Int32) (v4 : Int32) (m : Mem) : Option (Int64 × Mem) := bnd (iter (fun s => fX11_could_63b v0 s.1 s.2 m) FU (v3, v4)) (fun e => some (e.toInt64, m))
noncomputable def fX11_could (v0 : Nat) (v1 : Int32) (v2 : Int32) (m : Mem) : Option (Int64 × Mem) := gp (KC v0 = 11) (bnd (m.2.2 v0 6) (fun q14 => gp (KC q14 = 10) (bnd (m.2.2 q14 0) (fun q17 => gp (KC q17 = 9) (bnd (fX9_isOpen q17 v1 m) (fun r20 => if r20 = 0 then (some ((-9000000000000000001 : Int64), m)) else (bnd (fX9_isCell q17 v2 m) (fun r23 => if r23 = 0 then (some ((-9000000000000000001 : Int64), m)) else (bnd (m.2.2 v0 4) (fun q24 => bnd (m.2.2 q14 1) (fun q26 => gp (KC q26 = 4) (gp (KC q24 = 3) (bnd (fX3_timeArrivals q24 q17 v1 v2 (m.1 q26 0) m) (fun m30 => lt1 ((0 : Int32)) (fun v3_32 => lt1 ((0 : Int32)) (fun v4_34 => fX11_could_63 v0 v3_32 v4_34 m30))))))))))))))))
set_option maxHeartbeats 4000000 in
set_option maxRecDepth 100000 in
theorem cX11_could_ct (z : Zx) (ad : Nat → Nat) (v0 : Nat) (v1 : Int32) (v2 : Int32) (m m2 : Mem) (r : Int64) (hf : fX11_could v0 v1 v2 m = some (r, m2)) : CtL z wC yX11_could cX11_could 5 (some .long) (Rm 9) ad 91 [.ref (ad v0), .int v1, .int v2] m m2 r := by
  refine ct_ofL mi_X11_could rfl (Nat.le_of_ble_eq_true rfl) (fun x X hret => ?_)
  refine g_lv [(0, .ref (ad v0)), (1, .int v1), (2, .int v2)] [0, 1, 2] rfl ?_
  have hL63 : ∀ (v0 : Nat) (v3 : Int32) (v4 : Int32) (m : Mem), fX11_could_63 v0 v3 v4 m = some (r, m2) → G z wC x 5 0 0 ad 91 m 63 [(0, .ref (ad v0)), (3, .int v3), (4, .int v4)] [] := by
    intro v0 v3 v4 m hf
    unfold fX11_could_63 at hf
    obtain ⟨e63, hit63, hrest63⟩ := bnd_some hf
    refine iter_ok (Hd := fun (s : (Int32 × Int32)) => G z wC x 5 0 0 ad 91 m 63 [(0, .ref (ad v0)), (3, .int s.1), (4, .int s.2)] []) ?_ FU (v3, v4) hit63
    intro s ob63 hf hs63 he63
    obtain ⟨v3, v4⟩ := s
    have hf : fX11_could_63b v0 v3 v4 m = some ob63 := hf
    have hL92 : ∀ (v3 : Int32) (v4 : Int32), fX11_could_92 v0 v3 v4 m = some ob63 → G z wC x 5 0 0 ad 91 m 92 [(0, .ref (ad v0)), (3, .int v3), (4, .int v4)] [] := by
      intro v3 v4 hf
      unfold fX11_could_92 at hf
      obtain ⟨v4_1, e2, hf⟩ := lt1_some hf
      refine g_iinc (v2 := v4_1) (lv2 := [(0, .ref (ad v0)), (3, .int v3), (4, .int v4_1)]) (pc := 92) X dX11_could_92 2 rfl (by rw [e2]; rfl) (by decide) [1, 2, 0] rfl ?_
      refine g_goto (pc := 95) (tgt := 63) X dX11_could_95 (by decide) ?_
      exact hs63 (v3, v4_1) (Option.some.inj hf).symm
    unfold fX11_could_63b at hf
    refine g_iload (pc := 63) X dX11_could_63 2 rfl ?_
    refine g_bipush (v := (8 : Int32)) (pc := 65) X dX11_could_65 (by decide) ?_
    refine g_icmp_gt (pc := 67) (tgt := 98) X dX11_could_67 (by decide) (fun hc => ?_) (fun hc => ?_)
    · have hf := itp hc hf
      have he63 := he63 _ (Option.some.inj hf).symm
      subst he63
      have hf : some (v3.toInt64, m) = some (r, m2) := hrest63
      refine g_iload_n (pc := 98) X dX11_could_98 rfl 1 rfl ?_
      refine g_i2l (pc := 99) X dX11_could_99 ?_
      obtain ⟨rfl, rfl⟩ := som2 hf
      exact hret _ _ dX11_could_100
    · have hf := itn hc hf
      refine g_aload_n (pc := 70) X dX11_could_70 rfl 0 rfl ?_
      obtain ⟨hk3, hf⟩ := gp_some hf
      obtain ⟨q4, hr5, hf⟩ := bnd_some hf
      refine g_getR (pc := 71) X fl_X11_40 (KClt hk3 (by decide)) hk3 hr5 dX11_could_71 ?_
      obtain ⟨hk6, hf⟩ := gp_some hf
      obtain ⟨q7, hr8, hf⟩ := bnd_some hf
      refine g_getR (pc := 74) X fl_X11_246 (KClt hk6 (by decide)) hk6 hr8 dX11_could_74 ?_
      refine g_iload (pc := 77) X dX11_could_77 2 rfl ?_
      obtain ⟨hk9, hf⟩ := gp_some hf
      obtain ⟨hi10, hf⟩ := gp_some hf
      refine g_lald (pc := 79) X (KClt hk9 (by decide)) hk9 hi10 dX11_could_79 ?_
      refine g_lconst (v := (0 : Int64)) (pc := 80) X dX11_could_80 (by decide) ?_
      refine g_lcmp_le (pc := 81) (tgt := 92) X dX11_could_81 dX11_could_82 (by decide) (fun hc => ?_) (fun hc => ?_)
      · have hf := itp hc hf
        exact hL92 _ _ hf
      · have hf := itn hc hf
        refine g_iload_n (pc := 85) X dX11_could_85 rfl 1 rfl ?_
        refine g_iconst (v := (1 : Int32)) (pc := 86) X dX11_could_86 (by decide) ?_
        refine g_iload (pc := 87) X dX11_could_87 2 rfl ?_
        refine g_ishl (pc := 89) X dX11_could_89 ?_
        refine g_ior (pc := 90) X dX11_could_90 ?_
        obtain ⟨v3_11, e12, hf⟩ := lt1_some hf
        refine g_topi e12 ?_
        refine g_istore_n (lv2 := [(0, .ref (ad v0)), (3, .int v3_11), (4, .int v4)]) (pc := 91) X dX11_could_91 rfl (by decide) [1, 0, 2] rfl ?_
        exact hL92 _ _ hf
  unfold fX11_could at hf
  refine g_aload_n (pc := 0) X dX11_could_0 rfl 0 rfl ?_
  obtain ⟨hk13, hf⟩ := gp_some hf
  obtain ⟨q14, hr15, hf⟩ := bnd_some hf
  refine g_getR (pc := 1) X fl_X11_52 (KClt hk13 (by decide)) hk13 hr15 dX11_could_1 ?_
  obtain ⟨hk16, hf⟩ := gp_some hf
  obtain ⟨q17, hr18, hf⟩ := bnd_some hf
  refine g_getR (pc := 4) X fl_X11_150 (KClt hk16 (by decide)) hk16 hr18 dX11_could_4 ?_
  refine g_iload_n (pc := 7) X dX11_could_7 rfl 1 rfl ?_
  obtain ⟨hk21, hf⟩ := gp_some hf
  obtain ⟨r20, hq19, hf⟩ := bnd_some hf
  refine g_callVI (pc := 8) (As := [.int v1]) (rest := []) X mi_X9_isOpen im_X9_isOpen se_X9_isOpen (KClt hk21 (by decide)) hk21 clX9 ml_X11_215 (cX9_isOpen_ct z ad q17 v1 m r20 hq19) rfl rfl (Nat.le_of_ble_eq_true rfl) ⟨rfl, rfl, by decide, by decide, Nat.le_refl _, Nat.le_refl _⟩ dX11_could_8 ?_
  refine g_if_eq (pc := 11) (tgt := 28) X dX11_could_11 (by decide) (fun hc => ?_) (fun hc => ?_)
  · have hf := itp hc hf
    refine g_ldc2 (pc := 28) X dX11_could_28 kl_X11_64 ?_
    obtain ⟨rfl, rfl⟩ := som2 hf
    exact hret _ _ dX11_could_31
  · have hf := itn hc hf
    refine g_aload_n (pc := 14) X dX11_could_14 rfl 0 rfl ?_
    refine g_getR (pc := 15) X fl_X11_52 (KClt hk13 (by decide)) hk13 hr15 dX11_could_15 ?_
    refine g_getR (pc := 18) X fl_X11_150 (KClt hk16 (by decide)) hk16 hr18 dX11_could_18 ?_
    refine g_iload_n (pc := 21) X dX11_could_21 rfl 2 rfl ?_
    obtain ⟨r23, hq22, hf⟩ := bnd_some hf
    refine g_callVI (pc := 22) (As := [.int v2]) (rest := []) X mi_X9_isCell im_X9_isCell se_X9_isCell (KClt hk21 (by decide)) hk21 clX9 ml_X11_218 (cX9_isCell_ct z ad q17 v2 m r23 hq22) rfl rfl (Nat.le_of_ble_eq_true rfl) ⟨rfl, rfl, by decide, by decide, Nat.le_refl _, Nat.le_refl _⟩ dX11_could_22 ?_
    refine g_if_ne (pc := 25) (tgt := 32) X dX11_could_25 (by decide) (fun hc => ?_) (fun hc => ?_)
    · have hf := itn hc hf
      refine g_aload_n (pc := 32) X dX11_could_32 rfl 0 rfl ?_
      obtain ⟨q24, hr25, hf⟩ := bnd_some hf
      refine g_getR (pc := 33) X fl_X11_40 (KClt hk13 (by decide)) hk13 hr25 dX11_could_33 ?_
      refine g_aload_n (pc := 36) X dX11_could_36 rfl 0 rfl ?_
      refine g_getR (pc := 37) X fl_X11_52 (KClt hk13 (by decide)) hk13 hr15 dX11_could_37 ?_
      refine g_getR (pc := 40) X fl_X11_150 (KClt hk16 (by decide)) hk16 hr18 dX11_could_40 ?_
      refine g_iload_n (pc := 43) X dX11_could_43 rfl 1 rfl ?_
      refine g_iload_n (pc := 44) X dX11_could_44 rfl 2 rfl ?_
      refine g_aload_n (pc := 45) X dX11_could_45 rfl 0 rfl ?_
      refine g_getR (pc := 46) X fl_X11_52 (KClt hk13 (by decide)) hk13 hr15 dX11_could_46 ?_
      obtain ⟨q26, hr27, hf⟩ := bnd_some hf
      refine g_getR (pc := 49) X fl_X11_159 (KClt hk16 (by decide)) hk16 hr27 dX11_could_49 ?_
      obtain ⟨hk28, hf⟩ := gp_some hf
      refine g_getI (pc := 52) X fl_X11_175 (KClt hk28 (by decide)) hk28 dX11_could_52 ?_
      obtain ⟨hk31, hf⟩ := gp_some hf
      obtain ⟨m30, hq29, hf⟩ := bnd_some hf
      refine g_callVV (pc := 55) (As := [.ref (ad q17), .int v1, .int v2, .int (m.1 q26 0)]) (rest := []) X mi_X3_timeArrivals im_X3_timeArrivals se_X3_timeArrivals (KClt hk31 (by decide)) hk31 clX3 ml_X11_243 (cX3_timeArrivals_ct z ad q24 q17 v1 v2 (m.1 q26 0) m m30 hq29) rfl rfl (Nat.le_of_ble_eq_true rfl) ⟨rfl, rfl, by decide, by decide, Nat.le_refl _, Nat.le_refl _⟩ dX11_could_55 ?_
      refine g_iconst (v := (0 : Int32)) (pc := 58) X dX11_could_58 (by decide) ?_
      obtain ⟨v3_32, e33, hf⟩ := lt1_some hf
      refine g_topi e33 ?_
      refine g_istore_n (lv2 := [(0, .ref (ad v0)), (1, .int v1), (2, .int v2), (3, .int v3_32)]) (pc := 59) X dX11_could_59 rfl (by decide) [1, 2, 3, 0] rfl ?_
      refine g_iconst (v := (0 : Int32)) (pc := 60) X dX11_could_60 (by decide) ?_
      obtain ⟨v4_34, e35, hf⟩ := lt1_some hf
      refine g_topi e35 ?_
      refine g_istore (lv2 := [(0, .ref (ad v0)), (1, .int v1), (2, .int v2), (3, .int v3_32), (4, .int v4_34)]) (pc := 61) X dX11_could_61 (by decide) [1, 2, 3, 4, 0] rfl ?_
      refine g_lv [(0, .ref (ad v0)), (3, .int v3_32), (4, .int v4_34)] [0, 3, 4] rfl ?_
      exact hL63 _ _ _ _ hf
    · have hf := itp hc hf
      refine g_ldc2 (pc := 28) X dX11_could_28 kl_X11_64 ?_
      obtain ⟨rfl, rfl⟩ := som2 hf
      exact hret _ _ dX11_could_31

noncomputable def fX11_isSetOfHours (v0 : Int32) : Option Int32 := bnd (fX11_isWithin v0 (1 : Int32) (511 : Int32)) (fun r2 => gp (zb r2 = true) (some r2))
set_option maxHeartbeats 4000000 in
set_option maxRecDepth 100000 in
theorem cX11_isSetOfHours_ct (z : Zx) (ad : Nat → Nat) (v0 : Int32) (m : Mem) (r : Int32) (hf : fX11_isSetOfHours v0 = some r) : CtI z wC yX11_isSetOfHours cX11_isSetOfHours 1 (some .boolean) (Rm 3) ad 91 [.int v0] m m r := by
  refine ct_ofI mi_X11_isSetOfHours rfl (Nat.le_of_ble_eq_true rfl) (fun x X hret => ?_)
  refine g_lv [(0, .int v0)] [0] rfl ?_
  unfold fX11_isSetOfHours at hf
  refine g_iload_n (pc := 0) X dX11_isSetOfHours_0 rfl 0 rfl ?_
  refine g_iconst (v := (1 : Int32)) (pc := 1) X dX11_isSetOfHours_1 (by decide) ?_
  refine g_sipush (v := (511 : Int32)) (pc := 2) X dX11_isSetOfHours_2 (by decide) ?_
  obtain ⟨r2, hq1, hf⟩ := bnd_some hf
  refine g_callSI (pc := 5) (As := [.int v0, .int (1 : Int32), .int (511 : Int32)]) (rest := []) X mi_X11_isWithin sm_X11_isWithin ml_X11_60 (cX11_isWithin_ct z ad v0 (1 : Int32) (511 : Int32) m r2 hq1) rfl rfl (Nat.le_of_ble_eq_true rfl) ⟨rfl, rfl, by decide, by decide, Nat.le_refl _, Nat.le_refl _⟩ dX11_isSetOfHours_5 ?_
  obtain ⟨hzr, hf⟩ := gp_some hf
  obtain rfl := Option.some.inj hf
  exact hret _ _ (zb_nar hzr) dX11_isSetOfHours_8

