noncomputable def fX12_in (v0 : Int64) (v2 : Int64) (v4 : Int64) : Option Int32 := if v0 < v2 then (some (0 : Int32)) else (if v4 < v0 then (some (0 : Int32)) else (some (1 : Int32)))
set_option maxHeartbeats 4000000 in
set_option maxRecDepth 100000 in
theorem cX12_in_ct (z : Zx) (ad : Nat → Nat) (v0 : Int64) (v2 : Int64) (v4 : Int64) (m : Mem) (r : Int32) (hf : fX12_in v0 v2 v4 = some r) : CtI z wM yX12_in cX12_in 6 (some .boolean) (Rm 2) ad 17 [.long v0, .long v2, .long v4] m m r := by
  refine ct_ofI mi_X12_in rfl (Nat.le_of_ble_eq_true rfl) (fun x X hret => ?_)
  refine g_lv [(0, .long v0), (2, .long v2), (4, .long v4)] [0, 1, 2] rfl ?_
  unfold fX12_in at hf
  refine g_lload_n (pc := 0) X dX12_in_0 rfl 0 rfl ?_
  refine g_lload_n (pc := 1) X dX12_in_1 rfl 1 rfl ?_
  refine g_lcmp_lt (pc := 2) (tgt := 17) X dX12_in_2 dX12_in_3 (by decide) (fun hc => ?_) (fun hc => ?_)
  · have hf := itp hc hf
    refine g_iconst (v := (0 : Int32)) (pc := 17) X dX12_in_17 (by decide) ?_
    obtain rfl := Option.some.inj hf
    exact hret _ _ (by decide) dX12_in_18
  · have hf := itn hc hf
    refine g_lload_n (pc := 6) X dX12_in_6 rfl 0 rfl ?_
    refine g_lload (pc := 7) X dX12_in_7 2 rfl ?_
    refine g_lcmp_gt (pc := 9) (tgt := 17) X dX12_in_9 dX12_in_10 (by decide) (fun hc => ?_) (fun hc => ?_)
    · have hf := itp hc hf
      refine g_iconst (v := (0 : Int32)) (pc := 17) X dX12_in_17 (by decide) ?_
      obtain rfl := Option.some.inj hf
      exact hret _ _ (by decide) dX12_in_18
    · have hf := itn hc hf
      refine g_iconst (v := (1 : Int32)) (pc := 13) X dX12_in_13 (by decide) ?_
      refine g_goto (pc := 14) (tgt := 18) X dX12_in_14 (by decide) ?_
      obtain rfl := Option.some.inj hf
      exact hret _ _ (by decide) dX12_in_18

noncomputable def fX12_finding (v0 : Nat) (v1 : Int32) (m : Mem) : Option (Int64 × Mem) := gp (KM v0 = 12) (lt1 (uI m v0 1 v1) (fun m2 => some ((-9000000000000000010 : Int64) - v1.toInt64, m2)))
set_option maxHeartbeats 4000000 in
set_option maxRecDepth 100000 in
theorem cX12_finding_ct (z : Zx) (ad : Nat → Nat) (v0 : Nat) (v1 : Int32) (m m2 : Mem) (r : Int64) (hf : fX12_finding v0 v1 m = some (r, m2)) : CtL z wM yX12_finding cX12_finding 2 (some .long) (Rm 2) ad 17 [.ref (ad v0), .int v1] m m2 r := by
  refine ct_ofL mi_X12_finding rfl (Nat.le_of_ble_eq_true rfl) (fun x X hret => ?_)
  refine g_lv [(0, .ref (ad v0)), (1, .int v1)] [0, 1] rfl ?_
  unfold fX12_finding at hf
  refine g_aload_n (pc := 0) X dX12_finding_0 rfl 0 rfl ?_
  refine g_iload_n (pc := 1) X dX12_finding_1 rfl 1 rfl ?_
  obtain ⟨hk1, hf⟩ := gp_some hf
  refine g_putI (pc := 2) X fl_X12_64 (KMlt hk1 (by decide)) hk1 rfl rfl dX12_finding_2 ?_
  obtain ⟨m2, e3, hf⟩ := lt1_some hf
  refine g_mem e3 ?_
  refine g_ldc2 (pc := 5) X dX12_finding_5 kl_X12_67 ?_
  refine g_iload_n (pc := 8) X dX12_finding_8 rfl 1 rfl ?_
  refine g_i2l (pc := 9) X dX12_finding_9 ?_
  refine g_lsub (pc := 10) X dX12_finding_10 ?_
  obtain ⟨rfl, rfl⟩ := som2 hf
  exact hret _ _ dX12_finding_11

noncomputable def fX12_isRow (v0 : Int32) : Option Int32 := bnd (fX12_in v0.toInt64 (0 : Int64) (7 : Int64)) (fun r2 => gp (zb r2 = true) (some r2))
set_option maxHeartbeats 4000000 in
set_option maxRecDepth 100000 in
theorem cX12_isRow_ct (z : Zx) (ad : Nat → Nat) (v0 : Int32) (m : Mem) (r : Int32) (hf : fX12_isRow v0 = some r) : CtI z wM yX12_isRow cX12_isRow 1 (some .boolean) (Rm 3) ad 17 [.int v0] m m r := by
  refine ct_ofI mi_X12_isRow rfl (Nat.le_of_ble_eq_true rfl) (fun x X hret => ?_)
  refine g_lv [(0, .int v0)] [0] rfl ?_
  unfold fX12_isRow at hf
  refine g_iload_n (pc := 0) X dX12_isRow_0 rfl 0 rfl ?_
  refine g_i2l (pc := 1) X dX12_isRow_1 ?_
  refine g_lconst (v := (0 : Int64)) (pc := 2) X dX12_isRow_2 (by decide) ?_
  refine g_ldc2 (pc := 3) X dX12_isRow_3 kl_X12_69 ?_
  obtain ⟨r2, hq1, hf⟩ := bnd_some hf
  refine g_callSI (pc := 6) (As := [.long v0.toInt64, .long (0 : Int64), .long (7 : Int64)]) (rest := []) X mi_X12_in sm_X12_in ml_X12_71 (cX12_in_ct z ad v0.toInt64 (0 : Int64) (7 : Int64) m r2 hq1) rfl rfl (Nat.le_of_ble_eq_true rfl) ⟨rfl, rfl, by decide, by decide, Nat.le_refl _, Nat.le_refl _⟩ dX12_isRow_6 ?_
  obtain ⟨hzr, hf⟩ := gp_some hf
  obtain rfl := Option.some.inj hf
  exact hret _ _ (zb_nar hzr) dX12_isRow_9

noncomputable def fX12_row_66b (v0 : Nat) (v1 : Int32) (v3 : Int32) (v4 : Int32) (m : Mem) : Option ((Int32 × Mem) ⊕ (Mem)) := if (40 : Int32) ≤ v4 then (some (.inr (m))) else (gp (KM v0 = 12) (bnd (m.2.2 v0 4) (fun q2 => gp (KM q2 = 14) (gp (inb (((40 : Int32) * v1) + v4) (NM q2) = true) (lt1 (uI m q2 (((40 : Int32) * v1) + v4).toNatClampNeg (0 : Int32)) (fun m6 => lt1 (v4 + 1) (fun v4_8 => some (.inl (v4_8, m6)))))))))
noncomputable def fX12_row_66 (v0 : Nat) (v1 : Int32) (v3 : Int32) (v4 : Int32) (m : Mem) : Option (Int64 × Mem) := bnd (iter (fun s => fX12_row_66b v0 v1 v3 s.1 s.2) FU (v4, m)) (fun e => some (v3.toInt64, e))
noncomputable def fX12_row (v0 : Nat) (v1 : Int32) (v2 : Int32) (v3 : Int32) (m : Mem) : Option (Int64 × Mem) := gp (KM v0 = 12) (lt1 (uI m v0 0 (0 : Int32)) (fun m11 => bnd (fX12_isRow v1) (fun r14 => if r14 = 0 then (some ((-9000000000000000001 : Int64), m11)) else (bnd (fX12_in v2.toInt64 (0 : Int64) (2 : Int64)) (fun r16 => if r16 = 0 then (some ((-9000000000000000001 : Int64), m11)) else (if v3 ≤ (40 : Int32) then (lt1 (uI m11 v0 1 (0 : Int32)) (fun m17 => if 0 ≤ v3 then (bnd (m17.2.2 v0 2) (fun q19 => gp (KM q19 = 14) (gp (inb v1 (NM q19) = true) (lt1 (uI m17 q19 v1.toNatClampNeg v2) (fun m23 => bnd (m23.2.2 v0 3) (fun q25 => gp (KM q25 = 14) (gp (inb v1 (NM q25) = true) (lt1 (uI m23 q25 v1.toNatClampNeg v3) (fun m29 => lt1 ((0 : Int32)) (fun v4_31 => fX12_row_66 v0 v1 v3 v4_31 m29)))))))))) else (bnd2 (fX12_finding v0 (4 : Int32) m17) (fun r34 m35 => some (r34, m35))))) else (some ((-9000000000000000001 : Int64), m11))))))))
set_option maxHeartbeats 4000000 in
set_option maxRecDepth 100000 in
theorem cX12_row_ct (z : Zx) (ad : Nat → Nat) (v0 : Nat) (v1 : Int32) (v2 : Int32) (v3 : Int32) (m m2 : Mem) (r : Int64) (hf : fX12_row v0 v1 v2 v3 m = some (r, m2)) : CtL z wM yX12_row cX12_row 5 (some .long) (Rm 4) ad 17 [.ref (ad v0), .int v1, .int v2, .int v3] m m2 r := by
  refine ct_ofL mi_X12_row rfl (Nat.le_of_ble_eq_true rfl) (fun x X hret => ?_)
  refine g_lv [(0, .ref (ad v0)), (1, .int v1), (2, .int v2), (3, .int v3)] [0, 1, 2, 3] rfl ?_
  have hL66 : ∀ (v0 : Nat) (v1 : Int32) (v3 : Int32) (v4 : Int32) (m : Mem), fX12_row_66 v0 v1 v3 v4 m = some (r, m2) → G z wM x 5 0 0 ad 17 m 66 [(0, .ref (ad v0)), (1, .int v1), (3, .int v3), (4, .int v4)] [] := by
    intro v0 v1 v3 v4 m hf
    unfold fX12_row_66 at hf
    obtain ⟨e66, hit66, hrest66⟩ := bnd_some hf
    refine iter_ok (Hd := fun (s : (Int32 × Mem)) => G z wM x 5 0 0 ad 17 s.2 66 [(0, .ref (ad v0)), (1, .int v1), (3, .int v3), (4, .int s.1)] []) ?_ FU (v4, m) hit66
    intro s ob66 hf hs66 he66
    obtain ⟨v4, m⟩ := s
    have hf : fX12_row_66b v0 v1 v3 v4 m = some ob66 := hf
    unfold fX12_row_66b at hf
    refine g_iload (pc := 66) X dX12_row_66 3 rfl ?_
    refine g_bipush (v := (40 : Int32)) (pc := 68) X dX12_row_68 (by decide) ?_
    refine g_icmp_ge (pc := 70) (tgt := 92) X dX12_row_70 (by decide) (fun hc => ?_) (fun hc => ?_)
    · have hf := itp hc hf
      have he66 := he66 _ (Option.some.inj hf).symm
      subst he66
      have hf : some (v3.toInt64, m) = some (r, m2) := hrest66
      refine g_iload_n (pc := 92) X dX12_row_92 rfl 2 rfl ?_
      refine g_i2l (pc := 93) X dX12_row_93 ?_
      obtain ⟨rfl, rfl⟩ := som2 hf
      exact hret _ _ dX12_row_94
    · have hf := itn hc hf
      refine g_aload_n (pc := 73) X dX12_row_73 rfl 0 rfl ?_
      obtain ⟨hk1, hf⟩ := gp_some hf
      obtain ⟨q2, hr3, hf⟩ := bnd_some hf
      refine g_getR (pc := 74) X fl_X12_16 (KMlt hk1 (by decide)) hk1 hr3 dX12_row_74 ?_
      refine g_bipush (v := (40 : Int32)) (pc := 77) X dX12_row_77 (by decide) ?_
      refine g_iload_n (pc := 79) X dX12_row_79 rfl 1 rfl ?_
      refine g_imul (pc := 80) X dX12_row_80 ?_
      refine g_iload (pc := 81) X dX12_row_81 3 rfl ?_
      refine g_iadd (pc := 83) X dX12_row_83 ?_
      refine g_iconst (v := (0 : Int32)) (pc := 84) X dX12_row_84 (by decide) ?_
      obtain ⟨hk4, hf⟩ := gp_some hf
      obtain ⟨hi5, hf⟩ := gp_some hf
      refine g_iast (pc := 85) X (KMlt hk4 (by decide)) hk4 hi5 dX12_row_85 ?_
      obtain ⟨m6, e7, hf⟩ := lt1_some hf
      refine g_mem e7 ?_
      obtain ⟨v4_8, e9, hf⟩ := lt1_some hf
      refine g_iinc (v2 := v4_8) (lv2 := [(0, .ref (ad v0)), (1, .int v1), (3, .int v3), (4, .int v4_8)]) (pc := 86) X dX12_row_86 3 rfl (by rw [e9]; rfl) (by decide) [1, 2, 3, 0] rfl ?_
      refine g_goto (pc := 89) (tgt := 66) X dX12_row_89 (by decide) ?_
      exact hs66 (v4_8, m6) (Option.some.inj hf).symm
  unfold fX12_row at hf
  refine g_aload_n (pc := 0) X dX12_row_0 rfl 0 rfl ?_
  refine g_iconst (v := (0 : Int32)) (pc := 1) X dX12_row_1 (by decide) ?_
  obtain ⟨hk10, hf⟩ := gp_some hf
  refine g_putI (pc := 2) X fl_X12_60 (KMlt hk10 (by decide)) hk10 rfl rfl dX12_row_2 ?_
  obtain ⟨m11, e12, hf⟩ := lt1_some hf
  refine g_mem e12 ?_
  refine g_iload_n (pc := 5) X dX12_row_5 rfl 1 rfl ?_
  obtain ⟨r14, hq13, hf⟩ := bnd_some hf
  refine g_callSI (pc := 6) (As := [.int v1]) (rest := []) X mi_X12_isRow sm_X12_isRow ml_X12_75 (cX12_isRow_ct z ad v1 m11 r14 hq13) rfl rfl (Nat.le_of_ble_eq_true rfl) ⟨rfl, rfl, by decide, by decide, Nat.le_refl _, Nat.le_refl _⟩ dX12_row_6 ?_
  refine g_if_eq (pc := 9) (tgt := 30) X dX12_row_9 (by decide) (fun hc => ?_) (fun hc => ?_)
  · have hf := itp hc hf
    refine g_ldc2 (pc := 30) X dX12_row_30 kl_X12_81 ?_
    obtain ⟨rfl, rfl⟩ := som2 hf
    exact hret _ _ dX12_row_33
  · have hf := itn hc hf
    refine g_iload_n (pc := 12) X dX12_row_12 rfl 2 rfl ?_
    refine g_i2l (pc := 13) X dX12_row_13 ?_
    refine g_lconst (v := (0 : Int64)) (pc := 14) X dX12_row_14 (by decide) ?_
    refine g_ldc2 (pc := 15) X dX12_row_15 kl_X12_79 ?_
    obtain ⟨r16, hq15, hf⟩ := bnd_some hf
    refine g_callSI (pc := 18) (As := [.long v2.toInt64, .long (0 : Int64), .long (2 : Int64)]) (rest := []) X mi_X12_in sm_X12_in ml_X12_71 (cX12_in_ct z ad v2.toInt64 (0 : Int64) (2 : Int64) m11 r16 hq15) rfl rfl (Nat.le_of_ble_eq_true rfl) ⟨rfl, rfl, by decide, by decide, Nat.le_refl _, Nat.le_refl _⟩ dX12_row_18 ?_
    refine g_if_eq (pc := 21) (tgt := 30) X dX12_row_21 (by decide) (fun hc => ?_) (fun hc => ?_)
    · have hf := itp hc hf
      refine g_ldc2 (pc := 30) X dX12_row_30 kl_X12_81 ?_
      obtain ⟨rfl, rfl⟩ := som2 hf
      exact hret _ _ dX12_row_33
    · have hf := itn hc hf
      refine g_iload_n (pc := 24) X dX12_row_24 rfl 3 rfl ?_
      refine g_bipush (v := (40 : Int32)) (pc := 25) X dX12_row_25 (by decide) ?_
      refine g_icmp_le (pc := 27) (tgt := 34) X dX12_row_27 (by decide) (fun hc => ?_) (fun hc => ?_)
      · have hf := itp hc hf
        refine g_aload_n (pc := 34) X dX12_row_34 rfl 0 rfl ?_
        refine g_iconst (v := (0 : Int32)) (pc := 35) X dX12_row_35 (by decide) ?_
        refine g_putI (pc := 36) X fl_X12_64 (KMlt hk10 (by decide)) hk10 rfl rfl dX12_row_36 ?_
        obtain ⟨m17, e18, hf⟩ := lt1_some hf
        refine g_mem e18 ?_
        refine g_iload_n (pc := 39) X dX12_row_39 rfl 3 rfl ?_
        refine g_if_ge (pc := 40) (tgt := 49) X dX12_row_40 (by decide) (fun hc => ?_) (fun hc => ?_)
        · have hf := itp hc hf
          refine g_aload_n (pc := 49) X dX12_row_49 rfl 0 rfl ?_
          obtain ⟨q19, hr20, hf⟩ := bnd_some hf
          refine g_getR (pc := 50) X fl_X12_9 (KMlt hk10 (by decide)) hk10 hr20 dX12_row_50 ?_
          refine g_iload_n (pc := 53) X dX12_row_53 rfl 1 rfl ?_
          refine g_iload_n (pc := 54) X dX12_row_54 rfl 2 rfl ?_
          obtain ⟨hk21, hf⟩ := gp_some hf
          obtain ⟨hi22, hf⟩ := gp_some hf
          refine g_iast (pc := 55) X (KMlt hk21 (by decide)) hk21 hi22 dX12_row_55 ?_
          obtain ⟨m23, e24, hf⟩ := lt1_some hf
          refine g_mem e24 ?_
          refine g_aload_n (pc := 56) X dX12_row_56 rfl 0 rfl ?_
          obtain ⟨q25, hr26, hf⟩ := bnd_some hf
          refine g_getR (pc := 57) X fl_X12_13 (KMlt hk10 (by decide)) hk10 hr26 dX12_row_57 ?_
          refine g_iload_n (pc := 60) X dX12_row_60 rfl 1 rfl ?_
          refine g_iload_n (pc := 61) X dX12_row_61 rfl 3 rfl ?_
          obtain ⟨hk27, hf⟩ := gp_some hf
          obtain ⟨hi28, hf⟩ := gp_some hf
          refine g_iast (pc := 62) X (KMlt hk27 (by decide)) hk27 hi28 dX12_row_62 ?_
          obtain ⟨m29, e30, hf⟩ := lt1_some hf
          refine g_mem e30 ?_
          refine g_iconst (v := (0 : Int32)) (pc := 63) X dX12_row_63 (by decide) ?_
          obtain ⟨v4_31, e32, hf⟩ := lt1_some hf
          refine g_topi e32 ?_
          refine g_istore (lv2 := [(0, .ref (ad v0)), (1, .int v1), (2, .int v2), (3, .int v3), (4, .int v4_31)]) (pc := 64) X dX12_row_64 (by decide) [1, 2, 3, 4, 0] rfl ?_
          refine g_lv [(0, .ref (ad v0)), (1, .int v1), (3, .int v3), (4, .int v4_31)] [0, 1, 3, 4] rfl ?_
          exact hL66 _ _ _ _ _ hf
        · have hf := itn hc hf
          refine g_aload_n (pc := 43) X dX12_row_43 rfl 0 rfl ?_
          refine g_iconst (v := (4 : Int32)) (pc := 44) X dX12_row_44 (by decide) ?_
          obtain ⟨r34, m35, hq33, hf⟩ := bnd2_some hf
          refine g_callVL (pc := 45) (As := [.int (4 : Int32)]) (rest := []) X mi_X12_finding im_X12_finding se_X12_finding (KMlt hk10 (by decide)) hk10 clX12 ml_X12_83 (cX12_finding_ct z ad v0 (4 : Int32) m17 m35 r34 hq33) rfl rfl (Nat.le_of_ble_eq_true rfl) ⟨rfl, rfl, by decide, by decide, Nat.le_refl _, Nat.le_refl _⟩ dX12_row_45 ?_
          obtain ⟨rfl, rfl⟩ := som2 hf
          exact hret _ _ dX12_row_48
      · have hf := itn hc hf
        refine g_ldc2 (pc := 30) X dX12_row_30 kl_X12_81 ?_
        obtain ⟨rfl, rfl⟩ := som2 hf
        exact hret _ _ dX12_row_33

noncomputable def fX12_set_100 (v0 : Nat) (v1 : Int32) (v2 : Int32) (s0 : Nat) (s1 : Int32) (s2 : Int32) (m : Mem) : Option (Int64 × Mem) := gp (KM s0 = 14) (gp (inb s1 (NM s0) = true) (lt1 (uI m s0 s1.toNatClampNeg s2) (fun m3 => gp (KM v0 = 12) (bnd (m3.2.2 v0 4) (fun q6 => gp (KM q6 = 14) (gp (inb (((40 : Int32) * v1) + v2) (NM q6) = true) (some ((m3.1 q6 (((40 : Int32) * v1) + v2).toNatClampNeg).toInt64, m3))))))))
noncomputable def fX12_set (v0 : Nat) (v1 : Int32) (v2 : Int32) (v3 : Int32) (m : Mem) : Option (Int64 × Mem) := gp (KM v0 = 12) (lt1 (uI m v0 0 (0 : Int32)) (fun m11 => bnd (fX12_isRow v1) (fun r14 => if r14 = 0 then (some ((-9000000000000000001 : Int64), m11)) else (lt1 (uI m11 v0 1 (0 : Int32)) (fun m15 => bnd (m15.2.2 v0 2) (fun q17 => gp (KM q17 = 14) (gp (inb v1 (NM q17) = true) (if 0 ≤ (m15.1 q17 v1.toNatClampNeg) then (bnd (m15.2.2 v0 3) (fun q21 => gp (KM q21 = 14) (gp (inb v1 (NM q21) = true) (bnd (fX12_in v2.toInt64 (0 : Int64) (((m15.1 q21 v1.toNatClampNeg) - (1 : Int32)).toInt64)) (fun r26 => if r26 = 0 then (bnd2 (fX12_finding v0 (2 : Int32) m15) (fun r32 m33 => some (r32, m33))) else (bnd (m15.2.2 v0 4) (fun q27 => gp (inb v1 (NM q17) = true) (if (m15.1 q17 v1.toNatClampNeg) = 0 then (fX12_set_100 v0 v1 v2 q27 (((40 : Int32) * v1) + v2) v3.toInt8.toInt32 m15) else (gp (inb v1 (NM q17) = true) (if (m15.1 q17 v1.toNatClampNeg) = (1 : Int32) then (fX12_set_100 v0 v1 v2 q27 (((40 : Int32) * v1) + v2) v3.toInt16.toInt32 m15) else (fX12_set_100 v0 v1 v2 q27 (((40 : Int32) * v1) + v2) v3 m15))))))))))) else (bnd2 (fX12_finding v0 (1 : Int32) m15) (fun r35 m36 => some (r35, m36)))))))))))
set_option maxHeartbeats 4000000 in
set_option maxRecDepth 100000 in
theorem cX12_set_ct (z : Zx) (ad : Nat → Nat) (v0 : Nat) (v1 : Int32) (v2 : Int32) (v3 : Int32) (m m2 : Mem) (r : Int64) (hf : fX12_set v0 v1 v2 v3 m = some (r, m2)) : CtL z wM yX12_set cX12_set 4 (some .long) (Rm 4) ad 17 [.ref (ad v0), .int v1, .int v2, .int v3] m m2 r := by
  refine ct_ofL mi_X12_set rfl (Nat.le_of_ble_eq_true rfl) (fun x X hret => ?_)
  refine g_lv [(0, .ref (ad v0)), (1, .int v1), (2, .int v2), (3, .int v3)] [0, 1, 2, 3] rfl ?_
  have hL100 : ∀ (v0 : Nat) (v1 : Int32) (v2 : Int32) (s0 : Nat) (s1 : Int32) (s2 : Int32) (m : Mem), fX12_set_100 v0 v1 v2 s0 s1 s2 m = some (r, m2) → G z wM x 4 0 0 ad 17 m 100 [(0, .ref (ad v0)), (1, .int v1), (2, .int v2)] [.int s2, .int s1, .ref (ad s0)] := by
    intro v0 v1 v2 s0 s1 s2 m hf
    unfold fX12_set_100 at hf
    obtain ⟨hk1, hf⟩ := gp_some hf
    obtain ⟨hi2, hf⟩ := gp_some hf
    refine g_iast (pc := 100) X (KMlt hk1 (by decide)) hk1 hi2 dX12_set_100 ?_
    obtain ⟨m3, e4, hf⟩ := lt1_some hf
    refine g_mem e4 ?_
    refine g_aload_n (pc := 101) X dX12_set_101 rfl 0 rfl ?_
    obtain ⟨hk5, hf⟩ := gp_some hf
    obtain ⟨q6, hr7, hf⟩ := bnd_some hf
    refine g_getR (pc := 102) X fl_X12_16 (KMlt hk5 (by decide)) hk5 hr7 dX12_set_102 ?_
    refine g_bipush (v := (40 : Int32)) (pc := 105) X dX12_set_105 (by decide) ?_
    refine g_iload_n (pc := 107) X dX12_set_107 rfl 1 rfl ?_
    refine g_imul (pc := 108) X dX12_set_108 ?_
    refine g_iload_n (pc := 109) X dX12_set_109 rfl 2 rfl ?_
    refine g_iadd (pc := 110) X dX12_set_110 ?_
    obtain ⟨hk8, hf⟩ := gp_some hf
    obtain ⟨hi9, hf⟩ := gp_some hf
    refine g_iald (pc := 111) X (KMlt hk8 (by decide)) hk8 hi9 dX12_set_111 ?_
    refine g_i2l (pc := 112) X dX12_set_112 ?_
    obtain ⟨rfl, rfl⟩ := som2 hf
    exact hret _ _ dX12_set_113
  unfold fX12_set at hf
  refine g_aload_n (pc := 0) X dX12_set_0 rfl 0 rfl ?_
  refine g_iconst (v := (0 : Int32)) (pc := 1) X dX12_set_1 (by decide) ?_
  obtain ⟨hk10, hf⟩ := gp_some hf
  refine g_putI (pc := 2) X fl_X12_60 (KMlt hk10 (by decide)) hk10 rfl rfl dX12_set_2 ?_
  obtain ⟨m11, e12, hf⟩ := lt1_some hf
  refine g_mem e12 ?_
  refine g_iload_n (pc := 5) X dX12_set_5 rfl 1 rfl ?_
  obtain ⟨r14, hq13, hf⟩ := bnd_some hf
  refine g_callSI (pc := 6) (As := [.int v1]) (rest := []) X mi_X12_isRow sm_X12_isRow ml_X12_75 (cX12_isRow_ct z ad v1 m11 r14 hq13) rfl rfl (Nat.le_of_ble_eq_true rfl) ⟨rfl, rfl, by decide, by decide, Nat.le_refl _, Nat.le_refl _⟩ dX12_set_6 ?_
  refine g_if_ne (pc := 9) (tgt := 16) X dX12_set_9 (by decide) (fun hc => ?_) (fun hc => ?_)
  · have hf := itn hc hf
    refine g_aload_n (pc := 16) X dX12_set_16 rfl 0 rfl ?_
    refine g_iconst (v := (0 : Int32)) (pc := 17) X dX12_set_17 (by decide) ?_
    refine g_putI (pc := 18) X fl_X12_64 (KMlt hk10 (by decide)) hk10 rfl rfl dX12_set_18 ?_
    obtain ⟨m15, e16, hf⟩ := lt1_some hf
    refine g_mem e16 ?_
    refine g_aload_n (pc := 21) X dX12_set_21 rfl 0 rfl ?_
    obtain ⟨q17, hr18, hf⟩ := bnd_some hf
    refine g_getR (pc := 22) X fl_X12_9 (KMlt hk10 (by decide)) hk10 hr18 dX12_set_22 ?_
    refine g_iload_n (pc := 25) X dX12_set_25 rfl 1 rfl ?_
    obtain ⟨hk19, hf⟩ := gp_some hf
    obtain ⟨hi20, hf⟩ := gp_some hf
    refine g_iald (pc := 26) X (KMlt hk19 (by decide)) hk19 hi20 dX12_set_26 ?_
    refine g_if_ge (pc := 27) (tgt := 36) X dX12_set_27 (by decide) (fun hc => ?_) (fun hc => ?_)
    · have hf := itp hc hf
      refine g_iload_n (pc := 36) X dX12_set_36 rfl 2 rfl ?_
      refine g_i2l (pc := 37) X dX12_set_37 ?_
      refine g_lconst (v := (0 : Int64)) (pc := 38) X dX12_set_38 (by decide) ?_
      refine g_aload_n (pc := 39) X dX12_set_39 rfl 0 rfl ?_
      obtain ⟨q21, hr22, hf⟩ := bnd_some hf
      refine g_getR (pc := 40) X fl_X12_13 (KMlt hk10 (by decide)) hk10 hr22 dX12_set_40 ?_
      refine g_iload_n (pc := 43) X dX12_set_43 rfl 1 rfl ?_
      obtain ⟨hk23, hf⟩ := gp_some hf
      obtain ⟨hi24, hf⟩ := gp_some hf
      refine g_iald (pc := 44) X (KMlt hk23 (by decide)) hk23 hi24 dX12_set_44 ?_
      refine g_iconst (v := (1 : Int32)) (pc := 45) X dX12_set_45 (by decide) ?_
      refine g_isub (pc := 46) X dX12_set_46 ?_
      refine g_i2l (pc := 47) X dX12_set_47 ?_
      obtain ⟨r26, hq25, hf⟩ := bnd_some hf
      refine g_callSI (pc := 48) (As := [.long v2.toInt64, .long (0 : Int64), .long (((m15.1 q21 v1.toNatClampNeg) - (1 : Int32)).toInt64)]) (rest := []) X mi_X12_in sm_X12_in ml_X12_71 (cX12_in_ct z ad v2.toInt64 (0 : Int64) (((m15.1 q21 v1.toNatClampNeg) - (1 : Int32)).toInt64) m15 r26 hq25) rfl rfl (Nat.le_of_ble_eq_true rfl) ⟨rfl, rfl, by decide, by decide, Nat.le_refl _, Nat.le_refl _⟩ dX12_set_48 ?_
      refine g_if_ne (pc := 51) (tgt := 60) X dX12_set_51 (by decide) (fun hc => ?_) (fun hc => ?_)
      · have hf := itn hc hf
        refine g_aload_n (pc := 60) X dX12_set_60 rfl 0 rfl ?_
        obtain ⟨q27, hr28, hf⟩ := bnd_some hf
        refine g_getR (pc := 61) X fl_X12_16 (KMlt hk10 (by decide)) hk10 hr28 dX12_set_61 ?_
        refine g_bipush (v := (40 : Int32)) (pc := 64) X dX12_set_64 (by decide) ?_
        refine g_iload_n (pc := 66) X dX12_set_66 rfl 1 rfl ?_
        refine g_imul (pc := 67) X dX12_set_67 ?_
        refine g_iload_n (pc := 68) X dX12_set_68 rfl 2 rfl ?_
        refine g_iadd (pc := 69) X dX12_set_69 ?_
        refine g_aload_n (pc := 70) X dX12_set_70 rfl 0 rfl ?_
        refine g_getR (pc := 71) X fl_X12_9 (KMlt hk10 (by decide)) hk10 hr18 dX12_set_71 ?_
        refine g_iload_n (pc := 74) X dX12_set_74 rfl 1 rfl ?_
        obtain ⟨hi29, hf⟩ := gp_some hf
        refine g_iald (pc := 75) X (KMlt hk19 (by decide)) hk19 hi29 dX12_set_75 ?_
        refine g_if_ne (pc := 76) (tgt := 84) X dX12_set_76 (by decide) (fun hc => ?_) (fun hc => ?_)
        · have hf := itn hc hf
          refine g_aload_n (pc := 84) X dX12_set_84 rfl 0 rfl ?_
          refine g_getR (pc := 85) X fl_X12_9 (KMlt hk10 (by decide)) hk10 hr18 dX12_set_85 ?_
          refine g_iload_n (pc := 88) X dX12_set_88 rfl 1 rfl ?_
          obtain ⟨hi30, hf⟩ := gp_some hf
          refine g_iald (pc := 89) X (KMlt hk19 (by decide)) hk19 hi30 dX12_set_89 ?_
          refine g_iconst (v := (1 : Int32)) (pc := 90) X dX12_set_90 (by decide) ?_
          refine g_icmp_ne (pc := 91) (tgt := 99) X dX12_set_91 (by decide) (fun hc => ?_) (fun hc => ?_)
          · have hf := itn hc hf
            refine g_iload_n (pc := 99) X dX12_set_99 rfl 3 rfl ?_
            refine g_lv [(0, .ref (ad v0)), (1, .int v1), (2, .int v2)] [0, 1, 2] rfl ?_
            exact hL100 _ _ _ _ _ _ _ hf
          · have hf := itp hc hf
            refine g_iload_n (pc := 94) X dX12_set_94 rfl 3 rfl ?_
            refine g_i2s (pc := 95) X dX12_set_95 ?_
            refine g_goto (pc := 96) (tgt := 100) X dX12_set_96 (by decide) ?_
            refine g_lv [(0, .ref (ad v0)), (1, .int v1), (2, .int v2)] [0, 1, 2] rfl ?_
            exact hL100 _ _ _ _ _ _ _ hf
        · have hf := itp hc hf
          refine g_iload_n (pc := 79) X dX12_set_79 rfl 3 rfl ?_
          refine g_i2b (pc := 80) X dX12_set_80 ?_
          refine g_goto (pc := 81) (tgt := 100) X dX12_set_81 (by decide) ?_
          refine g_lv [(0, .ref (ad v0)), (1, .int v1), (2, .int v2)] [0, 1, 2] rfl ?_
          exact hL100 _ _ _ _ _ _ _ hf
      · have hf := itp hc hf
        refine g_aload_n (pc := 54) X dX12_set_54 rfl 0 rfl ?_
        refine g_iconst (v := (2 : Int32)) (pc := 55) X dX12_set_55 (by decide) ?_
        obtain ⟨r32, m33, hq31, hf⟩ := bnd2_some hf
        refine g_callVL (pc := 56) (As := [.int (2 : Int32)]) (rest := []) X mi_X12_finding im_X12_finding se_X12_finding (KMlt hk10 (by decide)) hk10 clX12 ml_X12_83 (cX12_finding_ct z ad v0 (2 : Int32) m15 m33 r32 hq31) rfl rfl (Nat.le_of_ble_eq_true rfl) ⟨rfl, rfl, by decide, by decide, Nat.le_refl _, Nat.le_refl _⟩ dX12_set_56 ?_
        obtain ⟨rfl, rfl⟩ := som2 hf
        exact hret _ _ dX12_set_59
    · have hf := itn hc hf
      refine g_aload_n (pc := 30) X dX12_set_30 rfl 0 rfl ?_
      refine g_iconst (v := (1 : Int32)) (pc := 31) X dX12_set_31 (by decide) ?_
      obtain ⟨r35, m36, hq34, hf⟩ := bnd2_some hf
      refine g_callVL (pc := 32) (As := [.int (1 : Int32)]) (rest := []) X mi_X12_finding im_X12_finding se_X12_finding (KMlt hk10 (by decide)) hk10 clX12 ml_X12_83 (cX12_finding_ct z ad v0 (1 : Int32) m15 m36 r35 hq34) rfl rfl (Nat.le_of_ble_eq_true rfl) ⟨rfl, rfl, by decide, by decide, Nat.le_refl _, Nat.le_refl _⟩ dX12_set_32 ?_
      obtain ⟨rfl, rfl⟩ := som2 hf
      exact hret _ _ dX12_set_35
  · have hf := itp hc hf
    refine g_ldc2 (pc := 12) X dX12_set_12 kl_X12_81 ?_
    obtain ⟨rfl, rfl⟩ := som2 hf
    exact hret _ _ dX12_set_15

noncomputable def fX12_copy_168 (v0 : Nat) (v1 : Int32) (v2 : Int32) (v3 : Int32) (v4 : Int32) (v5 : Int32) (v6 : Int32) (v7 : Int32) (s0 : Int32) (m : Mem) : Option ((Int32 × Mem) ⊕ (Mem)) := gp (KM v0 = 12) (bnd (m.2.2 v0 4) (fun q2 => gp (KM q2 = 14) (gp (inb ((((40 : Int32) * v1) + v2) + s0) (NM q2) = true) (gp (inb ((((40 : Int32) * v3) + v4) + s0) (NM q2) = true) (lt1 (uI m q2 ((((40 : Int32) * v3) + v4) + s0).toNatClampNeg (m.1 q2 ((((40 : Int32) * v1) + v2) + s0).toNatClampNeg)) (fun m7 => lt1 (v7 + 1) (fun v7_9 => some (.inl (v7_9, m7)))))))))
noncomputable def fX12_copy_144b (v0 : Nat) (v1 : Int32) (v2 : Int32) (v3 : Int32) (v4 : Int32) (v5 : Int32) (v6 : Int32) (v7 : Int32) (m : Mem) : Option ((Int32 × Mem) ⊕ (Mem)) := if v5 ≤ v7 then (some (.inr (m))) else (if v6 = 0 then (fX12_copy_168 v0 v1 v2 v3 v4 v5 v6 v7 ((v5 - (1 : Int32)) - v7) m) else (fX12_copy_168 v0 v1 v2 v3 v4 v5 v6 v7 v7 m))
noncomputable def fX12_copy_144 (v0 : Nat) (v1 : Int32) (v2 : Int32) (v3 : Int32) (v4 : Int32) (v5 : Int32) (v6 : Int32) (v7 : Int32) (m : Mem) : Option (Int64 × Mem) := bnd (iter (fun s => fX12_copy_144b v0 v1 v2 v3 v4 v5 v6 s.1 s.2) FU (v7, m)) (fun e => some (v5.toInt64, e))
noncomputable def fX12_copy_139 (v0 : Nat) (v1 : Int32) (v2 : Int32) (v3 : Int32) (v4 : Int32) (v5 : Int32) (s0 : Int32) (m : Mem) : Option (Int64 × Mem) := lt1 ((0 : Int32)) (fun v7_11 => fX12_copy_144 v0 v1 v2 v3 v4 v5 s0 v7_11 m)
noncomputable def fX12_copy_122 (v0 : Nat) (m : Mem) : Option (Int64 × Mem) := gp (KM v0 = 12) (bnd2 (fX12_finding v0 (2 : Int32) m) (fun r14 m15 => some (r14, m15)))
noncomputable def fX12_copy_46 (v0 : Nat) (m : Mem) : Option (Int64 × Mem) := gp (KM v0 = 12) (bnd2 (fX12_finding v0 (1 : Int32) m) (fun r18 m19 => some (r18, m19)))
noncomputable def fX12_copy (v0 : Nat) (v1 : Int32) (v2 : Int32) (v3 : Int32) (v4 : Int32) (v5 : Int32) (m : Mem) : Option (Int64 × Mem) := gp (KM v0 = 12) (lt1 (uI m v0 0 (0 : Int32)) (fun m22 => bnd (fX12_isRow v1) (fun r25 => if r25 = 0 then (some ((-9000000000000000001 : Int64), m22)) else (bnd (fX12_isRow v3) (fun r27 => if r27 = 0 then (some ((-9000000000000000001 : Int64), m22)) else (lt1 (uI m22 v0 1 (0 : Int32)) (fun m28 => bnd (m28.2.2 v0 2) (fun q30 => gp (KM q30 = 14) (gp (inb v1 (NM q30) = true) (if (m28.1 q30 v1.toNatClampNeg) < 0 then (fX12_copy_46 v0 m28) else (gp (inb v3 (NM q30) = true) (if 0 ≤ (m28.1 q30 v3.toNatClampNeg) then (gp (inb v1 (NM q30) = true) (gp (inb v3 (NM q30) = true) (if (m28.1 q30 v1.toNatClampNeg) = (m28.1 q30 v3.toNatClampNeg) then (if v2 < 0 then (fX12_copy_122 v0 m28) else (if v4 < 0 then (fX12_copy_122 v0 m28) else (if v5 < 0 then (fX12_copy_122 v0 m28) else (bnd (m28.2.2 v0 3) (fun q37 => gp (KM q37 = 14) (gp (inb v1 (NM q37) = true) (if ((m28.1 q37 v1.toNatClampNeg).toInt64) < (v2.toInt64 + v5.toInt64) then (fX12_copy_122 v0 m28) else (gp (inb v3 (NM q37) = true) (if (v4.toInt64 + v5.toInt64) ≤ ((m28.1 q37 v3.toNatClampNeg).toInt64) then (if v2 < v4 then (fX12_copy_139 v0 v1 v2 v3 v4 v5 (0 : Int32) m28) else (fX12_copy_139 v0 v1 v2 v3 v4 v5 (1 : Int32) m28)) else (fX12_copy_122 v0 m28)))))))))) else (bnd2 (fX12_finding v0 (5 : Int32) m28) (fun r43 m44 => some (r43, m44)))))) else (fX12_copy_46 v0 m28)))))))))))))
set_option maxHeartbeats 4000000 in
set_option maxRecDepth 100000 in
theorem cX12_copy_ct (z : Zx) (ad : Nat → Nat) (v0 : Nat) (v1 : Int32) (v2 : Int32) (v3 : Int32) (v4 : Int32) (v5 : Int32) (m m2 : Mem) (r : Int64) (hf : fX12_copy v0 v1 v2 v3 v4 v5 m = some (r, m2)) : CtL z wM yX12_copy cX12_copy 9 (some .long) (Rm 4) ad 17 [.ref (ad v0), .int v1, .int v2, .int v3, .int v4, .int v5] m m2 r := by
  refine ct_ofL mi_X12_copy rfl (Nat.le_of_ble_eq_true rfl) (fun x X hret => ?_)
  refine g_lv [(0, .ref (ad v0)), (1, .int v1), (2, .int v2), (3, .int v3), (4, .int v4), (5, .int v5)] [0, 1, 2, 3, 4, 5] rfl ?_
  have hL144 : ∀ (v0 : Nat) (v1 : Int32) (v2 : Int32) (v3 : Int32) (v4 : Int32) (v5 : Int32) (v6 : Int32) (v7 : Int32) (m : Mem), fX12_copy_144 v0 v1 v2 v3 v4 v5 v6 v7 m = some (r, m2) → G z wM x 9 0 0 ad 17 m 144 [(0, .ref (ad v0)), (1, .int v1), (2, .int v2), (3, .int v3), (4, .int v4), (5, .int v5), (6, .int v6), (7, .int v7)] [] := by
    intro v0 v1 v2 v3 v4 v5 v6 v7 m hf
    unfold fX12_copy_144 at hf
    obtain ⟨e144, hit144, hrest144⟩ := bnd_some hf
    refine iter_ok (Hd := fun (s : (Int32 × Mem)) => G z wM x 9 0 0 ad 17 s.2 144 [(0, .ref (ad v0)), (1, .int v1), (2, .int v2), (3, .int v3), (4, .int v4), (5, .int v5), (6, .int v6), (7, .int s.1)] []) ?_ FU (v7, m) hit144
    intro s ob144 hf hs144 he144
    obtain ⟨v7, m⟩ := s
    have hf : fX12_copy_144b v0 v1 v2 v3 v4 v5 v6 v7 m = some ob144 := hf
    have hL168 : ∀ (v7 : Int32) (s0 : Int32) (m : Mem), fX12_copy_168 v0 v1 v2 v3 v4 v5 v6 v7 s0 m = some ob144 → G z wM x 9 0 0 ad 17 m 168 [(0, .ref (ad v0)), (1, .int v1), (2, .int v2), (3, .int v3), (4, .int v4), (5, .int v5), (6, .int v6), (7, .int v7)] [.int s0] := by
      intro v7 s0 m hf
      unfold fX12_copy_168 at hf
      refine g_istore (lv2 := [(0, .ref (ad v0)), (1, .int v1), (2, .int v2), (3, .int v3), (4, .int v4), (5, .int v5), (6, .int v6), (7, .int v7), (8, .int s0)]) (pc := 168) X dX12_copy_168 (by decide) [1, 2, 3, 4, 5, 6, 7, 8, 0] rfl ?_
      refine g_aload_n (pc := 170) X dX12_copy_170 rfl 0 rfl ?_
      obtain ⟨hk1, hf⟩ := gp_some hf
      obtain ⟨q2, hr3, hf⟩ := bnd_some hf
      refine g_getR (pc := 171) X fl_X12_16 (KMlt hk1 (by decide)) hk1 hr3 dX12_copy_171 ?_
      refine g_bipush (v := (40 : Int32)) (pc := 174) X dX12_copy_174 (by decide) ?_
      refine g_iload_n (pc := 176) X dX12_copy_176 rfl 3 rfl ?_
      refine g_imul (pc := 177) X dX12_copy_177 ?_
      refine g_iload (pc := 178) X dX12_copy_178 4 rfl ?_
      refine g_iadd (pc := 180) X dX12_copy_180 ?_
      refine g_iload (pc := 181) X dX12_copy_181 8 rfl ?_
      refine g_iadd (pc := 183) X dX12_copy_183 ?_
      refine g_aload_n (pc := 184) X dX12_copy_184 rfl 0 rfl ?_
      refine g_getR (pc := 185) X fl_X12_16 (KMlt hk1 (by decide)) hk1 hr3 dX12_copy_185 ?_
      refine g_bipush (v := (40 : Int32)) (pc := 188) X dX12_copy_188 (by decide) ?_
      refine g_iload_n (pc := 190) X dX12_copy_190 rfl 1 rfl ?_
      refine g_imul (pc := 191) X dX12_copy_191 ?_
      refine g_iload_n (pc := 192) X dX12_copy_192 rfl 2 rfl ?_
      refine g_iadd (pc := 193) X dX12_copy_193 ?_
      refine g_iload (pc := 194) X dX12_copy_194 8 rfl ?_
      refine g_iadd (pc := 196) X dX12_copy_196 ?_
      obtain ⟨hk4, hf⟩ := gp_some hf
      obtain ⟨hi5, hf⟩ := gp_some hf
      refine g_iald (pc := 197) X (KMlt hk4 (by decide)) hk4 hi5 dX12_copy_197 ?_
      obtain ⟨hi6, hf⟩ := gp_some hf
      refine g_iast (pc := 198) X (KMlt hk4 (by decide)) hk4 hi6 dX12_copy_198 ?_
      obtain ⟨m7, e8, hf⟩ := lt1_some hf
      refine g_mem e8 ?_
      obtain ⟨v7_9, e10, hf⟩ := lt1_some hf
      refine g_iinc (v2 := v7_9) (lv2 := [(0, .ref (ad v0)), (1, .int v1), (2, .int v2), (3, .int v3), (4, .int v4), (5, .int v5), (6, .int v6), (7, .int v7_9), (8, .int s0)]) (pc := 199) X dX12_copy_199 7 rfl (by rw [e10]; rfl) (by decide) [1, 2, 3, 4, 5, 6, 7, 0, 8] rfl ?_
      refine g_goto (pc := 202) (tgt := 144) X dX12_copy_202 (by decide) ?_
      refine g_lv [(0, .ref (ad v0)), (1, .int v1), (2, .int v2), (3, .int v3), (4, .int v4), (5, .int v5), (6, .int v6), (7, .int v7_9)] [0, 1, 2, 3, 4, 5, 6, 7] rfl ?_
      exact hs144 (v7_9, m7) (Option.some.inj hf).symm
    unfold fX12_copy_144b at hf
    refine g_iload (pc := 144) X dX12_copy_144 7 rfl ?_
    refine g_iload (pc := 146) X dX12_copy_146 5 rfl ?_
    refine g_icmp_ge (pc := 148) (tgt := 205) X dX12_copy_148 (by decide) (fun hc => ?_) (fun hc => ?_)
    · have hf := itp hc hf
      have he144 := he144 _ (Option.some.inj hf).symm
      subst he144
      have hf : some (v5.toInt64, m) = some (r, m2) := hrest144
      refine g_iload (pc := 205) X dX12_copy_205 5 rfl ?_
      refine g_i2l (pc := 207) X dX12_copy_207 ?_
      obtain ⟨rfl, rfl⟩ := som2 hf
      exact hret _ _ dX12_copy_208
    · have hf := itn hc hf
      refine g_iload (pc := 151) X dX12_copy_151 6 rfl ?_
      refine g_if_eq (pc := 153) (tgt := 161) X dX12_copy_153 (by decide) (fun hc => ?_) (fun hc => ?_)
      · have hf := itp hc hf
        refine g_iload (pc := 161) X dX12_copy_161 5 rfl ?_
        refine g_iconst (v := (1 : Int32)) (pc := 163) X dX12_copy_163 (by decide) ?_
        refine g_isub (pc := 164) X dX12_copy_164 ?_
        refine g_iload (pc := 165) X dX12_copy_165 7 rfl ?_
        refine g_isub (pc := 167) X dX12_copy_167 ?_
        exact hL168 _ _ _ hf
      · have hf := itn hc hf
        refine g_iload (pc := 156) X dX12_copy_156 7 rfl ?_
        refine g_goto (pc := 158) (tgt := 168) X dX12_copy_158 (by decide) ?_
        exact hL168 _ _ _ hf
  have hL139 : ∀ (v0 : Nat) (v1 : Int32) (v2 : Int32) (v3 : Int32) (v4 : Int32) (v5 : Int32) (s0 : Int32) (m : Mem), fX12_copy_139 v0 v1 v2 v3 v4 v5 s0 m = some (r, m2) → G z wM x 9 0 0 ad 17 m 139 [(0, .ref (ad v0)), (1, .int v1), (2, .int v2), (3, .int v3), (4, .int v4), (5, .int v5)] [.int s0] := by
    intro v0 v1 v2 v3 v4 v5 s0 m hf
    unfold fX12_copy_139 at hf
    refine g_istore (lv2 := [(0, .ref (ad v0)), (1, .int v1), (2, .int v2), (3, .int v3), (4, .int v4), (5, .int v5), (6, .int s0)]) (pc := 139) X dX12_copy_139 (by decide) [1, 2, 3, 4, 5, 6, 0] rfl ?_
    refine g_iconst (v := (0 : Int32)) (pc := 141) X dX12_copy_141 (by decide) ?_
    obtain ⟨v7_11, e12, hf⟩ := lt1_some hf
    refine g_topi e12 ?_
    refine g_istore (lv2 := [(0, .ref (ad v0)), (1, .int v1), (2, .int v2), (3, .int v3), (4, .int v4), (5, .int v5), (6, .int s0), (7, .int v7_11)]) (pc := 142) X dX12_copy_142 (by decide) [1, 2, 3, 4, 5, 6, 7, 0] rfl ?_
    exact hL144 _ _ _ _ _ _ _ _ _ hf
  have hL122 : ∀ (v0 : Nat) (m : Mem), fX12_copy_122 v0 m = some (r, m2) → G z wM x 9 0 0 ad 17 m 122 [(0, .ref (ad v0))] [] := by
    intro v0 m hf
    unfold fX12_copy_122 at hf
    refine g_aload_n (pc := 122) X dX12_copy_122 rfl 0 rfl ?_
    refine g_iconst (v := (2 : Int32)) (pc := 123) X dX12_copy_123 (by decide) ?_
    obtain ⟨hk16, hf⟩ := gp_some hf
    obtain ⟨r14, m15, hq13, hf⟩ := bnd2_some hf
    refine g_callVL (pc := 124) (As := [.int (2 : Int32)]) (rest := []) X mi_X12_finding im_X12_finding se_X12_finding (KMlt hk16 (by decide)) hk16 clX12 ml_X12_83 (cX12_finding_ct z ad v0 (2 : Int32) m m15 r14 hq13) rfl rfl (Nat.le_of_ble_eq_true rfl) ⟨rfl, rfl, by decide, by decide, Nat.le_refl _, Nat.le_refl _⟩ dX12_copy_124 ?_
    obtain ⟨rfl, rfl⟩ := som2 hf
    exact hret _ _ dX12_copy_127
  have hL46 : ∀ (v0 : Nat) (m : Mem), fX12_copy_46 v0 m = some (r, m2) → G z wM x 9 0 0 ad 17 m 46 [(0, .ref (ad v0))] [] := by
    intro v0 m hf
    unfold fX12_copy_46 at hf
    refine g_aload_n (pc := 46) X dX12_copy_46 rfl 0 rfl ?_
    refine g_iconst (v := (1 : Int32)) (pc := 47) X dX12_copy_47 (by decide) ?_
    obtain ⟨hk20, hf⟩ := gp_some hf
    obtain ⟨r18, m19, hq17, hf⟩ := bnd2_some hf
    refine g_callVL (pc := 48) (As := [.int (1 : Int32)]) (rest := []) X mi_X12_finding im_X12_finding se_X12_finding (KMlt hk20 (by decide)) hk20 clX12 ml_X12_83 (cX12_finding_ct z ad v0 (1 : Int32) m m19 r18 hq17) rfl rfl (Nat.le_of_ble_eq_true rfl) ⟨rfl, rfl, by decide, by decide, Nat.le_refl _, Nat.le_refl _⟩ dX12_copy_48 ?_
    obtain ⟨rfl, rfl⟩ := som2 hf
    exact hret _ _ dX12_copy_51
  unfold fX12_copy at hf
  refine g_aload_n (pc := 0) X dX12_copy_0 rfl 0 rfl ?_
  refine g_iconst (v := (0 : Int32)) (pc := 1) X dX12_copy_1 (by decide) ?_
  obtain ⟨hk21, hf⟩ := gp_some hf
  refine g_putI (pc := 2) X fl_X12_60 (KMlt hk21 (by decide)) hk21 rfl rfl dX12_copy_2 ?_
  obtain ⟨m22, e23, hf⟩ := lt1_some hf
  refine g_mem e23 ?_
  refine g_iload_n (pc := 5) X dX12_copy_5 rfl 1 rfl ?_
  obtain ⟨r25, hq24, hf⟩ := bnd_some hf
  refine g_callSI (pc := 6) (As := [.int v1]) (rest := []) X mi_X12_isRow sm_X12_isRow ml_X12_75 (cX12_isRow_ct z ad v1 m22 r25 hq24) rfl rfl (Nat.le_of_ble_eq_true rfl) ⟨rfl, rfl, by decide, by decide, Nat.le_refl _, Nat.le_refl _⟩ dX12_copy_6 ?_
  refine g_if_eq (pc := 9) (tgt := 19) X dX12_copy_9 (by decide) (fun hc => ?_) (fun hc => ?_)
  · have hf := itp hc hf
    refine g_ldc2 (pc := 19) X dX12_copy_19 kl_X12_81 ?_
    obtain ⟨rfl, rfl⟩ := som2 hf
    exact hret _ _ dX12_copy_22
  · have hf := itn hc hf
    refine g_iload_n (pc := 12) X dX12_copy_12 rfl 3 rfl ?_
    obtain ⟨r27, hq26, hf⟩ := bnd_some hf
    refine g_callSI (pc := 13) (As := [.int v3]) (rest := []) X mi_X12_isRow sm_X12_isRow ml_X12_75 (cX12_isRow_ct z ad v3 m22 r27 hq26) rfl rfl (Nat.le_of_ble_eq_true rfl) ⟨rfl, rfl, by decide, by decide, Nat.le_refl _, Nat.le_refl _⟩ dX12_copy_13 ?_
    refine g_if_ne (pc := 16) (tgt := 23) X dX12_copy_16 (by decide) (fun hc => ?_) (fun hc => ?_)
    · have hf := itn hc hf
      refine g_aload_n (pc := 23) X dX12_copy_23 rfl 0 rfl ?_
      refine g_iconst (v := (0 : Int32)) (pc := 24) X dX12_copy_24 (by decide) ?_
      refine g_putI (pc := 25) X fl_X12_64 (KMlt hk21 (by decide)) hk21 rfl rfl dX12_copy_25 ?_
      obtain ⟨m28, e29, hf⟩ := lt1_some hf
      refine g_mem e29 ?_
      refine g_aload_n (pc := 28) X dX12_copy_28 rfl 0 rfl ?_
      obtain ⟨q30, hr31, hf⟩ := bnd_some hf
      refine g_getR (pc := 29) X fl_X12_9 (KMlt hk21 (by decide)) hk21 hr31 dX12_copy_29 ?_
      refine g_iload_n (pc := 32) X dX12_copy_32 rfl 1 rfl ?_
      obtain ⟨hk32, hf⟩ := gp_some hf
      obtain ⟨hi33, hf⟩ := gp_some hf
      refine g_iald (pc := 33) X (KMlt hk32 (by decide)) hk32 hi33 dX12_copy_33 ?_
      refine g_if_lt (pc := 34) (tgt := 46) X dX12_copy_34 (by decide) (fun hc => ?_) (fun hc => ?_)
      · have hf := itp hc hf
        refine g_lv [(0, .ref (ad v0))] [0] rfl ?_
        exact hL46 _ _ hf
      · have hf := itn hc hf
        refine g_aload_n (pc := 37) X dX12_copy_37 rfl 0 rfl ?_
        refine g_getR (pc := 38) X fl_X12_9 (KMlt hk21 (by decide)) hk21 hr31 dX12_copy_38 ?_
        refine g_iload_n (pc := 41) X dX12_copy_41 rfl 3 rfl ?_
        obtain ⟨hi34, hf⟩ := gp_some hf
        refine g_iald (pc := 42) X (KMlt hk32 (by decide)) hk32 hi34 dX12_copy_42 ?_
        refine g_if_ge (pc := 43) (tgt := 52) X dX12_copy_43 (by decide) (fun hc => ?_) (fun hc => ?_)
        · have hf := itp hc hf
          refine g_aload_n (pc := 52) X dX12_copy_52 rfl 0 rfl ?_
          refine g_getR (pc := 53) X fl_X12_9 (KMlt hk21 (by decide)) hk21 hr31 dX12_copy_53 ?_
          refine g_iload_n (pc := 56) X dX12_copy_56 rfl 1 rfl ?_
          obtain ⟨hi35, hf⟩ := gp_some hf
          refine g_iald (pc := 57) X (KMlt hk32 (by decide)) hk32 hi35 dX12_copy_57 ?_
          refine g_aload_n (pc := 58) X dX12_copy_58 rfl 0 rfl ?_
          refine g_getR (pc := 59) X fl_X12_9 (KMlt hk21 (by decide)) hk21 hr31 dX12_copy_59 ?_
          refine g_iload_n (pc := 62) X dX12_copy_62 rfl 3 rfl ?_
          obtain ⟨hi36, hf⟩ := gp_some hf
          refine g_iald (pc := 63) X (KMlt hk32 (by decide)) hk32 hi36 dX12_copy_63 ?_
          refine g_icmp_eq (pc := 64) (tgt := 73) X dX12_copy_64 (by decide) (fun hc => ?_) (fun hc => ?_)
          · have hf := itp hc hf
            refine g_iload_n (pc := 73) X dX12_copy_73 rfl 2 rfl ?_
            refine g_if_lt (pc := 74) (tgt := 122) X dX12_copy_74 (by decide) (fun hc => ?_) (fun hc => ?_)
            · have hf := itp hc hf
              refine g_lv [(0, .ref (ad v0))] [0] rfl ?_
              exact hL122 _ _ hf
            · have hf := itn hc hf
              refine g_iload (pc := 77) X dX12_copy_77 4 rfl ?_
              refine g_if_lt (pc := 79) (tgt := 122) X dX12_copy_79 (by decide) (fun hc => ?_) (fun hc => ?_)
              · have hf := itp hc hf
                refine g_lv [(0, .ref (ad v0))] [0] rfl ?_
                exact hL122 _ _ hf
              · have hf := itn hc hf
                refine g_iload (pc := 82) X dX12_copy_82 5 rfl ?_
                refine g_if_lt (pc := 84) (tgt := 122) X dX12_copy_84 (by decide) (fun hc => ?_) (fun hc => ?_)
                · have hf := itp hc hf
                  refine g_lv [(0, .ref (ad v0))] [0] rfl ?_
                  exact hL122 _ _ hf
                · have hf := itn hc hf
                  refine g_iload_n (pc := 87) X dX12_copy_87 rfl 2 rfl ?_
                  refine g_i2l (pc := 88) X dX12_copy_88 ?_
                  refine g_iload (pc := 89) X dX12_copy_89 5 rfl ?_
                  refine g_i2l (pc := 91) X dX12_copy_91 ?_
                  refine g_ladd (pc := 92) X dX12_copy_92 ?_
                  refine g_aload_n (pc := 93) X dX12_copy_93 rfl 0 rfl ?_
                  obtain ⟨q37, hr38, hf⟩ := bnd_some hf
                  refine g_getR (pc := 94) X fl_X12_13 (KMlt hk21 (by decide)) hk21 hr38 dX12_copy_94 ?_
                  refine g_iload_n (pc := 97) X dX12_copy_97 rfl 1 rfl ?_
                  obtain ⟨hk39, hf⟩ := gp_some hf
                  obtain ⟨hi40, hf⟩ := gp_some hf
                  refine g_iald (pc := 98) X (KMlt hk39 (by decide)) hk39 hi40 dX12_copy_98 ?_
                  refine g_i2l (pc := 99) X dX12_copy_99 ?_
                  refine g_lcmp_gt (pc := 100) (tgt := 122) X dX12_copy_100 dX12_copy_101 (by decide) (fun hc => ?_) (fun hc => ?_)
                  · have hf := itp hc hf
                    refine g_lv [(0, .ref (ad v0))] [0] rfl ?_
                    exact hL122 _ _ hf
                  · have hf := itn hc hf
                    refine g_iload (pc := 104) X dX12_copy_104 4 rfl ?_
                    refine g_i2l (pc := 106) X dX12_copy_106 ?_
                    refine g_iload (pc := 107) X dX12_copy_107 5 rfl ?_
                    refine g_i2l (pc := 109) X dX12_copy_109 ?_
                    refine g_ladd (pc := 110) X dX12_copy_110 ?_
                    refine g_aload_n (pc := 111) X dX12_copy_111 rfl 0 rfl ?_
                    refine g_getR (pc := 112) X fl_X12_13 (KMlt hk21 (by decide)) hk21 hr38 dX12_copy_112 ?_
                    refine g_iload_n (pc := 115) X dX12_copy_115 rfl 3 rfl ?_
                    obtain ⟨hi41, hf⟩ := gp_some hf
                    refine g_iald (pc := 116) X (KMlt hk39 (by decide)) hk39 hi41 dX12_copy_116 ?_
                    refine g_i2l (pc := 117) X dX12_copy_117 ?_
                    refine g_lcmp_le (pc := 118) (tgt := 128) X dX12_copy_118 dX12_copy_119 (by decide) (fun hc => ?_) (fun hc => ?_)
                    · have hf := itp hc hf
                      refine g_iload_n (pc := 128) X dX12_copy_128 rfl 2 rfl ?_
                      refine g_iload (pc := 129) X dX12_copy_129 4 rfl ?_
                      refine g_icmp_lt (pc := 131) (tgt := 138) X dX12_copy_131 (by decide) (fun hc => ?_) (fun hc => ?_)
                      · have hf := itp hc hf
                        refine g_iconst (v := (0 : Int32)) (pc := 138) X dX12_copy_138 (by decide) ?_
                        exact hL139 _ _ _ _ _ _ _ _ hf
                      · have hf := itn hc hf
                        refine g_iconst (v := (1 : Int32)) (pc := 134) X dX12_copy_134 (by decide) ?_
                        refine g_goto (pc := 135) (tgt := 139) X dX12_copy_135 (by decide) ?_
                        exact hL139 _ _ _ _ _ _ _ _ hf
                    · have hf := itn hc hf
                      refine g_lv [(0, .ref (ad v0))] [0] rfl ?_
                      exact hL122 _ _ hf
          · have hf := itn hc hf
            refine g_aload_n (pc := 67) X dX12_copy_67 rfl 0 rfl ?_
            refine g_iconst (v := (5 : Int32)) (pc := 68) X dX12_copy_68 (by decide) ?_
            obtain ⟨r43, m44, hq42, hf⟩ := bnd2_some hf
            refine g_callVL (pc := 69) (As := [.int (5 : Int32)]) (rest := []) X mi_X12_finding im_X12_finding se_X12_finding (KMlt hk21 (by decide)) hk21 clX12 ml_X12_83 (cX12_finding_ct z ad v0 (5 : Int32) m28 m44 r43 hq42) rfl rfl (Nat.le_of_ble_eq_true rfl) ⟨rfl, rfl, by decide, by decide, Nat.le_refl _, Nat.le_refl _⟩ dX12_copy_69 ?_
            obtain ⟨rfl, rfl⟩ := som2 hf
            exact hret _ _ dX12_copy_72
        · have hf := itn hc hf
          refine g_lv [(0, .ref (ad v0))] [0] rfl ?_
          exact hL46 _ _ hf
    · have hf := itp hc hf
      refine g_ldc2 (pc := 19) X dX12_copy_19 kl_X12_81 ?_
      obtain ⟨rfl, rfl⟩ := som2 hf
      exact hret _ _ dX12_copy_22

noncomputable def fX12_drop (v0 : Nat) (v1 : Int32) (m : Mem) : Option (Int64 × Mem) := gp (KM v0 = 12) (lt1 (uI m v0 0 (0 : Int32)) (fun m2 => bnd (fX12_isRow v1) (fun r5 => if r5 = 0 then (some ((-9000000000000000001 : Int64), m2)) else (lt1 (uI m2 v0 1 (0 : Int32)) (fun m6 => bnd (m6.2.2 v0 2) (fun q8 => gp (KM q8 = 14) (gp (inb v1 (NM q8) = true) (if 0 ≤ (m6.1 q8 v1.toNatClampNeg) then (gp (inb v1 (NM q8) = true) (lt1 (uI m6 q8 v1.toNatClampNeg (-1 : Int32)) (fun m13 => bnd (m13.2.2 v0 3) (fun q15 => gp (KM q15 = 14) (gp (inb v1 (NM q15) = true) (some ((m13.1 q15 v1.toNatClampNeg).toInt64, m13))))))) else (bnd2 (fX12_finding v0 (1 : Int32) m6) (fun r20 m21 => some (r20, m21)))))))))))
set_option maxHeartbeats 4000000 in
set_option maxRecDepth 100000 in
theorem cX12_drop_ct (z : Zx) (ad : Nat → Nat) (v0 : Nat) (v1 : Int32) (m m2 : Mem) (r : Int64) (hf : fX12_drop v0 v1 m = some (r, m2)) : CtL z wM yX12_drop cX12_drop 2 (some .long) (Rm 4) ad 17 [.ref (ad v0), .int v1] m m2 r := by
  refine ct_ofL mi_X12_drop rfl (Nat.le_of_ble_eq_true rfl) (fun x X hret => ?_)
  refine g_lv [(0, .ref (ad v0)), (1, .int v1)] [0, 1] rfl ?_
  unfold fX12_drop at hf
  refine g_aload_n (pc := 0) X dX12_drop_0 rfl 0 rfl ?_
  refine g_iconst (v := (0 : Int32)) (pc := 1) X dX12_drop_1 (by decide) ?_
  obtain ⟨hk1, hf⟩ := gp_some hf
  refine g_putI (pc := 2) X fl_X12_60 (KMlt hk1 (by decide)) hk1 rfl rfl dX12_drop_2 ?_
  obtain ⟨m2, e3, hf⟩ := lt1_some hf
  refine g_mem e3 ?_
  refine g_iload_n (pc := 5) X dX12_drop_5 rfl 1 rfl ?_
  obtain ⟨r5, hq4, hf⟩ := bnd_some hf
  refine g_callSI (pc := 6) (As := [.int v1]) (rest := []) X mi_X12_isRow sm_X12_isRow ml_X12_75 (cX12_isRow_ct z ad v1 m2 r5 hq4) rfl rfl (Nat.le_of_ble_eq_true rfl) ⟨rfl, rfl, by decide, by decide, Nat.le_refl _, Nat.le_refl _⟩ dX12_drop_6 ?_
  refine g_if_ne (pc := 9) (tgt := 16) X dX12_drop_9 (by decide) (fun hc => ?_) (fun hc => ?_)
  · have hf := itn hc hf
    refine g_aload_n (pc := 16) X dX12_drop_16 rfl 0 rfl ?_
    refine g_iconst (v := (0 : Int32)) (pc := 17) X dX12_drop_17 (by decide) ?_
    refine g_putI (pc := 18) X fl_X12_64 (KMlt hk1 (by decide)) hk1 rfl rfl dX12_drop_18 ?_
    obtain ⟨m6, e7, hf⟩ := lt1_some hf
    refine g_mem e7 ?_
    refine g_aload_n (pc := 21) X dX12_drop_21 rfl 0 rfl ?_
    obtain ⟨q8, hr9, hf⟩ := bnd_some hf
    refine g_getR (pc := 22) X fl_X12_9 (KMlt hk1 (by decide)) hk1 hr9 dX12_drop_22 ?_
    refine g_iload_n (pc := 25) X dX12_drop_25 rfl 1 rfl ?_
    obtain ⟨hk10, hf⟩ := gp_some hf
    obtain ⟨hi11, hf⟩ := gp_some hf
    refine g_iald (pc := 26) X (KMlt hk10 (by decide)) hk10 hi11 dX12_drop_26 ?_
    refine g_if_ge (pc := 27) (tgt := 36) X dX12_drop_27 (by decide) (fun hc => ?_) (fun hc => ?_)
    · have hf := itp hc hf
      refine g_aload_n (pc := 36) X dX12_drop_36 rfl 0 rfl ?_
      refine g_getR (pc := 37) X fl_X12_9 (KMlt hk1 (by decide)) hk1 hr9 dX12_drop_37 ?_
      refine g_iload_n (pc := 40) X dX12_drop_40 rfl 1 rfl ?_
      refine g_iconst (v := (-1 : Int32)) (pc := 41) X dX12_drop_41 (by decide) ?_
      obtain ⟨hi12, hf⟩ := gp_some hf
      refine g_iast (pc := 42) X (KMlt hk10 (by decide)) hk10 hi12 dX12_drop_42 ?_
      obtain ⟨m13, e14, hf⟩ := lt1_some hf
      refine g_mem e14 ?_
      refine g_aload_n (pc := 43) X dX12_drop_43 rfl 0 rfl ?_
      obtain ⟨q15, hr16, hf⟩ := bnd_some hf
      refine g_getR (pc := 44) X fl_X12_13 (KMlt hk1 (by decide)) hk1 hr16 dX12_drop_44 ?_
      refine g_iload_n (pc := 47) X dX12_drop_47 rfl 1 rfl ?_
      obtain ⟨hk17, hf⟩ := gp_some hf
      obtain ⟨hi18, hf⟩ := gp_some hf
      refine g_iald (pc := 48) X (KMlt hk17 (by decide)) hk17 hi18 dX12_drop_48 ?_
      refine g_i2l (pc := 49) X dX12_drop_49 ?_
      obtain ⟨rfl, rfl⟩ := som2 hf
      exact hret _ _ dX12_drop_50
    · have hf := itn hc hf
      refine g_aload_n (pc := 30) X dX12_drop_30 rfl 0 rfl ?_
      refine g_iconst (v := (1 : Int32)) (pc := 31) X dX12_drop_31 (by decide) ?_
      obtain ⟨r20, m21, hq19, hf⟩ := bnd2_some hf
      refine g_callVL (pc := 32) (As := [.int (1 : Int32)]) (rest := []) X mi_X12_finding im_X12_finding se_X12_finding (KMlt hk1 (by decide)) hk1 clX12 ml_X12_83 (cX12_finding_ct z ad v0 (1 : Int32) m6 m21 r20 hq19) rfl rfl (Nat.le_of_ble_eq_true rfl) ⟨rfl, rfl, by decide, by decide, Nat.le_refl _, Nat.le_refl _⟩ dX12_drop_32 ?_
      obtain ⟨rfl, rfl⟩ := som2 hf
      exact hret _ _ dX12_drop_35
  · have hf := itp hc hf
    refine g_ldc2 (pc := 12) X dX12_drop_12 kl_X12_81 ?_
    obtain ⟨rfl, rfl⟩ := som2 hf
    exact hret _ _ dX12_drop_15

noncomputable def fX12_feed_84 (v0 : Nat) (m : Mem) : Option (Int64 × Mem) := gp (KM v0 = 12) (some ((m.1 v0 10).toInt64, m))
noncomputable def fX12_feed_42b (v0 : Nat) (v1 : Int64) (v4 : Int32) (m : Mem) : Option ((Int32 × Mem) ⊕ (Mem)) := if v4 < 0 then (some (.inr (m))) else (gp (KM v0 = 12) (bnd (m.2.2 v0 9) (fun q3 => gp (KM q3 = 14) (gp (inb (m.1 v0 10) (NM q3) = true) (lt1 (uI m q3 (m.1 v0 10).toNatClampNeg (((v1 >>> (((8 : Int32) * v4).toInt64 &&& 63)) &&& (255 : Int64)).toInt32)) (fun m7 => lt1 (uI m7 v0 10 ((m7.1 v0 10) + (1 : Int32))) (fun m9 => lt1 (v4 + (-1)) (fun v4_11 => some (.inl (v4_11, m9))))))))))
noncomputable def fX12_feed_42 (v0 : Nat) (v1 : Int64) (v4 : Int32) (m : Mem) : Option (Int64 × Mem) := bnd (iter (fun s => fX12_feed_42b v0 v1 s.1 s.2) FU (v4, m)) (fun e => fX12_feed_84 v0 e)
noncomputable def fX12_feed (v0 : Nat) (v1 : Int64) (v3 : Int32) (m : Mem) : Option (Int64 × Mem) := gp (KM v0 = 12) (lt1 (uI m v0 0 (0 : Int32)) (fun m14 => bnd (fX12_in v3.toInt64 (1 : Int64) (8 : Int64)) (fun r17 => if r17 = 0 then (some ((-9000000000000000001 : Int64), m14)) else (if ((m14.1 v0 10) + v3) ≤ (600 : Int32) then (lt1 (v3 - (1 : Int32)) (fun v4_18 => fX12_feed_42 v0 v1 v4_18 m14)) else (some ((-9000000000000000003 : Int64), m14))))))
set_option maxHeartbeats 4000000 in
set_option maxRecDepth 100000 in
theorem cX12_feed_ct (z : Zx) (ad : Nat → Nat) (v0 : Nat) (v1 : Int64) (v3 : Int32) (m m2 : Mem) (r : Int64) (hf : fX12_feed v0 v1 v3 m = some (r, m2)) : CtL z wM yX12_feed cX12_feed 5 (some .long) (Rm 3) ad 17 [.ref (ad v0), .long v1, .int v3] m m2 r := by
  refine ct_ofL mi_X12_feed rfl (Nat.le_of_ble_eq_true rfl) (fun x X hret => ?_)
  refine g_lv [(0, .ref (ad v0)), (1, .long v1), (3, .int v3)] [0, 1, 2] rfl ?_
  have hL84 : ∀ (v0 : Nat) (m : Mem), fX12_feed_84 v0 m = some (r, m2) → G z wM x 5 0 0 ad 17 m 84 [(0, .ref (ad v0))] [] := by
    intro v0 m hf
    unfold fX12_feed_84 at hf
    refine g_aload_n (pc := 84) X dX12_feed_84 rfl 0 rfl ?_
    obtain ⟨hk1, hf⟩ := gp_some hf
    refine g_getI (pc := 85) X fl_X12_89 (KMlt hk1 (by decide)) hk1 dX12_feed_85 ?_
    refine g_i2l (pc := 88) X dX12_feed_88 ?_
    obtain ⟨rfl, rfl⟩ := som2 hf
    exact hret _ _ dX12_feed_89
  have hL42 : ∀ (v0 : Nat) (v1 : Int64) (v4 : Int32) (m : Mem), fX12_feed_42 v0 v1 v4 m = some (r, m2) → G z wM x 5 0 0 ad 17 m 42 [(0, .ref (ad v0)), (1, .long v1), (4, .int v4)] [] := by
    intro v0 v1 v4 m hf
    unfold fX12_feed_42 at hf
    obtain ⟨e42, hit42, hrest42⟩ := bnd_some hf
    refine iter_ok (Hd := fun (s : (Int32 × Mem)) => G z wM x 5 0 0 ad 17 s.2 42 [(0, .ref (ad v0)), (1, .long v1), (4, .int s.1)] []) ?_ FU (v4, m) hit42
    intro s ob42 hf hs42 he42
    obtain ⟨v4, m⟩ := s
    have hf : fX12_feed_42b v0 v1 v4 m = some ob42 := hf
    unfold fX12_feed_42b at hf
    refine g_iload (pc := 42) X dX12_feed_42 2 rfl ?_
    refine g_if_lt (pc := 44) (tgt := 84) X dX12_feed_44 (by decide) (fun hc => ?_) (fun hc => ?_)
    · have hf := itp hc hf
      have he42 := he42 _ (Option.some.inj hf).symm
      subst he42
      have hf : fX12_feed_84 v0 m = some (r, m2) := hrest42
      refine g_lv [(0, .ref (ad v0))] [0] rfl ?_
      exact hL84 _ _ hf
    · have hf := itn hc hf
      refine g_aload_n (pc := 47) X dX12_feed_47 rfl 0 rfl ?_
      obtain ⟨hk2, hf⟩ := gp_some hf
      obtain ⟨q3, hr4, hf⟩ := bnd_some hf
      refine g_getR (pc := 48) X fl_X12_28 (KMlt hk2 (by decide)) hk2 hr4 dX12_feed_48 ?_
      refine g_aload_n (pc := 51) X dX12_feed_51 rfl 0 rfl ?_
      refine g_getI (pc := 52) X fl_X12_89 (KMlt hk2 (by decide)) hk2 dX12_feed_52 ?_
      refine g_lload_n (pc := 55) X dX12_feed_55 rfl 1 rfl ?_
      refine g_bipush (v := (8 : Int32)) (pc := 56) X dX12_feed_56 (by decide) ?_
      refine g_iload (pc := 58) X dX12_feed_58 2 rfl ?_
      refine g_imul (pc := 60) X dX12_feed_60 ?_
      refine g_lshr (pc := 61) X dX12_feed_61 ?_
      refine g_ldc2 (pc := 62) X dX12_feed_62 kl_X12_94 ?_
      refine g_land (pc := 65) X dX12_feed_65 ?_
      refine g_l2i (pc := 66) X dX12_feed_66 ?_
      obtain ⟨hk5, hf⟩ := gp_some hf
      obtain ⟨hi6, hf⟩ := gp_some hf
      refine g_iast (pc := 67) X (KMlt hk5 (by decide)) hk5 hi6 dX12_feed_67 ?_
      obtain ⟨m7, e8, hf⟩ := lt1_some hf
      refine g_mem e8 ?_
      refine g_aload_n (pc := 68) X dX12_feed_68 rfl 0 rfl ?_
      refine g_dup (pc := 69) X dX12_feed_69 rfl ?_
      refine g_getI (pc := 70) X fl_X12_89 (KMlt hk2 (by decide)) hk2 dX12_feed_70 ?_
      refine g_iconst (v := (1 : Int32)) (pc := 73) X dX12_feed_73 (by decide) ?_
      refine g_iadd (pc := 74) X dX12_feed_74 ?_
      refine g_putI (pc := 75) X fl_X12_89 (KMlt hk2 (by decide)) hk2 rfl rfl dX12_feed_75 ?_
      obtain ⟨m9, e10, hf⟩ := lt1_some hf
      refine g_mem e10 ?_
      obtain ⟨v4_11, e12, hf⟩ := lt1_some hf
      refine g_iinc (v2 := v4_11) (lv2 := [(0, .ref (ad v0)), (1, .long v1), (4, .int v4_11)]) (pc := 78) X dX12_feed_78 2 rfl (by rw [e12]; rfl) (by decide) [1, 2, 0] rfl ?_
      refine g_goto (pc := 81) (tgt := 42) X dX12_feed_81 (by decide) ?_
      exact hs42 (v4_11, m9) (Option.some.inj hf).symm
  unfold fX12_feed at hf
  refine g_aload_n (pc := 0) X dX12_feed_0 rfl 0 rfl ?_
  refine g_iconst (v := (0 : Int32)) (pc := 1) X dX12_feed_1 (by decide) ?_
  obtain ⟨hk13, hf⟩ := gp_some hf
  refine g_putI (pc := 2) X fl_X12_60 (KMlt hk13 (by decide)) hk13 rfl rfl dX12_feed_2 ?_
  obtain ⟨m14, e15, hf⟩ := lt1_some hf
  refine g_mem e15 ?_
  refine g_iload_n (pc := 5) X dX12_feed_5 rfl 2 rfl ?_
  refine g_i2l (pc := 6) X dX12_feed_6 ?_
  refine g_lconst (v := (1 : Int64)) (pc := 7) X dX12_feed_7 (by decide) ?_
  refine g_ldc2 (pc := 8) X dX12_feed_8 kl_X12_87 ?_
  obtain ⟨r17, hq16, hf⟩ := bnd_some hf
  refine g_callSI (pc := 11) (As := [.long v3.toInt64, .long (1 : Int64), .long (8 : Int64)]) (rest := []) X mi_X12_in sm_X12_in ml_X12_71 (cX12_in_ct z ad v3.toInt64 (1 : Int64) (8 : Int64) m14 r17 hq16) rfl rfl (Nat.le_of_ble_eq_true rfl) ⟨rfl, rfl, by decide, by decide, Nat.le_refl _, Nat.le_refl _⟩ dX12_feed_11 ?_
  refine g_if_ne (pc := 14) (tgt := 21) X dX12_feed_14 (by decide) (fun hc => ?_) (fun hc => ?_)
  · have hf := itn hc hf
    refine g_aload_n (pc := 21) X dX12_feed_21 rfl 0 rfl ?_
    refine g_getI (pc := 22) X fl_X12_89 (KMlt hk13 (by decide)) hk13 dX12_feed_22 ?_
    refine g_iload_n (pc := 25) X dX12_feed_25 rfl 2 rfl ?_
    refine g_iadd (pc := 26) X dX12_feed_26 ?_
    refine g_sipush (v := (600 : Int32)) (pc := 27) X dX12_feed_27 (by decide) ?_
    refine g_icmp_le (pc := 30) (tgt := 37) X dX12_feed_30 (by decide) (fun hc => ?_) (fun hc => ?_)
    · have hf := itp hc hf
      refine g_iload_n (pc := 37) X dX12_feed_37 rfl 2 rfl ?_
      refine g_iconst (v := (1 : Int32)) (pc := 38) X dX12_feed_38 (by decide) ?_
      refine g_isub (pc := 39) X dX12_feed_39 ?_
      obtain ⟨v4_18, e19, hf⟩ := lt1_some hf
      refine g_topi e19 ?_
      refine g_istore (lv2 := [(0, .ref (ad v0)), (1, .long v1), (3, .int v3), (4, .int v4_18)]) (pc := 40) X dX12_feed_40 (by decide) [1, 2, 3, 0] rfl ?_
      refine g_lv [(0, .ref (ad v0)), (1, .long v1), (4, .int v4_18)] [0, 1, 3] rfl ?_
      exact hL42 _ _ _ _ hf
    · have hf := itn hc hf
      refine g_ldc2 (pc := 33) X dX12_feed_33 kl_X12_92 ?_
      obtain ⟨rfl, rfl⟩ := som2 hf
      exact hret _ _ dX12_feed_36
  · have hf := itp hc hf
    refine g_ldc2 (pc := 17) X dX12_feed_17 kl_X12_81 ?_
    obtain ⟨rfl, rfl⟩ := som2 hf
    exact hret _ _ dX12_feed_20

noncomputable def fX12_byteAt (v0 : Nat) (v1 : Int32) (m : Mem) : Option Int32 := gp (KM v0 = 12) (if (m.1 v0 12) ≤ v1 then (some (-1000000 : Int32)) else (bnd (m.2.2 v0 9) (fun q2 => gp (KM q2 = 14) (gp (inb v1 (NM q2) = true) (some (m.1 q2 v1.toNatClampNeg))))))
set_option maxHeartbeats 4000000 in
set_option maxRecDepth 100000 in
theorem cX12_byteAt_ct (z : Zx) (ad : Nat → Nat) (v0 : Nat) (v1 : Int32) (m : Mem) (r : Int32) (hf : fX12_byteAt v0 v1 m = some r) : CtI z wM yX12_byteAt cX12_byteAt 2 (some .int) (Rm 2) ad 17 [.ref (ad v0), .int v1] m m r := by
  refine ct_ofI mi_X12_byteAt rfl (Nat.le_of_ble_eq_true rfl) (fun x X hret => ?_)
  refine g_lv [(0, .ref (ad v0)), (1, .int v1)] [0, 1] rfl ?_
  unfold fX12_byteAt at hf
  refine g_iload_n (pc := 0) X dX12_byteAt_0 rfl 1 rfl ?_
  refine g_aload_n (pc := 1) X dX12_byteAt_1 rfl 0 rfl ?_
  obtain ⟨hk1, hf⟩ := gp_some hf
  refine g_getI (pc := 2) X fl_X12_96 (KMlt hk1 (by decide)) hk1 dX12_byteAt_2 ?_
  refine g_icmp_ge (pc := 5) (tgt := 17) X dX12_byteAt_5 (by decide) (fun hc => ?_) (fun hc => ?_)
  · have hf := itp hc hf
    refine g_ldc (pc := 17) X dX12_byteAt_17 k_X12_99 ?_
    obtain rfl := Option.some.inj hf
    exact hret _ _ rfl dX12_byteAt_19
  · have hf := itn hc hf
    refine g_aload_n (pc := 8) X dX12_byteAt_8 rfl 0 rfl ?_
    obtain ⟨q2, hr3, hf⟩ := bnd_some hf
    refine g_getR (pc := 9) X fl_X12_28 (KMlt hk1 (by decide)) hk1 hr3 dX12_byteAt_9 ?_
    refine g_iload_n (pc := 12) X dX12_byteAt_12 rfl 1 rfl ?_
    obtain ⟨hk4, hf⟩ := gp_some hf
    obtain ⟨hi5, hf⟩ := gp_some hf
    refine g_iald (pc := 13) X (KMlt hk4 (by decide)) hk4 hi5 dX12_byteAt_13 ?_
    refine g_goto (pc := 14) (tgt := 19) X dX12_byteAt_14 (by decide) ?_
    obtain rfl := Option.some.inj hf
    exact hret _ _ rfl dX12_byteAt_19

noncomputable def fX12_isLetter (v0 : Int32) : Option Int32 := if v0 < (97 : Int32) then (some (0 : Int32)) else (if (122 : Int32) < v0 then (some (0 : Int32)) else (some (1 : Int32)))
set_option maxHeartbeats 4000000 in
set_option maxRecDepth 100000 in
theorem cX12_isLetter_ct (z : Zx) (ad : Nat → Nat) (v0 : Int32) (m : Mem) (r : Int32) (hf : fX12_isLetter v0 = some r) : CtI z wM yX12_isLetter cX12_isLetter 1 (some .boolean) (Rm 2) ad 17 [.int v0] m m r := by
  refine ct_ofI mi_X12_isLetter rfl (Nat.le_of_ble_eq_true rfl) (fun x X hret => ?_)
  refine g_lv [(0, .int v0)] [0] rfl ?_
  unfold fX12_isLetter at hf
  refine g_iload_n (pc := 0) X dX12_isLetter_0 rfl 0 rfl ?_
  refine g_bipush (v := (97 : Int32)) (pc := 1) X dX12_isLetter_1 (by decide) ?_
  refine g_icmp_lt (pc := 3) (tgt := 16) X dX12_isLetter_3 (by decide) (fun hc => ?_) (fun hc => ?_)
  · have hf := itp hc hf
    refine g_iconst (v := (0 : Int32)) (pc := 16) X dX12_isLetter_16 (by decide) ?_
    obtain rfl := Option.some.inj hf
    exact hret _ _ (by decide) dX12_isLetter_17
  · have hf := itn hc hf
    refine g_iload_n (pc := 6) X dX12_isLetter_6 rfl 0 rfl ?_
    refine g_bipush (v := (122 : Int32)) (pc := 7) X dX12_isLetter_7 (by decide) ?_
    refine g_icmp_gt (pc := 9) (tgt := 16) X dX12_isLetter_9 (by decide) (fun hc => ?_) (fun hc => ?_)
    · have hf := itp hc hf
      refine g_iconst (v := (0 : Int32)) (pc := 16) X dX12_isLetter_16 (by decide) ?_
      obtain rfl := Option.some.inj hf
      exact hret _ _ (by decide) dX12_isLetter_17
    · have hf := itn hc hf
      refine g_iconst (v := (1 : Int32)) (pc := 12) X dX12_isLetter_12 (by decide) ?_
      refine g_goto (pc := 13) (tgt := 17) X dX12_isLetter_13 (by decide) ?_
      obtain rfl := Option.some.inj hf
      exact hret _ _ (by decide) dX12_isLetter_17

noncomputable def fX12_isFigure (v0 : Int32) : Option Int32 := if v0 < (48 : Int32) then (some (0 : Int32)) else (if (57 : Int32) < v0 then (some (0 : Int32)) else (some (1 : Int32)))
set_option maxHeartbeats 4000000 in
set_option maxRecDepth 100000 in
theorem cX12_isFigure_ct (z : Zx) (ad : Nat → Nat) (v0 : Int32) (m : Mem) (r : Int32) (hf : fX12_isFigure v0 = some r) : CtI z wM yX12_isFigure cX12_isFigure 1 (some .boolean) (Rm 2) ad 17 [.int v0] m m r := by
  refine ct_ofI mi_X12_isFigure rfl (Nat.le_of_ble_eq_true rfl) (fun x X hret => ?_)
  refine g_lv [(0, .int v0)] [0] rfl ?_
  unfold fX12_isFigure at hf
  refine g_iload_n (pc := 0) X dX12_isFigure_0 rfl 0 rfl ?_
  refine g_bipush (v := (48 : Int32)) (pc := 1) X dX12_isFigure_1 (by decide) ?_
  refine g_icmp_lt (pc := 3) (tgt := 16) X dX12_isFigure_3 (by decide) (fun hc => ?_) (fun hc => ?_)
  · have hf := itp hc hf
    refine g_iconst (v := (0 : Int32)) (pc := 16) X dX12_isFigure_16 (by decide) ?_
    obtain rfl := Option.some.inj hf
    exact hret _ _ (by decide) dX12_isFigure_17
  · have hf := itn hc hf
    refine g_iload_n (pc := 6) X dX12_isFigure_6 rfl 0 rfl ?_
    refine g_bipush (v := (57 : Int32)) (pc := 7) X dX12_isFigure_7 (by decide) ?_
    refine g_icmp_gt (pc := 9) (tgt := 16) X dX12_isFigure_9 (by decide) (fun hc => ?_) (fun hc => ?_)
    · have hf := itp hc hf
      refine g_iconst (v := (0 : Int32)) (pc := 16) X dX12_isFigure_16 (by decide) ?_
      obtain rfl := Option.some.inj hf
      exact hret _ _ (by decide) dX12_isFigure_17
    · have hf := itn hc hf
      refine g_iconst (v := (1 : Int32)) (pc := 12) X dX12_isFigure_12 (by decide) ?_
      refine g_goto (pc := 13) (tgt := 17) X dX12_isFigure_13 (by decide) ?_
      obtain rfl := Option.some.inj hf
      exact hret _ _ (by decide) dX12_isFigure_17

noncomputable def fX12_next_196 (v0 : Nat) (m : Mem) : Option Mem := gp (KM v0 = 12) (lt1 (uI m v0 16 (m.1 v0 13)) (fun m2 => some m2))
noncomputable def fX12_next_193 (v0 : Nat) (s0 : Nat) (s1 : Int32) (m : Mem) : Option Mem := gp (KM s0 = 12) (lt1 (uI m s0 14 s1) (fun m5 => fX12_next_196 v0 m5))
noncomputable def fX12_next_165 (v0 : Nat) (s0 : Nat) (s1 : Int32) (m : Mem) : Option Mem := gp (KM s0 = 12) (lt1 (uI m s0 14 s1) (fun m8 => fX12_next_196 v0 m8))
noncomputable def fX12_next_146 (v0 : Nat) (m : Mem) : Option Mem := gp (KM v0 = 12) (if ((m.1 v0 13) - (m.1 v0 15)) ≤ (3 : Int32) then (fX12_next_165 v0 v0 (3 : Int32) m) else (fX12_next_165 v0 v0 (0 : Int32) m))
noncomputable def fX12_next_119b (v0 : Nat) (m : Mem) : Option ((Mem) ⊕ (Mem)) := gp (KM v0 = 12) (bnd (fX12_byteAt v0 (m.1 v0 13) m) (fun r13 => bnd (fX12_isFigure r13) (fun r15 => if r15 = 0 then (some (.inr (m))) else (lt1 (uI m v0 13 ((m.1 v0 13) + (1 : Int32))) (fun m16 => some (.inl (m16)))))))
noncomputable def fX12_next_119 (v0 : Nat) (m : Mem) : Option Mem := bnd (iter (fun s => fX12_next_119b v0 s) FU (m)) (fun e => fX12_next_146 v0 e)
noncomputable def fX12_next_104 (v0 : Nat) (m : Mem) : Option Mem := gp (KM v0 = 12) (lt1 (uI m v0 14 (2 : Int32)) (fun m19 => fX12_next_196 v0 m19))
noncomputable def fX12_next_77b (v0 : Nat) (m : Mem) : Option ((Mem) ⊕ (Mem)) := gp (KM v0 = 12) (bnd (fX12_byteAt v0 (m.1 v0 13) m) (fun r23 => bnd (fX12_isLetter r23) (fun r25 => if r25 = 0 then (some (.inr (m))) else (lt1 (uI m v0 13 ((m.1 v0 13) + (1 : Int32))) (fun m26 => some (.inl (m26)))))))
noncomputable def fX12_next_77 (v0 : Nat) (m : Mem) : Option Mem := bnd (iter (fun s => fX12_next_77b v0 s) FU (m)) (fun e => fX12_next_104 v0 e)
noncomputable def fX12_next_39 (v0 : Nat) (m : Mem) : Option Mem := gp (KM v0 = 12) (lt1 (uI m v0 15 (m.1 v0 13)) (fun m29 => bnd (fX12_byteAt v0 (m29.1 v0 13) m29) (fun r32 => if r32 = (-1000000 : Int32) then (lt1 (uI m29 v0 14 (1 : Int32)) (fun m39 => fX12_next_196 v0 m39)) else (bnd (fX12_isLetter r32) (fun r34 => if r34 = 0 then (bnd (fX12_isFigure r32) (fun r36 => if r36 = 0 then (lt1 (uI m29 v0 13 ((m29.1 v0 13) + (1 : Int32))) (fun m37 => if r32 = (59 : Int32) then (fX12_next_193 v0 v0 (4 : Int32) m37) else (fX12_next_193 v0 v0 (0 : Int32) m37))) else (fX12_next_119 v0 m29))) else (fX12_next_77 v0 m29))))))
noncomputable def fX12_next_26 (v0 : Nat) (m : Mem) : Option ((Mem) ⊕ (Mem)) := gp (KM v0 = 12) (lt1 (uI m v0 13 ((m.1 v0 13) + (1 : Int32))) (fun m42 => some (.inl (m42))))
noncomputable def fX12_next_0b (v0 : Nat) (m : Mem) : Option ((Mem) ⊕ (Mem)) := gp (KM v0 = 12) (bnd (fX12_byteAt v0 (m.1 v0 13) m) (fun r46 => if r46 = (32 : Int32) then (fX12_next_26 v0 m) else (bnd (fX12_byteAt v0 (m.1 v0 13) m) (fun r48 => if r48 = (10 : Int32) then (fX12_next_26 v0 m) else (some (.inr (m)))))))
noncomputable def fX12_next_0 (v0 : Nat) (m : Mem) : Option Mem := bnd (iter (fun s => fX12_next_0b v0 s) FU (m)) (fun e => fX12_next_39 v0 e)
noncomputable def fX12_next (v0 : Nat) (m : Mem) : Option Mem := fX12_next_0 v0 m
set_option maxHeartbeats 4000000 in
set_option maxRecDepth 100000 in
theorem cX12_next_ct (z : Zx) (ad : Nat → Nat) (v0 : Nat) (m m2 : Mem) (hf : fX12_next v0 m = some m2) : CtV z wM yX12_next cX12_next 2 none (Rm 3) ad 17 [.ref (ad v0)] m m2 := by
  refine ct_ofV mi_X12_next rfl (Nat.le_of_ble_eq_true rfl) (fun x X hret => ?_)
  refine g_lv [(0, .ref (ad v0))] [0] rfl ?_
  have hL196 : ∀ (v0 : Nat) (m : Mem), fX12_next_196 v0 m = some m2 → G z wM x 2 0 0 ad 17 m 196 [(0, .ref (ad v0))] [] := by
    intro v0 m hf
    unfold fX12_next_196 at hf
    refine g_aload_n (pc := 196) X dX12_next_196 rfl 0 rfl ?_
    refine g_aload_n (pc := 197) X dX12_next_197 rfl 0 rfl ?_
    obtain ⟨hk1, hf⟩ := gp_some hf
    refine g_getI (pc := 198) X fl_X12_100 (KMlt hk1 (by decide)) hk1 dX12_next_198 ?_
    refine g_putI (pc := 201) X fl_X12_119 (KMlt hk1 (by decide)) hk1 rfl rfl dX12_next_201 ?_
    obtain ⟨m2, e3, hf⟩ := lt1_some hf
    refine g_mem e3 ?_
    obtain rfl := Option.some.inj hf
    exact hret _ _ dX12_next_204
  have hL193 : ∀ (v0 : Nat) (s0 : Nat) (s1 : Int32) (m : Mem), fX12_next_193 v0 s0 s1 m = some m2 → G z wM x 2 0 0 ad 17 m 193 [(0, .ref (ad v0))] [.int s1, .ref (ad s0)] := by
    intro v0 s0 s1 m hf
    unfold fX12_next_193 at hf
    obtain ⟨hk4, hf⟩ := gp_some hf
    refine g_putI (pc := 193) X fl_X12_110 (KMlt hk4 (by decide)) hk4 rfl rfl dX12_next_193 ?_
    obtain ⟨m5, e6, hf⟩ := lt1_some hf
    refine g_mem e6 ?_
    exact hL196 _ _ hf
  have hL165 : ∀ (v0 : Nat) (s0 : Nat) (s1 : Int32) (m : Mem), fX12_next_165 v0 s0 s1 m = some m2 → G z wM x 2 0 0 ad 17 m 165 [(0, .ref (ad v0))] [.int s1, .ref (ad s0)] := by
    intro v0 s0 s1 m hf
    unfold fX12_next_165 at hf
    obtain ⟨hk7, hf⟩ := gp_some hf
    refine g_putI (pc := 165) X fl_X12_110 (KMlt hk7 (by decide)) hk7 rfl rfl dX12_next_165 ?_
    obtain ⟨m8, e9, hf⟩ := lt1_some hf
    refine g_mem e9 ?_
    refine g_goto (pc := 168) (tgt := 196) X dX12_next_168 (by decide) ?_
    exact hL196 _ _ hf
  have hL146 : ∀ (v0 : Nat) (m : Mem), fX12_next_146 v0 m = some m2 → G z wM x 2 0 0 ad 17 m 146 [(0, .ref (ad v0))] [] := by
    intro v0 m hf
    unfold fX12_next_146 at hf
    refine g_aload_n (pc := 146) X dX12_next_146 rfl 0 rfl ?_
    refine g_aload_n (pc := 147) X dX12_next_147 rfl 0 rfl ?_
    obtain ⟨hk10, hf⟩ := gp_some hf
    refine g_getI (pc := 148) X fl_X12_100 (KMlt hk10 (by decide)) hk10 dX12_next_148 ?_
    refine g_aload_n (pc := 151) X dX12_next_151 rfl 0 rfl ?_
    refine g_getI (pc := 152) X fl_X12_107 (KMlt hk10 (by decide)) hk10 dX12_next_152 ?_
    refine g_isub (pc := 155) X dX12_next_155 ?_
    refine g_iconst (v := (3 : Int32)) (pc := 156) X dX12_next_156 (by decide) ?_
    refine g_icmp_le (pc := 157) (tgt := 164) X dX12_next_157 (by decide) (fun hc => ?_) (fun hc => ?_)
    · have hf := itp hc hf
      refine g_iconst (v := (3 : Int32)) (pc := 164) X dX12_next_164 (by decide) ?_
      exact hL165 _ _ _ _ hf
    · have hf := itn hc hf
      refine g_iconst (v := (0 : Int32)) (pc := 160) X dX12_next_160 (by decide) ?_
      refine g_goto (pc := 161) (tgt := 165) X dX12_next_161 (by decide) ?_
      exact hL165 _ _ _ _ hf
  have hL119 : ∀ (v0 : Nat) (m : Mem), fX12_next_119 v0 m = some m2 → G z wM x 2 0 0 ad 17 m 119 [(0, .ref (ad v0))] [] := by
    intro v0 m hf
    unfold fX12_next_119 at hf
    obtain ⟨e119, hit119, hrest119⟩ := bnd_some hf
    refine iter_ok (Hd := fun (s : (Mem)) => G z wM x 2 0 0 ad 17 s 119 [(0, .ref (ad v0))] []) ?_ FU (m) hit119
    intro m ob119 hf hs119 he119
    have hf : fX12_next_119b v0 m = some ob119 := hf
    unfold fX12_next_119b at hf
    refine g_aload_n (pc := 119) X dX12_next_119 rfl 0 rfl ?_
    refine g_aload_n (pc := 120) X dX12_next_120 rfl 0 rfl ?_
    obtain ⟨hk11, hf⟩ := gp_some hf
    refine g_getI (pc := 121) X fl_X12_100 (KMlt hk11 (by decide)) hk11 dX12_next_121 ?_
    obtain ⟨r13, hq12, hf⟩ := bnd_some hf
    refine g_callVI (pc := 124) (As := [.int (m.1 v0 13)]) (rest := []) X mi_X12_byteAt im_X12_byteAt se_X12_byteAt (KMlt hk11 (by decide)) hk11 clX12 ml_X12_103 (cX12_byteAt_ct z ad v0 (m.1 v0 13) m r13 hq12) rfl rfl (Nat.le_of_ble_eq_true rfl) ⟨rfl, rfl, by decide, by decide, Nat.le_refl _, Nat.le_refl _⟩ dX12_next_124 ?_
    obtain ⟨r15, hq14, hf⟩ := bnd_some hf
    refine g_callSI (pc := 127) (As := [.int r13]) (rest := []) X mi_X12_isFigure sm_X12_isFigure ml_X12_116 (cX12_isFigure_ct z ad r13 m r15 hq14) rfl rfl (Nat.le_of_ble_eq_true rfl) ⟨rfl, rfl, by decide, by decide, Nat.le_refl _, Nat.le_refl _⟩ dX12_next_127 ?_
    refine g_if_eq (pc := 130) (tgt := 146) X dX12_next_130 (by decide) (fun hc => ?_) (fun hc => ?_)
    · have hf := itp hc hf
      have he119 := he119 _ (Option.some.inj hf).symm
      subst he119
      have hf : fX12_next_146 v0 m = some m2 := hrest119
      exact hL146 _ _ hf
    · have hf := itn hc hf
      refine g_aload_n (pc := 133) X dX12_next_133 rfl 0 rfl ?_
      refine g_dup (pc := 134) X dX12_next_134 rfl ?_
      refine g_getI (pc := 135) X fl_X12_100 (KMlt hk11 (by decide)) hk11 dX12_next_135 ?_
      refine g_iconst (v := (1 : Int32)) (pc := 138) X dX12_next_138 (by decide) ?_
      refine g_iadd (pc := 139) X dX12_next_139 ?_
      refine g_putI (pc := 140) X fl_X12_100 (KMlt hk11 (by decide)) hk11 rfl rfl dX12_next_140 ?_
      obtain ⟨m16, e17, hf⟩ := lt1_some hf
      refine g_mem e17 ?_
      refine g_goto (pc := 143) (tgt := 119) X dX12_next_143 (by decide) ?_
      exact hs119 (m16) (Option.some.inj hf).symm
  have hL104 : ∀ (v0 : Nat) (m : Mem), fX12_next_104 v0 m = some m2 → G z wM x 2 0 0 ad 17 m 104 [(0, .ref (ad v0))] [] := by
    intro v0 m hf
    unfold fX12_next_104 at hf
    refine g_aload_n (pc := 104) X dX12_next_104 rfl 0 rfl ?_
    refine g_iconst (v := (2 : Int32)) (pc := 105) X dX12_next_105 (by decide) ?_
    obtain ⟨hk18, hf⟩ := gp_some hf
    refine g_putI (pc := 106) X fl_X12_110 (KMlt hk18 (by decide)) hk18 rfl rfl dX12_next_106 ?_
    obtain ⟨m19, e20, hf⟩ := lt1_some hf
    refine g_mem e20 ?_
    refine g_goto (pc := 109) (tgt := 196) X dX12_next_109 (by decide) ?_
    exact hL196 _ _ hf
  have hL77 : ∀ (v0 : Nat) (m : Mem), fX12_next_77 v0 m = some m2 → G z wM x 2 0 0 ad 17 m 77 [(0, .ref (ad v0))] [] := by
    intro v0 m hf
    unfold fX12_next_77 at hf
    obtain ⟨e77, hit77, hrest77⟩ := bnd_some hf
    refine iter_ok (Hd := fun (s : (Mem)) => G z wM x 2 0 0 ad 17 s 77 [(0, .ref (ad v0))] []) ?_ FU (m) hit77
    intro m ob77 hf hs77 he77
    have hf : fX12_next_77b v0 m = some ob77 := hf
    unfold fX12_next_77b at hf
    refine g_aload_n (pc := 77) X dX12_next_77 rfl 0 rfl ?_
    refine g_aload_n (pc := 78) X dX12_next_78 rfl 0 rfl ?_
    obtain ⟨hk21, hf⟩ := gp_some hf
    refine g_getI (pc := 79) X fl_X12_100 (KMlt hk21 (by decide)) hk21 dX12_next_79 ?_
    obtain ⟨r23, hq22, hf⟩ := bnd_some hf
    refine g_callVI (pc := 82) (As := [.int (m.1 v0 13)]) (rest := []) X mi_X12_byteAt im_X12_byteAt se_X12_byteAt (KMlt hk21 (by decide)) hk21 clX12 ml_X12_103 (cX12_byteAt_ct z ad v0 (m.1 v0 13) m r23 hq22) rfl rfl (Nat.le_of_ble_eq_true rfl) ⟨rfl, rfl, by decide, by decide, Nat.le_refl _, Nat.le_refl _⟩ dX12_next_82 ?_
    obtain ⟨r25, hq24, hf⟩ := bnd_some hf
    refine g_callSI (pc := 85) (As := [.int r23]) (rest := []) X mi_X12_isLetter sm_X12_isLetter ml_X12_113 (cX12_isLetter_ct z ad r23 m r25 hq24) rfl rfl (Nat.le_of_ble_eq_true rfl) ⟨rfl, rfl, by decide, by decide, Nat.le_refl _, Nat.le_refl _⟩ dX12_next_85 ?_
    refine g_if_eq (pc := 88) (tgt := 104) X dX12_next_88 (by decide) (fun hc => ?_) (fun hc => ?_)
    · have hf := itp hc hf
      have he77 := he77 _ (Option.some.inj hf).symm
      subst he77
      have hf : fX12_next_104 v0 m = some m2 := hrest77
      exact hL104 _ _ hf
    · have hf := itn hc hf
      refine g_aload_n (pc := 91) X dX12_next_91 rfl 0 rfl ?_
      refine g_dup (pc := 92) X dX12_next_92 rfl ?_
      refine g_getI (pc := 93) X fl_X12_100 (KMlt hk21 (by decide)) hk21 dX12_next_93 ?_
      refine g_iconst (v := (1 : Int32)) (pc := 96) X dX12_next_96 (by decide) ?_
      refine g_iadd (pc := 97) X dX12_next_97 ?_
      refine g_putI (pc := 98) X fl_X12_100 (KMlt hk21 (by decide)) hk21 rfl rfl dX12_next_98 ?_
      obtain ⟨m26, e27, hf⟩ := lt1_some hf
      refine g_mem e27 ?_
      refine g_goto (pc := 101) (tgt := 77) X dX12_next_101 (by decide) ?_
      exact hs77 (m26) (Option.some.inj hf).symm
  have hL39 : ∀ (v0 : Nat) (m : Mem), fX12_next_39 v0 m = some m2 → G z wM x 2 0 0 ad 17 m 39 [(0, .ref (ad v0))] [] := by
    intro v0 m hf
    unfold fX12_next_39 at hf
    refine g_aload_n (pc := 39) X dX12_next_39 rfl 0 rfl ?_
    refine g_aload_n (pc := 40) X dX12_next_40 rfl 0 rfl ?_
    obtain ⟨hk28, hf⟩ := gp_some hf
    refine g_getI (pc := 41) X fl_X12_100 (KMlt hk28 (by decide)) hk28 dX12_next_41 ?_
    refine g_putI (pc := 44) X fl_X12_107 (KMlt hk28 (by decide)) hk28 rfl rfl dX12_next_44 ?_
    obtain ⟨m29, e30, hf⟩ := lt1_some hf
    refine g_mem e30 ?_
    refine g_aload_n (pc := 47) X dX12_next_47 rfl 0 rfl ?_
    refine g_aload_n (pc := 48) X dX12_next_48 rfl 0 rfl ?_
    refine g_getI (pc := 49) X fl_X12_100 (KMlt hk28 (by decide)) hk28 dX12_next_49 ?_
    obtain ⟨r32, hq31, hf⟩ := bnd_some hf
    refine g_callVI (pc := 52) (As := [.int (m29.1 v0 13)]) (rest := []) X mi_X12_byteAt im_X12_byteAt se_X12_byteAt (KMlt hk28 (by decide)) hk28 clX12 ml_X12_103 (cX12_byteAt_ct z ad v0 (m29.1 v0 13) m29 r32 hq31) rfl rfl (Nat.le_of_ble_eq_true rfl) ⟨rfl, rfl, by decide, by decide, Nat.le_refl _, Nat.le_refl _⟩ dX12_next_52 ?_
    refine g_istore_n (lv2 := [(0, .ref (ad v0)), (1, .int r32)]) (pc := 55) X dX12_next_55 rfl (by decide) [1, 0] rfl ?_
    refine g_iload_n (pc := 56) X dX12_next_56 rfl 1 rfl ?_
    refine g_ldc (pc := 57) X dX12_next_57 k_X12_99 ?_
    refine g_icmp_ne (pc := 59) (tgt := 70) X dX12_next_59 (by decide) (fun hc => ?_) (fun hc => ?_)
    · have hf := itn hc hf
      refine g_iload_n (pc := 70) X dX12_next_70 rfl 1 rfl ?_
      obtain ⟨r34, hq33, hf⟩ := bnd_some hf
      refine g_callSI (pc := 71) (As := [.int r32]) (rest := []) X mi_X12_isLetter sm_X12_isLetter ml_X12_113 (cX12_isLetter_ct z ad r32 m29 r34 hq33) rfl rfl (Nat.le_of_ble_eq_true rfl) ⟨rfl, rfl, by decide, by decide, Nat.le_refl _, Nat.le_refl _⟩ dX12_next_71 ?_
      refine g_if_eq (pc := 74) (tgt := 112) X dX12_next_74 (by decide) (fun hc => ?_) (fun hc => ?_)
      · have hf := itp hc hf
        refine g_iload_n (pc := 112) X dX12_next_112 rfl 1 rfl ?_
        obtain ⟨r36, hq35, hf⟩ := bnd_some hf
        refine g_callSI (pc := 113) (As := [.int r32]) (rest := []) X mi_X12_isFigure sm_X12_isFigure ml_X12_116 (cX12_isFigure_ct z ad r32 m29 r36 hq35) rfl rfl (Nat.le_of_ble_eq_true rfl) ⟨rfl, rfl, by decide, by decide, Nat.le_refl _, Nat.le_refl _⟩ dX12_next_113 ?_
        refine g_if_eq (pc := 116) (tgt := 171) X dX12_next_116 (by decide) (fun hc => ?_) (fun hc => ?_)
        · have hf := itp hc hf
          refine g_aload_n (pc := 171) X dX12_next_171 rfl 0 rfl ?_
          refine g_dup (pc := 172) X dX12_next_172 rfl ?_
          refine g_getI (pc := 173) X fl_X12_100 (KMlt hk28 (by decide)) hk28 dX12_next_173 ?_
          refine g_iconst (v := (1 : Int32)) (pc := 176) X dX12_next_176 (by decide) ?_
          refine g_iadd (pc := 177) X dX12_next_177 ?_
          refine g_putI (pc := 178) X fl_X12_100 (KMlt hk28 (by decide)) hk28 rfl rfl dX12_next_178 ?_
          obtain ⟨m37, e38, hf⟩ := lt1_some hf
          refine g_mem e38 ?_
          refine g_aload_n (pc := 181) X dX12_next_181 rfl 0 rfl ?_
          refine g_iload_n (pc := 182) X dX12_next_182 rfl 1 rfl ?_
          refine g_bipush (v := (59 : Int32)) (pc := 183) X dX12_next_183 (by decide) ?_
          refine g_icmp_ne (pc := 185) (tgt := 192) X dX12_next_185 (by decide) (fun hc => ?_) (fun hc => ?_)
          · have hf := itn hc hf
            refine g_iconst (v := (0 : Int32)) (pc := 192) X dX12_next_192 (by decide) ?_
            refine g_lv [(0, .ref (ad v0))] [0] rfl ?_
            exact hL193 _ _ _ _ hf
          · have hf := itp hc hf
            refine g_iconst (v := (4 : Int32)) (pc := 188) X dX12_next_188 (by decide) ?_
            refine g_goto (pc := 189) (tgt := 193) X dX12_next_189 (by decide) ?_
            refine g_lv [(0, .ref (ad v0))] [0] rfl ?_
            exact hL193 _ _ _ _ hf
        · have hf := itn hc hf
          refine g_lv [(0, .ref (ad v0))] [0] rfl ?_
          exact hL119 _ _ hf
      · have hf := itn hc hf
        refine g_lv [(0, .ref (ad v0))] [0] rfl ?_
        exact hL77 _ _ hf
    · have hf := itp hc hf
      refine g_aload_n (pc := 62) X dX12_next_62 rfl 0 rfl ?_
      refine g_iconst (v := (1 : Int32)) (pc := 63) X dX12_next_63 (by decide) ?_
      refine g_putI (pc := 64) X fl_X12_110 (KMlt hk28 (by decide)) hk28 rfl rfl dX12_next_64 ?_
      obtain ⟨m39, e40, hf⟩ := lt1_some hf
      refine g_mem e40 ?_
      refine g_goto (pc := 67) (tgt := 196) X dX12_next_67 (by decide) ?_
      refine g_lv [(0, .ref (ad v0))] [0] rfl ?_
      exact hL196 _ _ hf
  have hL0 : ∀ (v0 : Nat) (m : Mem), fX12_next_0 v0 m = some m2 → G z wM x 2 0 0 ad 17 m 0 [(0, .ref (ad v0))] [] := by
    intro v0 m hf
    unfold fX12_next_0 at hf
    obtain ⟨e0, hit0, hrest0⟩ := bnd_some hf
    refine iter_ok (Hd := fun (s : (Mem)) => G z wM x 2 0 0 ad 17 s 0 [(0, .ref (ad v0))] []) ?_ FU (m) hit0
    intro m ob0 hf hs0 he0
    have hf : fX12_next_0b v0 m = some ob0 := hf
    have hL26 : ∀ (m : Mem), fX12_next_26 v0 m = some ob0 → G z wM x 2 0 0 ad 17 m 26 [(0, .ref (ad v0))] [] := by
      intro m hf
      unfold fX12_next_26 at hf
      refine g_aload_n (pc := 26) X dX12_next_26 rfl 0 rfl ?_
      refine g_dup (pc := 27) X dX12_next_27 rfl ?_
      obtain ⟨hk41, hf⟩ := gp_some hf
      refine g_getI (pc := 28) X fl_X12_100 (KMlt hk41 (by decide)) hk41 dX12_next_28 ?_
      refine g_iconst (v := (1 : Int32)) (pc := 31) X dX12_next_31 (by decide) ?_
      refine g_iadd (pc := 32) X dX12_next_32 ?_
      refine g_putI (pc := 33) X fl_X12_100 (KMlt hk41 (by decide)) hk41 rfl rfl dX12_next_33 ?_
      obtain ⟨m42, e43, hf⟩ := lt1_some hf
      refine g_mem e43 ?_
      refine g_goto (pc := 36) (tgt := 0) X dX12_next_36 (by decide) ?_
      exact hs0 (m42) (Option.some.inj hf).symm
    unfold fX12_next_0b at hf
    refine g_aload_n (pc := 0) X dX12_next_0 rfl 0 rfl ?_
    refine g_aload_n (pc := 1) X dX12_next_1 rfl 0 rfl ?_
    obtain ⟨hk44, hf⟩ := gp_some hf
    refine g_getI (pc := 2) X fl_X12_100 (KMlt hk44 (by decide)) hk44 dX12_next_2 ?_
    obtain ⟨r46, hq45, hf⟩ := bnd_some hf
    refine g_callVI (pc := 5) (As := [.int (m.1 v0 13)]) (rest := []) X mi_X12_byteAt im_X12_byteAt se_X12_byteAt (KMlt hk44 (by decide)) hk44 clX12 ml_X12_103 (cX12_byteAt_ct z ad v0 (m.1 v0 13) m r46 hq45) rfl rfl (Nat.le_of_ble_eq_true rfl) ⟨rfl, rfl, by decide, by decide, Nat.le_refl _, Nat.le_refl _⟩ dX12_next_5 ?_
    refine g_bipush (v := (32 : Int32)) (pc := 8) X dX12_next_8 (by decide) ?_
    refine g_icmp_eq (pc := 10) (tgt := 26) X dX12_next_10 (by decide) (fun hc => ?_) (fun hc => ?_)
    · have hf := itp hc hf
      exact hL26 _ hf
    · have hf := itn hc hf
      refine g_aload_n (pc := 13) X dX12_next_13 rfl 0 rfl ?_
      refine g_aload_n (pc := 14) X dX12_next_14 rfl 0 rfl ?_
      refine g_getI (pc := 15) X fl_X12_100 (KMlt hk44 (by decide)) hk44 dX12_next_15 ?_
      obtain ⟨r48, hq47, hf⟩ := bnd_some hf
      refine g_callVI (pc := 18) (As := [.int (m.1 v0 13)]) (rest := []) X mi_X12_byteAt im_X12_byteAt se_X12_byteAt (KMlt hk44 (by decide)) hk44 clX12 ml_X12_103 (cX12_byteAt_ct z ad v0 (m.1 v0 13) m r48 hq47) rfl rfl (Nat.le_of_ble_eq_true rfl) ⟨rfl, rfl, by decide, by decide, Nat.le_refl _, Nat.le_refl _⟩ dX12_next_18 ?_
      refine g_bipush (v := (10 : Int32)) (pc := 21) X dX12_next_21 (by decide) ?_
      refine g_icmp_ne (pc := 23) (tgt := 39) X dX12_next_23 (by decide) (fun hc => ?_) (fun hc => ?_)
      · have hf := itn hc hf
        have he0 := he0 _ (Option.some.inj hf).symm
        subst he0
        have hf : fX12_next_39 v0 m = some m2 := hrest0
        exact hL39 _ _ hf
      · have hf := itp hc hf
        exact hL26 _ hf
  unfold fX12_next at hf
  exact hL0 _ _ hf

noncomputable def fX12_bad (v0 : Nat) (v1 : Int32) (m : Mem) : Option Mem := gp (KM v0 = 12) (if (m.1 v0 17) = 0 then (lt1 (uI m v0 17 v1) (fun m2 => lt1 (uI m2 v0 18 (m2.1 v0 15)) (fun m4 => some m4))) else (some m))
set_option maxHeartbeats 4000000 in
set_option maxRecDepth 100000 in
theorem cX12_bad_ct (z : Zx) (ad : Nat → Nat) (v0 : Nat) (v1 : Int32) (m m2 : Mem) (hf : fX12_bad v0 v1 m = some m2) : CtV z wM yX12_bad cX12_bad 2 none (Rm 2) ad 17 [.ref (ad v0), .int v1] m m2 := by
  refine ct_ofV mi_X12_bad rfl (Nat.le_of_ble_eq_true rfl) (fun x X hret => ?_)
  refine g_lv [(0, .ref (ad v0)), (1, .int v1)] [0, 1] rfl ?_
  unfold fX12_bad at hf
  refine g_aload_n (pc := 0) X dX12_bad_0 rfl 0 rfl ?_
  obtain ⟨hk1, hf⟩ := gp_some hf
  refine g_getI (pc := 1) X fl_X12_122 (KMlt hk1 (by decide)) hk1 dX12_bad_1 ?_
  refine g_if_ne (pc := 4) (tgt := 20) X dX12_bad_4 (by decide) (fun hc => ?_) (fun hc => ?_)
  · have hf := itn hc hf
    obtain rfl := Option.some.inj hf
    exact hret _ _ dX12_bad_20
  · have hf := itp hc hf
    refine g_aload_n (pc := 7) X dX12_bad_7 rfl 0 rfl ?_
    refine g_iload_n (pc := 8) X dX12_bad_8 rfl 1 rfl ?_
    refine g_putI (pc := 9) X fl_X12_122 (KMlt hk1 (by decide)) hk1 rfl rfl dX12_bad_9 ?_
    obtain ⟨m2, e3, hf⟩ := lt1_some hf
    refine g_mem e3 ?_
    refine g_aload_n (pc := 12) X dX12_bad_12 rfl 0 rfl ?_
    refine g_aload_n (pc := 13) X dX12_bad_13 rfl 0 rfl ?_
    refine g_getI (pc := 14) X fl_X12_107 (KMlt hk1 (by decide)) hk1 dX12_bad_14 ?_
    refine g_putI (pc := 17) X fl_X12_125 (KMlt hk1 (by decide)) hk1 rfl rfl dX12_bad_17 ?_
    obtain ⟨m4, e5, hf⟩ := lt1_some hf
    refine g_mem e5 ?_
    obtain rfl := Option.some.inj hf
    exact hret _ _ dX12_bad_20

noncomputable def fX12_must_9 (v0 : Nat) (m : Mem) : Option Mem := gp (KM v0 = 12) (if (m.1 v0 17) = 0 then (bnd (fX12_next v0 m) (fun m3 => some m3)) else (some m))
noncomputable def fX12_must (v0 : Nat) (v1 : Int32) (m : Mem) : Option Mem := if v1 = 0 then (gp (KM v0 = 12) (bnd (fX12_bad v0 (1 : Int32) m) (fun m5 => fX12_must_9 v0 m5))) else (fX12_must_9 v0 m)
set_option maxHeartbeats 4000000 in
set_option maxRecDepth 100000 in
theorem cX12_must_ct (z : Zx) (ad : Nat → Nat) (v0 : Nat) (v1 : Int32) (m m2 : Mem) (hf : fX12_must v0 v1 m = some m2) : CtV z wM yX12_must cX12_must 2 none (Rm 4) ad 17 [.ref (ad v0), .int v1] m m2 := by
  refine ct_ofV mi_X12_must rfl (Nat.le_of_ble_eq_true rfl) (fun x X hret => ?_)
  refine g_lv [(0, .ref (ad v0)), (1, .int v1)] [0, 1] rfl ?_
  have hL9 : ∀ (v0 : Nat) (m : Mem), fX12_must_9 v0 m = some m2 → G z wM x 2 0 0 ad 17 m 9 [(0, .ref (ad v0))] [] := by
    intro v0 m hf
    unfold fX12_must_9 at hf
    refine g_aload_n (pc := 9) X dX12_must_9 rfl 0 rfl ?_
    obtain ⟨hk1, hf⟩ := gp_some hf
    refine g_getI (pc := 10) X fl_X12_122 (KMlt hk1 (by decide)) hk1 dX12_must_10 ?_
    refine g_if_ne (pc := 13) (tgt := 20) X dX12_must_13 (by decide) (fun hc => ?_) (fun hc => ?_)
    · have hf := itn hc hf
      obtain rfl := Option.some.inj hf
      exact hret _ _ dX12_must_20
    · have hf := itp hc hf
      refine g_aload_n (pc := 16) X dX12_must_16 rfl 0 rfl ?_
      obtain ⟨m3, hq2, hf⟩ := bnd_some hf
      refine g_callVV (pc := 17) (As := []) (rest := []) X mi_X12_next im_X12_next se_X12_next (KMlt hk1 (by decide)) hk1 clX12 ml_X12_132 (cX12_next_ct z ad v0 m m3 hq2) rfl rfl (Nat.le_of_ble_eq_true rfl) ⟨rfl, rfl, by decide, by decide, Nat.le_refl _, Nat.le_refl _⟩ dX12_must_17 ?_
      obtain rfl := Option.some.inj hf
      exact hret _ _ dX12_must_20
  unfold fX12_must at hf
  refine g_iload_n (pc := 0) X dX12_must_0 rfl 1 rfl ?_
  refine g_if_ne (pc := 1) (tgt := 9) X dX12_must_1 (by decide) (fun hc => ?_) (fun hc => ?_)
  · have hf := itn hc hf
    refine g_lv [(0, .ref (ad v0))] [0] rfl ?_
    exact hL9 _ _ hf
  · have hf := itp hc hf
    refine g_aload_n (pc := 4) X dX12_must_4 rfl 0 rfl ?_
    refine g_iconst (v := (1 : Int32)) (pc := 5) X dX12_must_5 (by decide) ?_
    obtain ⟨hk6, hf⟩ := gp_some hf
    obtain ⟨m5, hq4, hf⟩ := bnd_some hf
    refine g_callVV (pc := 6) (As := [.int (1 : Int32)]) (rest := []) X mi_X12_bad im_X12_bad se_X12_bad (KMlt hk6 (by decide)) hk6 clX12 ml_X12_128 (cX12_bad_ct z ad v0 (1 : Int32) m m5 hq4) rfl rfl (Nat.le_of_ble_eq_true rfl) ⟨rfl, rfl, by decide, by decide, Nat.le_refl _, Nat.le_refl _⟩ dX12_must_6 ?_
    refine g_lv [(0, .ref (ad v0))] [0] rfl ?_
    exact hL9 _ _ hf

noncomputable def fX12_word_56 (v0 : Nat) (v1 : Int64) (m : Mem) : Option Int64 := gp (KM v0 = 12) (if (m.1 v0 17) = 0 then (some v1) else (some (0 : Int64)))
noncomputable def fX12_word_7b (v0 : Nat) (v1 : Int64) (v3 : Int32) (m : Mem) : Option ((Int64 × Int32) ⊕ (Int64)) := gp (KM v0 = 12) (if (m.1 v0 16) ≤ v3 then (some (.inr (v1))) else (if (m.1 v0 14) = (2 : Int32) then (if (9 : Int32) ≤ ((m.1 v0 16) - (m.1 v0 15)) then (some (.inr (v1))) else (bnd (m.2.2 v0 9) (fun q3 => gp (KM q3 = 14) (gp (inb v3 (NM q3) = true) (lt1 ((v1 <<< ((8 : Int32).toInt64 &&& 63)) ||| ((m.1 q3 v3.toNatClampNeg).toInt64)) (fun v1_7 => lt1 (v3 + 1) (fun v3_9 => some (.inl (v1_7, v3_9))))))))) else (some (.inr (v1)))))
noncomputable def fX12_word_7 (v0 : Nat) (v1 : Int64) (v3 : Int32) (m : Mem) : Option Int64 := bnd (iter (fun s => fX12_word_7b v0 s.1 s.2 m) FU (v1, v3)) (fun e => fX12_word_56 v0 e m)
noncomputable def fX12_word (v0 : Nat) (m : Mem) : Option Int64 := lt1 ((0 : Int64)) (fun v1_11 => gp (KM v0 = 12) (lt1 (m.1 v0 15) (fun v3_14 => fX12_word_7 v0 v1_11 v3_14 m)))
set_option maxHeartbeats 4000000 in
set_option maxRecDepth 100000 in
theorem cX12_word_ct (z : Zx) (ad : Nat → Nat) (v0 : Nat) (m : Mem) (r : Int64) (hf : fX12_word v0 m = some r) : CtL z wM yX12_word cX12_word 4 (some .long) (Rm 2) ad 17 [.ref (ad v0)] m m r := by
  refine ct_ofL mi_X12_word rfl (Nat.le_of_ble_eq_true rfl) (fun x X hret => ?_)
  refine g_lv [(0, .ref (ad v0))] [0] rfl ?_
  have hL56 : ∀ (v0 : Nat) (v1 : Int64), fX12_word_56 v0 v1 m = some r → G z wM x 4 0 0 ad 17 m 56 [(0, .ref (ad v0)), (1, .long v1)] [] := by
    intro v0 v1 hf
    unfold fX12_word_56 at hf
    refine g_aload_n (pc := 56) X dX12_word_56 rfl 0 rfl ?_
    obtain ⟨hk1, hf⟩ := gp_some hf
    refine g_getI (pc := 57) X fl_X12_122 (KMlt hk1 (by decide)) hk1 dX12_word_57 ?_
    refine g_if_ne (pc := 60) (tgt := 67) X dX12_word_60 (by decide) (fun hc => ?_) (fun hc => ?_)
    · have hf := itn hc hf
      refine g_lconst (v := (0 : Int64)) (pc := 67) X dX12_word_67 (by decide) ?_
      obtain rfl := Option.some.inj hf
      exact hret _ _ dX12_word_68
    · have hf := itp hc hf
      refine g_lload_n (pc := 63) X dX12_word_63 rfl 1 rfl ?_
      refine g_goto (pc := 64) (tgt := 68) X dX12_word_64 (by decide) ?_
      obtain rfl := Option.some.inj hf
      exact hret _ _ dX12_word_68
  have hL7 : ∀ (v0 : Nat) (v1 : Int64) (v3 : Int32), fX12_word_7 v0 v1 v3 m = some r → G z wM x 4 0 0 ad 17 m 7 [(0, .ref (ad v0)), (1, .long v1), (3, .int v3)] [] := by
    intro v0 v1 v3 hf
    unfold fX12_word_7 at hf
    obtain ⟨e7, hit7, hrest7⟩ := bnd_some hf
    refine iter_ok (Hd := fun (s : (Int64 × Int32)) => G z wM x 4 0 0 ad 17 m 7 [(0, .ref (ad v0)), (1, .long s.1), (3, .int s.2)] []) ?_ FU (v1, v3) hit7
    intro s ob7 hf hs7 he7
    obtain ⟨v1, v3⟩ := s
    have hf : fX12_word_7b v0 v1 v3 m = some ob7 := hf
    unfold fX12_word_7b at hf
    refine g_iload_n (pc := 7) X dX12_word_7 rfl 2 rfl ?_
    refine g_aload_n (pc := 8) X dX12_word_8 rfl 0 rfl ?_
    obtain ⟨hk2, hf⟩ := gp_some hf
    refine g_getI (pc := 9) X fl_X12_119 (KMlt hk2 (by decide)) hk2 dX12_word_9 ?_
    refine g_icmp_ge (pc := 12) (tgt := 56) X dX12_word_12 (by decide) (fun hc => ?_) (fun hc => ?_)
    · have hf := itp hc hf
      have he7 := he7 _ (Option.some.inj hf).symm
      subst he7
      have hf : fX12_word_56 v0 v1 m = some r := hrest7
      refine g_lv [(0, .ref (ad v0)), (1, .long v1)] [0, 1] rfl ?_
      exact hL56 _ _ hf
    · have hf := itn hc hf
      refine g_aload_n (pc := 15) X dX12_word_15 rfl 0 rfl ?_
      refine g_getI (pc := 16) X fl_X12_110 (KMlt hk2 (by decide)) hk2 dX12_word_16 ?_
      refine g_iconst (v := (2 : Int32)) (pc := 19) X dX12_word_19 (by decide) ?_
      refine g_icmp_ne (pc := 20) (tgt := 56) X dX12_word_20 (by decide) (fun hc => ?_) (fun hc => ?_)
      · have hf := itn hc hf
        have he7 := he7 _ (Option.some.inj hf).symm
        subst he7
        have hf : fX12_word_56 v0 v1 m = some r := hrest7
        refine g_lv [(0, .ref (ad v0)), (1, .long v1)] [0, 1] rfl ?_
        exact hL56 _ _ hf
      · have hf := itp hc hf
        refine g_aload_n (pc := 23) X dX12_word_23 rfl 0 rfl ?_
        refine g_getI (pc := 24) X fl_X12_119 (KMlt hk2 (by decide)) hk2 dX12_word_24 ?_
        refine g_aload_n (pc := 27) X dX12_word_27 rfl 0 rfl ?_
        refine g_getI (pc := 28) X fl_X12_107 (KMlt hk2 (by decide)) hk2 dX12_word_28 ?_
        refine g_isub (pc := 31) X dX12_word_31 ?_
        refine g_bipush (v := (9 : Int32)) (pc := 32) X dX12_word_32 (by decide) ?_
        refine g_icmp_ge (pc := 34) (tgt := 56) X dX12_word_34 (by decide) (fun hc => ?_) (fun hc => ?_)
        · have hf := itp hc hf
          have he7 := he7 _ (Option.some.inj hf).symm
          subst he7
          have hf : fX12_word_56 v0 v1 m = some r := hrest7
          refine g_lv [(0, .ref (ad v0)), (1, .long v1)] [0, 1] rfl ?_
          exact hL56 _ _ hf
        · have hf := itn hc hf
          refine g_lload_n (pc := 37) X dX12_word_37 rfl 1 rfl ?_
          refine g_bipush (v := (8 : Int32)) (pc := 38) X dX12_word_38 (by decide) ?_
          refine g_lshl (pc := 40) X dX12_word_40 ?_
          refine g_aload_n (pc := 41) X dX12_word_41 rfl 0 rfl ?_
          obtain ⟨q3, hr4, hf⟩ := bnd_some hf
          refine g_getR (pc := 42) X fl_X12_28 (KMlt hk2 (by decide)) hk2 hr4 dX12_word_42 ?_
          refine g_iload_n (pc := 45) X dX12_word_45 rfl 2 rfl ?_
          obtain ⟨hk5, hf⟩ := gp_some hf
          obtain ⟨hi6, hf⟩ := gp_some hf
          refine g_iald (pc := 46) X (KMlt hk5 (by decide)) hk5 hi6 dX12_word_46 ?_
          refine g_i2l (pc := 47) X dX12_word_47 ?_
          refine g_lor (pc := 48) X dX12_word_48 ?_
          obtain ⟨v1_7, e8, hf⟩ := lt1_some hf
          refine g_topl e8 ?_
          refine g_lstore_n (lv2 := [(0, .ref (ad v0)), (1, .long v1_7), (3, .int v3)]) (pc := 49) X dX12_word_49 rfl (by decide) [1, 0, 2] rfl ?_
          obtain ⟨v3_9, e10, hf⟩ := lt1_some hf
          refine g_iinc (v2 := v3_9) (lv2 := [(0, .ref (ad v0)), (1, .long v1_7), (3, .int v3_9)]) (pc := 50) X dX12_word_50 2 rfl (by rw [e10]; rfl) (by decide) [1, 2, 0] rfl ?_
          refine g_goto (pc := 53) (tgt := 7) X dX12_word_53 (by decide) ?_
          exact hs7 (v1_7, v3_9) (Option.some.inj hf).symm
  unfold fX12_word at hf
  refine g_lconst (v := (0 : Int64)) (pc := 0) X dX12_word_0 (by decide) ?_
  obtain ⟨v1_11, e12, hf⟩ := lt1_some hf
  refine g_topl e12 ?_
  refine g_lstore_n (lv2 := [(0, .ref (ad v0)), (1, .long v1_11)]) (pc := 1) X dX12_word_1 rfl (by decide) [1, 0] rfl ?_
  refine g_aload_n (pc := 2) X dX12_word_2 rfl 0 rfl ?_
  obtain ⟨hk13, hf⟩ := gp_some hf
  refine g_getI (pc := 3) X fl_X12_107 (KMlt hk13 (by decide)) hk13 dX12_word_3 ?_
  obtain ⟨v3_14, e15, hf⟩ := lt1_some hf
  refine g_topi e15 ?_
  refine g_istore_n (lv2 := [(0, .ref (ad v0)), (1, .long v1_11), (3, .int v3_14)]) (pc := 6) X dX12_word_6 rfl (by decide) [1, 2, 0] rfl ?_
  exact hL7 _ _ _ hf

noncomputable def fX12_number_95 (v3 : Int32) (s0 : Nat) (s1 : Int32) (m : Mem) : Option (Int32 × Mem) := gp (KM s0 = 12) (bnd (fX12_must s0 s1 m) (fun m2 => some (v3, m2)))
noncomputable def fX12_number_81 (v0 : Nat) (v3 : Int32) (m : Mem) : Option (Int32 × Mem) := gp (KM v0 = 12) (if (m.1 v0 14) = (3 : Int32) then (fX12_number_95 v3 v0 (1 : Int32) m) else (fX12_number_95 v3 v0 (0 : Int32) m))
noncomputable def fX12_number_56 (v0 : Nat) (v1 : Int32) (v2 : Int32) (v3 : Int32) (m : Mem) : Option (Int32 × Mem) := gp (KM v0 = 12) (if (m.1 v0 14) = (3 : Int32) then (bnd (fX12_in v3.toInt64 v1.toInt64 v2.toInt64) (fun r7 => if r7 = 0 then (bnd (fX12_bad v0 (2 : Int32) m) (fun m9 => fX12_number_81 v0 v3 m9)) else (fX12_number_81 v0 v3 m))) else (fX12_number_81 v0 v3 m))
noncomputable def fX12_number_17b (v0 : Nat) (v1 : Int32) (v2 : Int32) (v3 : Int32) (v4 : Int32) (m : Mem) : Option ((Int32 × Int32) ⊕ (Int32)) := gp (KM v0 = 12) (if (m.1 v0 16) ≤ v4 then (some (.inr (v3))) else (if (m.1 v0 14) = (3 : Int32) then (bnd (m.2.2 v0 9) (fun q11 => gp (KM q11 = 14) (gp (inb v4 (NM q11) = true) (lt1 ((((10 : Int32) * v3) + (m.1 q11 v4.toNatClampNeg)) - (48 : Int32)) (fun v3_15 => lt1 (v4 + 1) (fun v4_17 => some (.inl (v3_15, v4_17)))))))) else (some (.inr (v3)))))
noncomputable def fX12_number_17 (v0 : Nat) (v1 : Int32) (v2 : Int32) (v3 : Int32) (v4 : Int32) (m : Mem) : Option (Int32 × Mem) := bnd (iter (fun s => fX12_number_17b v0 v1 v2 s.1 s.2 m) FU (v3, v4)) (fun e => fX12_number_56 v0 v1 v2 e m)
noncomputable def fX12_number (v0 : Nat) (v1 : Int32) (v2 : Int32) (m : Mem) : Option (Int32 × Mem) := gp (KM v0 = 12) (if (m.1 v0 17) ≤ 0 then (lt1 ((0 : Int32)) (fun v3_20 => lt1 (m.1 v0 15) (fun v4_22 => fX12_number_17 v0 v1 v2 v3_20 v4_22 m))) else (some ((0 : Int32), m)))
set_option maxHeartbeats 4000000 in
set_option maxRecDepth 100000 in
theorem cX12_number_ct (z : Zx) (ad : Nat → Nat) (v0 : Nat) (v1 : Int32) (v2 : Int32) (m m2 : Mem) (r : Int32) (hf : fX12_number v0 v1 v2 m = some (r, m2)) : CtI z wM yX12_number cX12_number 5 (some .int) (Rm 5) ad 17 [.ref (ad v0), .int v1, .int v2] m m2 r := by
  refine ct_ofI mi_X12_number rfl (Nat.le_of_ble_eq_true rfl) (fun x X hret => ?_)
  refine g_lv [(0, .ref (ad v0)), (1, .int v1), (2, .int v2)] [0, 1, 2] rfl ?_
  have hL95 : ∀ (v3 : Int32) (s0 : Nat) (s1 : Int32) (m : Mem), fX12_number_95 v3 s0 s1 m = some (r, m2) → G z wM x 5 0 0 ad 17 m 95 [(3, .int v3)] [.int s1, .ref (ad s0)] := by
    intro v3 s0 s1 m hf
    unfold fX12_number_95 at hf
    obtain ⟨hk3, hf⟩ := gp_some hf
    obtain ⟨m2, hq1, hf⟩ := bnd_some hf
    refine g_callVV (pc := 95) (As := [.int s1]) (rest := []) X mi_X12_must im_X12_must se_X12_must (KMlt hk3 (by decide)) hk3 clX12 ml_X12_135 (cX12_must_ct z ad s0 s1 m m2 hq1) rfl rfl (Nat.le_of_ble_eq_true rfl) ⟨rfl, rfl, by decide, by decide, Nat.le_refl _, Nat.le_refl _⟩ dX12_number_95 ?_
    refine g_iload_n (pc := 98) X dX12_number_98 rfl 0 rfl ?_
    obtain ⟨rfl, rfl⟩ := som2 hf
    exact hret _ _ rfl dX12_number_99
  have hL81 : ∀ (v0 : Nat) (v3 : Int32) (m : Mem), fX12_number_81 v0 v3 m = some (r, m2) → G z wM x 5 0 0 ad 17 m 81 [(0, .ref (ad v0)), (3, .int v3)] [] := by
    intro v0 v3 m hf
    unfold fX12_number_81 at hf
    refine g_aload_n (pc := 81) X dX12_number_81 rfl 0 rfl ?_
    refine g_aload_n (pc := 82) X dX12_number_82 rfl 0 rfl ?_
    obtain ⟨hk4, hf⟩ := gp_some hf
    refine g_getI (pc := 83) X fl_X12_110 (KMlt hk4 (by decide)) hk4 dX12_number_83 ?_
    refine g_iconst (v := (3 : Int32)) (pc := 86) X dX12_number_86 (by decide) ?_
    refine g_icmp_ne (pc := 87) (tgt := 94) X dX12_number_87 (by decide) (fun hc => ?_) (fun hc => ?_)
    · have hf := itn hc hf
      refine g_iconst (v := (0 : Int32)) (pc := 94) X dX12_number_94 (by decide) ?_
      refine g_lv [(3, .int v3)] [1] rfl ?_
      exact hL95 _ _ _ _ hf
    · have hf := itp hc hf
      refine g_iconst (v := (1 : Int32)) (pc := 90) X dX12_number_90 (by decide) ?_
      refine g_goto (pc := 91) (tgt := 95) X dX12_number_91 (by decide) ?_
      refine g_lv [(3, .int v3)] [1] rfl ?_
      exact hL95 _ _ _ _ hf
  have hL56 : ∀ (v0 : Nat) (v1 : Int32) (v2 : Int32) (v3 : Int32) (m : Mem), fX12_number_56 v0 v1 v2 v3 m = some (r, m2) → G z wM x 5 0 0 ad 17 m 56 [(0, .ref (ad v0)), (1, .int v1), (2, .int v2), (3, .int v3)] [] := by
    intro v0 v1 v2 v3 m hf
    unfold fX12_number_56 at hf
    refine g_aload_n (pc := 56) X dX12_number_56 rfl 0 rfl ?_
    obtain ⟨hk5, hf⟩ := gp_some hf
    refine g_getI (pc := 57) X fl_X12_110 (KMlt hk5 (by decide)) hk5 dX12_number_57 ?_
    refine g_iconst (v := (3 : Int32)) (pc := 60) X dX12_number_60 (by decide) ?_
    refine g_icmp_ne (pc := 61) (tgt := 81) X dX12_number_61 (by decide) (fun hc => ?_) (fun hc => ?_)
    · have hf := itn hc hf
      refine g_lv [(0, .ref (ad v0)), (3, .int v3)] [0, 3] rfl ?_
      exact hL81 _ _ _ hf
    · have hf := itp hc hf
      refine g_iload_n (pc := 64) X dX12_number_64 rfl 3 rfl ?_
      refine g_i2l (pc := 65) X dX12_number_65 ?_
      refine g_iload_n (pc := 66) X dX12_number_66 rfl 1 rfl ?_
      refine g_i2l (pc := 67) X dX12_number_67 ?_
      refine g_iload_n (pc := 68) X dX12_number_68 rfl 2 rfl ?_
      refine g_i2l (pc := 69) X dX12_number_69 ?_
      obtain ⟨r7, hq6, hf⟩ := bnd_some hf
      refine g_callSI (pc := 70) (As := [.long v3.toInt64, .long v1.toInt64, .long v2.toInt64]) (rest := []) X mi_X12_in sm_X12_in ml_X12_71 (cX12_in_ct z ad v3.toInt64 v1.toInt64 v2.toInt64 m r7 hq6) rfl rfl (Nat.le_of_ble_eq_true rfl) ⟨rfl, rfl, by decide, by decide, Nat.le_refl _, Nat.le_refl _⟩ dX12_number_70 ?_
      refine g_if_ne (pc := 73) (tgt := 81) X dX12_number_73 (by decide) (fun hc => ?_) (fun hc => ?_)
      · have hf := itn hc hf
        refine g_lv [(0, .ref (ad v0)), (3, .int v3)] [0, 3] rfl ?_
        exact hL81 _ _ _ hf
      · have hf := itp hc hf
        refine g_aload_n (pc := 76) X dX12_number_76 rfl 0 rfl ?_
        refine g_iconst (v := (2 : Int32)) (pc := 77) X dX12_number_77 (by decide) ?_
        obtain ⟨m9, hq8, hf⟩ := bnd_some hf
        refine g_callVV (pc := 78) (As := [.int (2 : Int32)]) (rest := []) X mi_X12_bad im_X12_bad se_X12_bad (KMlt hk5 (by decide)) hk5 clX12 ml_X12_128 (cX12_bad_ct z ad v0 (2 : Int32) m m9 hq8) rfl rfl (Nat.le_of_ble_eq_true rfl) ⟨rfl, rfl, by decide, by decide, Nat.le_refl _, Nat.le_refl _⟩ dX12_number_78 ?_
        refine g_lv [(0, .ref (ad v0)), (3, .int v3)] [0, 3] rfl ?_
        exact hL81 _ _ _ hf
  have hL17 : ∀ (v0 : Nat) (v1 : Int32) (v2 : Int32) (v3 : Int32) (v4 : Int32) (m : Mem), fX12_number_17 v0 v1 v2 v3 v4 m = some (r, m2) → G z wM x 5 0 0 ad 17 m 17 [(0, .ref (ad v0)), (1, .int v1), (2, .int v2), (3, .int v3), (4, .int v4)] [] := by
    intro v0 v1 v2 v3 v4 m hf
    unfold fX12_number_17 at hf
    obtain ⟨e17, hit17, hrest17⟩ := bnd_some hf
    refine iter_ok (Hd := fun (s : (Int32 × Int32)) => G z wM x 5 0 0 ad 17 m 17 [(0, .ref (ad v0)), (1, .int v1), (2, .int v2), (3, .int s.1), (4, .int s.2)] []) ?_ FU (v3, v4) hit17
    intro s ob17 hf hs17 he17
    obtain ⟨v3, v4⟩ := s
    have hf : fX12_number_17b v0 v1 v2 v3 v4 m = some ob17 := hf
    unfold fX12_number_17b at hf
    refine g_iload (pc := 17) X dX12_number_17 4 rfl ?_
    refine g_aload_n (pc := 19) X dX12_number_19 rfl 0 rfl ?_
    obtain ⟨hk10, hf⟩ := gp_some hf
    refine g_getI (pc := 20) X fl_X12_119 (KMlt hk10 (by decide)) hk10 dX12_number_20 ?_
    refine g_icmp_ge (pc := 23) (tgt := 56) X dX12_number_23 (by decide) (fun hc => ?_) (fun hc => ?_)
    · have hf := itp hc hf
      have he17 := he17 _ (Option.some.inj hf).symm
      subst he17
      have hf : fX12_number_56 v0 v1 v2 v3 m = some (r, m2) := hrest17
      refine g_lv [(0, .ref (ad v0)), (1, .int v1), (2, .int v2), (3, .int v3)] [0, 1, 2, 3] rfl ?_
      exact hL56 _ _ _ _ _ hf
    · have hf := itn hc hf
      refine g_aload_n (pc := 26) X dX12_number_26 rfl 0 rfl ?_
      refine g_getI (pc := 27) X fl_X12_110 (KMlt hk10 (by decide)) hk10 dX12_number_27 ?_
      refine g_iconst (v := (3 : Int32)) (pc := 30) X dX12_number_30 (by decide) ?_
      refine g_icmp_ne (pc := 31) (tgt := 56) X dX12_number_31 (by decide) (fun hc => ?_) (fun hc => ?_)
      · have hf := itn hc hf
        have he17 := he17 _ (Option.some.inj hf).symm
        subst he17
        have hf : fX12_number_56 v0 v1 v2 v3 m = some (r, m2) := hrest17
        refine g_lv [(0, .ref (ad v0)), (1, .int v1), (2, .int v2), (3, .int v3)] [0, 1, 2, 3] rfl ?_
        exact hL56 _ _ _ _ _ hf
      · have hf := itp hc hf
        refine g_bipush (v := (10 : Int32)) (pc := 34) X dX12_number_34 (by decide) ?_
        refine g_iload_n (pc := 36) X dX12_number_36 rfl 3 rfl ?_
        refine g_imul (pc := 37) X dX12_number_37 ?_
        refine g_aload_n (pc := 38) X dX12_number_38 rfl 0 rfl ?_
        obtain ⟨q11, hr12, hf⟩ := bnd_some hf
        refine g_getR (pc := 39) X fl_X12_28 (KMlt hk10 (by decide)) hk10 hr12 dX12_number_39 ?_
        refine g_iload (pc := 42) X dX12_number_42 4 rfl ?_
        obtain ⟨hk13, hf⟩ := gp_some hf
        obtain ⟨hi14, hf⟩ := gp_some hf
        refine g_iald (pc := 44) X (KMlt hk13 (by decide)) hk13 hi14 dX12_number_44 ?_
        refine g_iadd (pc := 45) X dX12_number_45 ?_
        refine g_bipush (v := (48 : Int32)) (pc := 46) X dX12_number_46 (by decide) ?_
        refine g_isub (pc := 48) X dX12_number_48 ?_
        obtain ⟨v3_15, e16, hf⟩ := lt1_some hf
        refine g_topi e16 ?_
        refine g_istore_n (lv2 := [(0, .ref (ad v0)), (1, .int v1), (2, .int v2), (3, .int v3_15), (4, .int v4)]) (pc := 49) X dX12_number_49 rfl (by decide) [1, 2, 3, 0, 4] rfl ?_
        obtain ⟨v4_17, e18, hf⟩ := lt1_some hf
        refine g_iinc (v2 := v4_17) (lv2 := [(0, .ref (ad v0)), (1, .int v1), (2, .int v2), (3, .int v3_15), (4, .int v4_17)]) (pc := 50) X dX12_number_50 4 rfl (by rw [e18]; rfl) (by decide) [1, 2, 3, 4, 0] rfl ?_
        refine g_goto (pc := 53) (tgt := 17) X dX12_number_53 (by decide) ?_
        exact hs17 (v3_15, v4_17) (Option.some.inj hf).symm
  unfold fX12_number at hf
  refine g_aload_n (pc := 0) X dX12_number_0 rfl 0 rfl ?_
  obtain ⟨hk19, hf⟩ := gp_some hf
  refine g_getI (pc := 1) X fl_X12_122 (KMlt hk19 (by decide)) hk19 dX12_number_1 ?_
  refine g_if_le (pc := 4) (tgt := 9) X dX12_number_4 (by decide) (fun hc => ?_) (fun hc => ?_)
  · have hf := itp hc hf
    refine g_iconst (v := (0 : Int32)) (pc := 9) X dX12_number_9 (by decide) ?_
    obtain ⟨v3_20, e21, hf⟩ := lt1_some hf
    refine g_topi e21 ?_
    refine g_istore_n (lv2 := [(0, .ref (ad v0)), (1, .int v1), (2, .int v2), (3, .int v3_20)]) (pc := 10) X dX12_number_10 rfl (by decide) [1, 2, 3, 0] rfl ?_
    refine g_aload_n (pc := 11) X dX12_number_11 rfl 0 rfl ?_
    refine g_getI (pc := 12) X fl_X12_107 (KMlt hk19 (by decide)) hk19 dX12_number_12 ?_
    obtain ⟨v4_22, e23, hf⟩ := lt1_some hf
    refine g_topi e23 ?_
    refine g_istore (lv2 := [(0, .ref (ad v0)), (1, .int v1), (2, .int v2), (3, .int v3_20), (4, .int v4_22)]) (pc := 15) X dX12_number_15 (by decide) [1, 2, 3, 4, 0] rfl ?_
    exact hL17 _ _ _ _ _ _ hf
  · have hf := itn hc hf
    refine g_iconst (v := (0 : Int32)) (pc := 7) X dX12_number_7 (by decide) ?_
    obtain ⟨rfl, rfl⟩ := som2 hf
    exact hret _ _ rfl dX12_number_8

noncomputable def fX12_begins_15 (v0 : Nat) (m : Mem) : Option Mem := gp (KM v0 = 12) (bnd (fX12_must v0 (1 : Int32) m) (fun m2 => some m2))
noncomputable def fX12_begins (v0 : Nat) (v1 : Int32) (v2 : Int32) (m : Mem) : Option Mem := gp (KM v0 = 12) (bnd (m.2.2 v0 6) (fun q5 => gp (KM q5 = 14) (gp (inb v1 (NM q5) = true) (if (m.1 q5 v1.toNatClampNeg) = v2 then (bnd (fX12_bad v0 (3 : Int32) m) (fun m10 => fX12_begins_15 v0 m10)) else (fX12_begins_15 v0 m)))))
set_option maxHeartbeats 4000000 in
set_option maxRecDepth 100000 in
theorem cX12_begins_ct (z : Zx) (ad : Nat → Nat) (v0 : Nat) (v1 : Int32) (v2 : Int32) (m m2 : Mem) (hf : fX12_begins v0 v1 v2 m = some m2) : CtV z wM yX12_begins cX12_begins 3 none (Rm 5) ad 17 [.ref (ad v0), .int v1, .int v2] m m2 := by
  refine ct_ofV mi_X12_begins rfl (Nat.le_of_ble_eq_true rfl) (fun x X hret => ?_)
  refine g_lv [(0, .ref (ad v0)), (1, .int v1), (2, .int v2)] [0, 1, 2] rfl ?_
  have hL15 : ∀ (v0 : Nat) (m : Mem), fX12_begins_15 v0 m = some m2 → G z wM x 3 0 0 ad 17 m 15 [(0, .ref (ad v0))] [] := by
    intro v0 m hf
    unfold fX12_begins_15 at hf
    refine g_aload_n (pc := 15) X dX12_begins_15 rfl 0 rfl ?_
    refine g_iconst (v := (1 : Int32)) (pc := 16) X dX12_begins_16 (by decide) ?_
    obtain ⟨hk3, hf⟩ := gp_some hf
    obtain ⟨m2, hq1, hf⟩ := bnd_some hf
    refine g_callVV (pc := 17) (As := [.int (1 : Int32)]) (rest := []) X mi_X12_must im_X12_must se_X12_must (KMlt hk3 (by decide)) hk3 clX12 ml_X12_135 (cX12_must_ct z ad v0 (1 : Int32) m m2 hq1) rfl rfl (Nat.le_of_ble_eq_true rfl) ⟨rfl, rfl, by decide, by decide, Nat.le_refl _, Nat.le_refl _⟩ dX12_begins_17 ?_
    obtain rfl := Option.some.inj hf
    exact hret _ _ dX12_begins_20
  unfold fX12_begins at hf
  refine g_aload_n (pc := 0) X dX12_begins_0 rfl 0 rfl ?_
  obtain ⟨hk4, hf⟩ := gp_some hf
  obtain ⟨q5, hr6, hf⟩ := bnd_some hf
  refine g_getR (pc := 1) X fl_X12_22 (KMlt hk4 (by decide)) hk4 hr6 dX12_begins_1 ?_
  refine g_iload_n (pc := 4) X dX12_begins_4 rfl 1 rfl ?_
  obtain ⟨hk7, hf⟩ := gp_some hf
  obtain ⟨hi8, hf⟩ := gp_some hf
  refine g_iald (pc := 5) X (KMlt hk7 (by decide)) hk7 hi8 dX12_begins_5 ?_
  refine g_iload_n (pc := 6) X dX12_begins_6 rfl 2 rfl ?_
  refine g_icmp_ne (pc := 7) (tgt := 15) X dX12_begins_7 (by decide) (fun hc => ?_) (fun hc => ?_)
  · have hf := itn hc hf
    refine g_lv [(0, .ref (ad v0))] [0] rfl ?_
    exact hL15 _ _ hf
  · have hf := itp hc hf
    refine g_aload_n (pc := 10) X dX12_begins_10 rfl 0 rfl ?_
    refine g_iconst (v := (3 : Int32)) (pc := 11) X dX12_begins_11 (by decide) ?_
    obtain ⟨m10, hq9, hf⟩ := bnd_some hf
    refine g_callVV (pc := 12) (As := [.int (3 : Int32)]) (rest := []) X mi_X12_bad im_X12_bad se_X12_bad (KMlt hk4 (by decide)) hk4 clX12 ml_X12_128 (cX12_bad_ct z ad v0 (3 : Int32) m m10 hq9) rfl rfl (Nat.le_of_ble_eq_true rfl) ⟨rfl, rfl, by decide, by decide, Nat.le_refl _, Nat.le_refl _⟩ dX12_begins_12 ?_
    refine g_lv [(0, .ref (ad v0))] [0] rfl ?_
    exact hL15 _ _ hf

