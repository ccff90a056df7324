noncomputable def fX12_leftAt_87 (v0 : Nat) (v4 : Int32) (v5 : Int64) (v7 : Int32) (m : Mem) : Option ((Int32 × Int64 × Int32) ⊕ (Int32)) := lt1 (v7 + 1) (fun v7_1 => some (.inl (v4, v5, v7_1)))
noncomputable def fX12_leftAt_54b (v0 : Nat) (v4 : Int32) (v5 : Int64) (v7 : Int32) (m : Mem) : Option ((Int32 × Int64 × Int32) ⊕ (Int32)) := if (9 : Int32) ≤ v7 then (some (.inr (v4))) else (gp (KM v0 = 12) (bnd (m.2.2 v0 23) (fun q4 => gp (KM q4 = 15) (gp (inb v7 (NM q4) = true) (if (m.2.1 q4 v7.toNatClampNeg) ≤ v5 then (fX12_leftAt_87 v0 v4 v5 v7 m) else (gp (inb v7 (NM q4) = true) (lt1 (m.2.1 q4 v7.toNatClampNeg) (fun v5_9 => fX12_leftAt_87 v0 v7 v5_9 v7 m))))))))
noncomputable def fX12_leftAt_54 (v0 : Nat) (v4 : Int32) (v5 : Int64) (v7 : Int32) (m : Mem) : Option (Int64 × Mem) := bnd (iter (fun s => fX12_leftAt_54b v0 s.1 s.2.1 s.2.2 m) FU (v4, v5, v7)) (fun e => some (e.toInt64, m))
noncomputable def fX12_leftAt (v0 : Nat) (v1 : Int32) (v2 : Int32) (v3 : Int32) (m : Mem) : Option (Int64 × Mem) := gp (KM v0 = 12) (lt1 (uI m v0 0 (0 : Int32)) (fun m12 => bnd (fX12_in v1.toInt64 (1 : Int64) (511 : Int64)) (fun r15 => if r15 = 0 then (some ((-9000000000000000001 : Int64), m12)) else (bnd (fX12_isOpen v0 v2 m12) (fun r17 => if r17 = 0 then (some ((-9000000000000000001 : Int64), m12)) else (bnd (fX12_isAny v0 v3 m12) (fun r19 => if r19 = 0 then (some ((-9000000000000000001 : Int64), m12)) else (bnd (fX12_findBrings v0 v1 v2 v3 m12) (fun m21 => lt1 ((-1000000 : Int32)) (fun v4_22 => lt1 ((0 : Int64)) (fun v5_24 => lt1 ((0 : Int32)) (fun v7_26 => fX12_leftAt_54 v0 v4_22 v5_24 v7_26 m21))))))))))))
set_option maxHeartbeats 4000000 in
set_option maxRecDepth 100000 in
theorem cX12_leftAt_ct (z : Zx) (ad : Nat → Nat) (v0 : Nat) (v1 : Int32) (v2 : Int32) (v3 : Int32) (m m2 : Mem) (r : Int64) (hf : fX12_leftAt v0 v1 v2 v3 m = some (r, m2)) : CtL z wM yX12_leftAt cX12_leftAt 8 (some .long) (Rm 7) ad 17 [.ref (ad v0), .int v1, .int v2, .int v3] m m2 r := by
  refine ct_ofL mi_X12_leftAt rfl (Nat.le_of_ble_eq_true rfl) (fun x X hret => ?_)
  refine g_lv [(0, .ref (ad v0)), (1, .int v1), (2, .int v2), (3, .int v3)] [0, 1, 2, 3] rfl ?_
  have hL54 : ∀ (v0 : Nat) (v4 : Int32) (v5 : Int64) (v7 : Int32) (m : Mem), fX12_leftAt_54 v0 v4 v5 v7 m = some (r, m2) → G z wM x 8 0 0 ad 17 m 54 [(0, .ref (ad v0)), (4, .int v4), (5, .long v5), (7, .int v7)] [] := by
    intro v0 v4 v5 v7 m hf
    unfold fX12_leftAt_54 at hf
    obtain ⟨e54, hit54, hrest54⟩ := bnd_some hf
    refine iter_ok (Hd := fun (s : (Int32 × Int64 × Int32)) => G z wM x 8 0 0 ad 17 m 54 [(0, .ref (ad v0)), (4, .int s.1), (5, .long s.2.1), (7, .int s.2.2)] []) ?_ FU (v4, v5, v7) hit54
    intro s ob54 hf hs54 he54
    obtain ⟨v4, v5, v7⟩ := s
    have hf : fX12_leftAt_54b v0 v4 v5 v7 m = some ob54 := hf
    have hL87 : ∀ (v4 : Int32) (v5 : Int64) (v7 : Int32), fX12_leftAt_87 v0 v4 v5 v7 m = some ob54 → G z wM x 8 0 0 ad 17 m 87 [(0, .ref (ad v0)), (4, .int v4), (5, .long v5), (7, .int v7)] [] := by
      intro v4 v5 v7 hf
      unfold fX12_leftAt_87 at hf
      obtain ⟨v7_1, e2, hf⟩ := lt1_some hf
      refine g_iinc (v2 := v7_1) (lv2 := [(0, .ref (ad v0)), (4, .int v4), (5, .long v5), (7, .int v7_1)]) (pc := 87) X dX12_leftAt_87 3 rfl (by rw [e2]; rfl) (by decide) [1, 2, 3, 0] rfl ?_
      refine g_goto (pc := 90) (tgt := 54) X dX12_leftAt_90 (by decide) ?_
      exact hs54 (v4, v5, v7_1) (Option.some.inj hf).symm
    unfold fX12_leftAt_54b at hf
    refine g_iload (pc := 54) X dX12_leftAt_54 3 rfl ?_
    refine g_bipush (v := (9 : Int32)) (pc := 56) X dX12_leftAt_56 (by decide) ?_
    refine g_icmp_ge (pc := 58) (tgt := 93) X dX12_leftAt_58 (by decide) (fun hc => ?_) (fun hc => ?_)
    · have hf := itp hc hf
      have he54 := he54 _ (Option.some.inj hf).symm
      subst he54
      have hf : some (v4.toInt64, m) = some (r, m2) := hrest54
      refine g_iload (pc := 93) X dX12_leftAt_93 1 rfl ?_
      refine g_i2l (pc := 95) X dX12_leftAt_95 ?_
      obtain ⟨rfl, rfl⟩ := som2 hf
      exact hret _ _ dX12_leftAt_96
    · have hf := itn hc hf
      refine g_aload_n (pc := 61) X dX12_leftAt_61 rfl 0 rfl ?_
      obtain ⟨hk3, hf⟩ := gp_some hf
      obtain ⟨q4, hr5, hf⟩ := bnd_some hf
      refine g_getR (pc := 62) X fl_X12_44 (KMlt hk3 (by decide)) hk3 hr5 dX12_leftAt_62 ?_
      refine g_iload (pc := 65) X dX12_leftAt_65 3 rfl ?_
      obtain ⟨hk6, hf⟩ := gp_some hf
      obtain ⟨hi7, hf⟩ := gp_some hf
      refine g_lald (pc := 67) X (KMlt hk6 (by decide)) hk6 hi7 dX12_leftAt_67 ?_
      refine g_lload (pc := 68) X dX12_leftAt_68 2 rfl ?_
      refine g_lcmp_le (pc := 70) (tgt := 87) X dX12_leftAt_70 dX12_leftAt_71 (by decide) (fun hc => ?_) (fun hc => ?_)
      · have hf := itp hc hf
        exact hL87 _ _ _ hf
      · have hf := itn hc hf
        refine g_iload (pc := 74) X dX12_leftAt_74 3 rfl ?_
        refine g_istore (lv2 := [(0, .ref (ad v0)), (4, .int v7), (5, .long v5), (7, .int v7)]) (pc := 76) X dX12_leftAt_76 (by decide) [1, 0, 2, 3] rfl ?_
        refine g_aload_n (pc := 78) X dX12_leftAt_78 rfl 0 rfl ?_
        refine g_getR (pc := 79) X fl_X12_44 (KMlt hk3 (by decide)) hk3 hr5 dX12_leftAt_79 ?_
        refine g_iload (pc := 82) X dX12_leftAt_82 3 rfl ?_
        obtain ⟨hi8, hf⟩ := gp_some hf
        refine g_lald (pc := 84) X (KMlt hk6 (by decide)) hk6 hi8 dX12_leftAt_84 ?_
        obtain ⟨v5_9, e10, hf⟩ := lt1_some hf
        refine g_topl e10 ?_
        refine g_lstore (lv2 := [(0, .ref (ad v0)), (4, .int v7), (5, .long v5_9), (7, .int v7)]) (pc := 85) X dX12_leftAt_85 (by decide) [1, 2, 0, 3] rfl ?_
        exact hL87 _ _ _ hf
  unfold fX12_leftAt at hf
  refine g_aload_n (pc := 0) X dX12_leftAt_0 rfl 0 rfl ?_
  refine g_iconst (v := (0 : Int32)) (pc := 1) X dX12_leftAt_1 (by decide) ?_
  obtain ⟨hk11, hf⟩ := gp_some hf
  refine g_putI (pc := 2) X fl_X12_60 (KMlt hk11 (by decide)) hk11 rfl rfl dX12_leftAt_2 ?_
  obtain ⟨m12, e13, hf⟩ := lt1_some hf
  refine g_mem e13 ?_
  refine g_iload_n (pc := 5) X dX12_leftAt_5 rfl 1 rfl ?_
  refine g_i2l (pc := 6) X dX12_leftAt_6 ?_
  refine g_lconst (v := (1 : Int64)) (pc := 7) X dX12_leftAt_7 (by decide) ?_
  refine g_ldc2 (pc := 8) X dX12_leftAt_8 kl_X12_320 ?_
  obtain ⟨r15, hq14, hf⟩ := bnd_some hf
  refine g_callSI (pc := 11) (As := [.long v1.toInt64, .long (1 : Int64), .long (511 : Int64)]) (rest := []) X mi_X12_in sm_X12_in ml_X12_71 (cX12_in_ct z ad v1.toInt64 (1 : Int64) (511 : Int64) m12 r15 hq14) rfl rfl (Nat.le_of_ble_eq_true rfl) ⟨rfl, rfl, by decide, by decide, Nat.le_refl _, Nat.le_refl _⟩ dX12_leftAt_11 ?_
  refine g_if_eq (pc := 14) (tgt := 33) X dX12_leftAt_14 (by decide) (fun hc => ?_) (fun hc => ?_)
  · have hf := itp hc hf
    refine g_ldc2 (pc := 33) X dX12_leftAt_33 kl_X12_81 ?_
    obtain ⟨rfl, rfl⟩ := som2 hf
    exact hret _ _ dX12_leftAt_36
  · have hf := itn hc hf
    refine g_aload_n (pc := 17) X dX12_leftAt_17 rfl 0 rfl ?_
    refine g_iload_n (pc := 18) X dX12_leftAt_18 rfl 2 rfl ?_
    obtain ⟨r17, hq16, hf⟩ := bnd_some hf
    refine g_callVI (pc := 19) (As := [.int v2]) (rest := []) X mi_X12_isOpen im_X12_isOpen se_X12_isOpen (KMlt hk11 (by decide)) hk11 clX12 ml_X12_302 (cX12_isOpen_ct z ad v0 v2 m12 r17 hq16) rfl rfl (Nat.le_of_ble_eq_true rfl) ⟨rfl, rfl, by decide, by decide, Nat.le_refl _, Nat.le_refl _⟩ dX12_leftAt_19 ?_
    refine g_if_eq (pc := 22) (tgt := 33) X dX12_leftAt_22 (by decide) (fun hc => ?_) (fun hc => ?_)
    · have hf := itp hc hf
      refine g_ldc2 (pc := 33) X dX12_leftAt_33 kl_X12_81 ?_
      obtain ⟨rfl, rfl⟩ := som2 hf
      exact hret _ _ dX12_leftAt_36
    · have hf := itn hc hf
      refine g_aload_n (pc := 25) X dX12_leftAt_25 rfl 0 rfl ?_
      refine g_iload_n (pc := 26) X dX12_leftAt_26 rfl 3 rfl ?_
      obtain ⟨r19, hq18, hf⟩ := bnd_some hf
      refine g_callVI (pc := 27) (As := [.int v3]) (rest := []) X mi_X12_isAny im_X12_isAny se_X12_isAny (KMlt hk11 (by decide)) hk11 clX12 ml_X12_249 (cX12_isAny_ct z ad v0 v3 m12 r19 hq18) rfl rfl (Nat.le_of_ble_eq_true rfl) ⟨rfl, rfl, by decide, by decide, Nat.le_refl _, Nat.le_refl _⟩ dX12_leftAt_27 ?_
      refine g_if_ne (pc := 30) (tgt := 37) X dX12_leftAt_30 (by decide) (fun hc => ?_) (fun hc => ?_)
      · have hf := itn hc hf
        refine g_aload_n (pc := 37) X dX12_leftAt_37 rfl 0 rfl ?_
        refine g_iload_n (pc := 38) X dX12_leftAt_38 rfl 1 rfl ?_
        refine g_iload_n (pc := 39) X dX12_leftAt_39 rfl 2 rfl ?_
        refine g_iload_n (pc := 40) X dX12_leftAt_40 rfl 3 rfl ?_
        obtain ⟨m21, hq20, hf⟩ := bnd_some hf
        refine g_callVV (pc := 41) (As := [.int v1, .int v2, .int v3]) (rest := []) X mi_X12_findBrings im_X12_findBrings se_X12_findBrings (KMlt hk11 (by decide)) hk11 clX12 ml_X12_322 (cX12_findBrings_ct z ad v0 v1 v2 v3 m12 m21 hq20) rfl rfl (Nat.le_of_ble_eq_true rfl) ⟨rfl, rfl, by decide, by decide, Nat.le_refl _, Nat.le_refl _⟩ dX12_leftAt_41 ?_
        refine g_ldc (pc := 44) X dX12_leftAt_44 k_X12_99 ?_
        obtain ⟨v4_22, e23, hf⟩ := lt1_some hf
        refine g_topi e23 ?_
        refine g_istore (lv2 := [(0, .ref (ad v0)), (1, .int v1), (2, .int v2), (3, .int v3), (4, .int v4_22)]) (pc := 46) X dX12_leftAt_46 (by decide) [1, 2, 3, 4, 0] rfl ?_
        refine g_lconst (v := (0 : Int64)) (pc := 48) X dX12_leftAt_48 (by decide) ?_
        obtain ⟨v5_24, e25, hf⟩ := lt1_some hf
        refine g_topl e25 ?_
        refine g_lstore (lv2 := [(0, .ref (ad v0)), (1, .int v1), (2, .int v2), (3, .int v3), (4, .int v4_22), (5, .long v5_24)]) (pc := 49) X dX12_leftAt_49 (by decide) [1, 2, 3, 4, 5, 0] rfl ?_
        refine g_iconst (v := (0 : Int32)) (pc := 51) X dX12_leftAt_51 (by decide) ?_
        obtain ⟨v7_26, e27, hf⟩ := lt1_some hf
        refine g_topi e27 ?_
        refine g_istore (lv2 := [(0, .ref (ad v0)), (1, .int v1), (2, .int v2), (3, .int v3), (4, .int v4_22), (5, .long v5_24), (7, .int v7_26)]) (pc := 52) X dX12_leftAt_52 (by decide) [1, 2, 3, 4, 5, 6, 0] rfl ?_
        refine g_lv [(0, .ref (ad v0)), (4, .int v4_22), (5, .long v5_24), (7, .int v7_26)] [0, 4, 5, 6] rfl ?_
        exact hL54 _ _ _ _ _ hf
      · have hf := itp hc hf
        refine g_ldc2 (pc := 33) X dX12_leftAt_33 kl_X12_81 ?_
        obtain ⟨rfl, rfl⟩ := som2 hf
        exact hret _ _ dX12_leftAt_36

noncomputable def fX12_leftOdds (v0 : Nat) (v1 : Int32) (v2 : Int32) (v3 : Int32) (v4 : Int32) (v5 : Int32) (m : Mem) : Option (Int64 × Mem) := gp (KM v0 = 12) (lt1 (uI m v0 0 (0 : Int32)) (fun m2 => bnd (fX12_in v1.toInt64 (1 : Int64) (511 : Int64)) (fun r5 => if r5 = 0 then (some ((-9000000000000000001 : Int64), m2)) else (bnd (fX12_isOpen v0 v2 m2) (fun r7 => if r7 = 0 then (some ((-9000000000000000001 : Int64), m2)) else (bnd (fX12_isAny v0 v3 m2) (fun r9 => if r9 = 0 then (some ((-9000000000000000001 : Int64), m2)) else (bnd (fX12_in v4.toInt64 (0 : Int64) (8 : Int64)) (fun r11 => if r11 = 0 then (some ((-9000000000000000001 : Int64), m2)) else (if ((v1 >>> (v4 &&& 31)) &&& (1 : Int32)) = 0 then (some ((-9000000000000000001 : Int64), m2)) else (bnd (fX12_in v5.toInt64 (0 : Int64) (1 : Int64)) (fun r13 => if r13 = 0 then (some ((-9000000000000000001 : Int64), m2)) else (bnd (fX12_findBrings v0 v1 v2 v3 m2) (fun m15 => if (m15.2.1 v0 24) = (0 : Int64) then (some ((-1000000 : Int64), m15)) else (bnd (m15.2.2 v0 23) (fun q16 => gp (KM q16 = 15) (gp (inb v4 (NM q16) = true) (bnd (fX12_partOf (m15.2.1 q16 v4.toNatClampNeg) (m15.2.1 v0 24) v5) (fun r21 => some (r21, m15))))))))))))))))))))
set_option maxHeartbeats 4000000 in
set_option maxRecDepth 100000 in
theorem cX12_leftOdds_ct (z : Zx) (ad : Nat → Nat) (v0 : Nat) (v1 : Int32) (v2 : Int32) (v3 : Int32) (v4 : Int32) (v5 : Int32) (m m2 : Mem) (r : Int64) (hf : fX12_leftOdds v0 v1 v2 v3 v4 v5 m = some (r, m2)) : CtL z wM yX12_leftOdds cX12_leftOdds 6 (some .long) (Rm 7) ad 17 [.ref (ad v0), .int v1, .int v2, .int v3, .int v4, .int v5] m m2 r := by
  refine ct_ofL mi_X12_leftOdds rfl (Nat.le_of_ble_eq_true rfl) (fun x X hret => ?_)
  refine g_lv [(0, .ref (ad v0)), (1, .int v1), (2, .int v2), (3, .int v3), (4, .int v4), (5, .int v5)] [0, 1, 2, 3, 4, 5] rfl ?_
  unfold fX12_leftOdds at hf
  refine g_aload_n (pc := 0) X dX12_leftOdds_0 rfl 0 rfl ?_
  refine g_iconst (v := (0 : Int32)) (pc := 1) X dX12_leftOdds_1 (by decide) ?_
  obtain ⟨hk1, hf⟩ := gp_some hf
  refine g_putI (pc := 2) X fl_X12_60 (KMlt hk1 (by decide)) hk1 rfl rfl dX12_leftOdds_2 ?_
  obtain ⟨m2, e3, hf⟩ := lt1_some hf
  refine g_mem e3 ?_
  refine g_iload_n (pc := 5) X dX12_leftOdds_5 rfl 1 rfl ?_
  refine g_i2l (pc := 6) X dX12_leftOdds_6 ?_
  refine g_lconst (v := (1 : Int64)) (pc := 7) X dX12_leftOdds_7 (by decide) ?_
  refine g_ldc2 (pc := 8) X dX12_leftOdds_8 kl_X12_320 ?_
  obtain ⟨r5, hq4, hf⟩ := bnd_some hf
  refine g_callSI (pc := 11) (As := [.long v1.toInt64, .long (1 : Int64), .long (511 : Int64)]) (rest := []) X mi_X12_in sm_X12_in ml_X12_71 (cX12_in_ct z ad v1.toInt64 (1 : Int64) (511 : Int64) m2 r5 hq4) rfl rfl (Nat.le_of_ble_eq_true rfl) ⟨rfl, rfl, by decide, by decide, Nat.le_refl _, Nat.le_refl _⟩ dX12_leftOdds_11 ?_
  refine g_if_eq (pc := 14) (tgt := 66) X dX12_leftOdds_14 (by decide) (fun hc => ?_) (fun hc => ?_)
  · have hf := itp hc hf
    refine g_ldc2 (pc := 66) X dX12_leftOdds_66 kl_X12_81 ?_
    obtain ⟨rfl, rfl⟩ := som2 hf
    exact hret _ _ dX12_leftOdds_69
  · have hf := itn hc hf
    refine g_aload_n (pc := 17) X dX12_leftOdds_17 rfl 0 rfl ?_
    refine g_iload_n (pc := 18) X dX12_leftOdds_18 rfl 2 rfl ?_
    obtain ⟨r7, hq6, hf⟩ := bnd_some hf
    refine g_callVI (pc := 19) (As := [.int v2]) (rest := []) X mi_X12_isOpen im_X12_isOpen se_X12_isOpen (KMlt hk1 (by decide)) hk1 clX12 ml_X12_302 (cX12_isOpen_ct z ad v0 v2 m2 r7 hq6) rfl rfl (Nat.le_of_ble_eq_true rfl) ⟨rfl, rfl, by decide, by decide, Nat.le_refl _, Nat.le_refl _⟩ dX12_leftOdds_19 ?_
    refine g_if_eq (pc := 22) (tgt := 66) X dX12_leftOdds_22 (by decide) (fun hc => ?_) (fun hc => ?_)
    · have hf := itp hc hf
      refine g_ldc2 (pc := 66) X dX12_leftOdds_66 kl_X12_81 ?_
      obtain ⟨rfl, rfl⟩ := som2 hf
      exact hret _ _ dX12_leftOdds_69
    · have hf := itn hc hf
      refine g_aload_n (pc := 25) X dX12_leftOdds_25 rfl 0 rfl ?_
      refine g_iload_n (pc := 26) X dX12_leftOdds_26 rfl 3 rfl ?_
      obtain ⟨r9, hq8, hf⟩ := bnd_some hf
      refine g_callVI (pc := 27) (As := [.int v3]) (rest := []) X mi_X12_isAny im_X12_isAny se_X12_isAny (KMlt hk1 (by decide)) hk1 clX12 ml_X12_249 (cX12_isAny_ct z ad v0 v3 m2 r9 hq8) rfl rfl (Nat.le_of_ble_eq_true rfl) ⟨rfl, rfl, by decide, by decide, Nat.le_refl _, Nat.le_refl _⟩ dX12_leftOdds_27 ?_
      refine g_if_eq (pc := 30) (tgt := 66) X dX12_leftOdds_30 (by decide) (fun hc => ?_) (fun hc => ?_)
      · have hf := itp hc hf
        refine g_ldc2 (pc := 66) X dX12_leftOdds_66 kl_X12_81 ?_
        obtain ⟨rfl, rfl⟩ := som2 hf
        exact hret _ _ dX12_leftOdds_69
      · have hf := itn hc hf
        refine g_iload (pc := 33) X dX12_leftOdds_33 4 rfl ?_
        refine g_i2l (pc := 35) X dX12_leftOdds_35 ?_
        refine g_lconst (v := (0 : Int64)) (pc := 36) X dX12_leftOdds_36 (by decide) ?_
        refine g_ldc2 (pc := 37) X dX12_leftOdds_37 kl_X12_87 ?_
        obtain ⟨r11, hq10, hf⟩ := bnd_some hf
        refine g_callSI (pc := 40) (As := [.long v4.toInt64, .long (0 : Int64), .long (8 : Int64)]) (rest := []) X mi_X12_in sm_X12_in ml_X12_71 (cX12_in_ct z ad v4.toInt64 (0 : Int64) (8 : Int64) m2 r11 hq10) rfl rfl (Nat.le_of_ble_eq_true rfl) ⟨rfl, rfl, by decide, by decide, Nat.le_refl _, Nat.le_refl _⟩ dX12_leftOdds_40 ?_
        refine g_if_eq (pc := 43) (tgt := 66) X dX12_leftOdds_43 (by decide) (fun hc => ?_) (fun hc => ?_)
        · have hf := itp hc hf
          refine g_ldc2 (pc := 66) X dX12_leftOdds_66 kl_X12_81 ?_
          obtain ⟨rfl, rfl⟩ := som2 hf
          exact hret _ _ dX12_leftOdds_69
        · have hf := itn hc hf
          refine g_iload_n (pc := 46) X dX12_leftOdds_46 rfl 1 rfl ?_
          refine g_iload (pc := 47) X dX12_leftOdds_47 4 rfl ?_
          refine g_ishr (pc := 49) X dX12_leftOdds_49 ?_
          refine g_iconst (v := (1 : Int32)) (pc := 50) X dX12_leftOdds_50 (by decide) ?_
          refine g_iand (pc := 51) X dX12_leftOdds_51 ?_
          refine g_if_eq (pc := 52) (tgt := 66) X dX12_leftOdds_52 (by decide) (fun hc => ?_) (fun hc => ?_)
          · have hf := itp hc hf
            refine g_ldc2 (pc := 66) X dX12_leftOdds_66 kl_X12_81 ?_
            obtain ⟨rfl, rfl⟩ := som2 hf
            exact hret _ _ dX12_leftOdds_69
          · have hf := itn hc hf
            refine g_iload (pc := 55) X dX12_leftOdds_55 5 rfl ?_
            refine g_i2l (pc := 57) X dX12_leftOdds_57 ?_
            refine g_lconst (v := (0 : Int64)) (pc := 58) X dX12_leftOdds_58 (by decide) ?_
            refine g_lconst (v := (1 : Int64)) (pc := 59) X dX12_leftOdds_59 (by decide) ?_
            obtain ⟨r13, hq12, hf⟩ := bnd_some hf
            refine g_callSI (pc := 60) (As := [.long v5.toInt64, .long (0 : Int64), .long (1 : Int64)]) (rest := []) X mi_X12_in sm_X12_in ml_X12_71 (cX12_in_ct z ad v5.toInt64 (0 : Int64) (1 : Int64) m2 r13 hq12) rfl rfl (Nat.le_of_ble_eq_true rfl) ⟨rfl, rfl, by decide, by decide, Nat.le_refl _, Nat.le_refl _⟩ dX12_leftOdds_60 ?_
            refine g_if_ne (pc := 63) (tgt := 70) X dX12_leftOdds_63 (by decide) (fun hc => ?_) (fun hc => ?_)
            · have hf := itn hc hf
              refine g_aload_n (pc := 70) X dX12_leftOdds_70 rfl 0 rfl ?_
              refine g_iload_n (pc := 71) X dX12_leftOdds_71 rfl 1 rfl ?_
              refine g_iload_n (pc := 72) X dX12_leftOdds_72 rfl 2 rfl ?_
              refine g_iload_n (pc := 73) X dX12_leftOdds_73 rfl 3 rfl ?_
              obtain ⟨m15, hq14, hf⟩ := bnd_some hf
              refine g_callVV (pc := 74) (As := [.int v1, .int v2, .int v3]) (rest := []) X mi_X12_findBrings im_X12_findBrings se_X12_findBrings (KMlt hk1 (by decide)) hk1 clX12 ml_X12_322 (cX12_findBrings_ct z ad v0 v1 v2 v3 m2 m15 hq14) rfl rfl (Nat.le_of_ble_eq_true rfl) ⟨rfl, rfl, by decide, by decide, Nat.le_refl _, Nat.le_refl _⟩ dX12_leftOdds_74 ?_
              refine g_aload_n (pc := 77) X dX12_leftOdds_77 rfl 0 rfl ?_
              refine g_getJ (pc := 78) X fl_X12_316 (KMlt hk1 (by decide)) hk1 dX12_leftOdds_78 ?_
              refine g_lconst (v := (0 : Int64)) (pc := 81) X dX12_leftOdds_81 (by decide) ?_
              refine g_lcmp_ne (pc := 82) (tgt := 92) X dX12_leftOdds_82 dX12_leftOdds_83 (by decide) (fun hc => ?_) (fun hc => ?_)
              · have hf := itn hc hf
                refine g_aload_n (pc := 92) X dX12_leftOdds_92 rfl 0 rfl ?_
                obtain ⟨q16, hr17, hf⟩ := bnd_some hf
                refine g_getR (pc := 93) X fl_X12_44 (KMlt hk1 (by decide)) hk1 hr17 dX12_leftOdds_93 ?_
                refine g_iload (pc := 96) X dX12_leftOdds_96 4 rfl ?_
                obtain ⟨hk18, hf⟩ := gp_some hf
                obtain ⟨hi19, hf⟩ := gp_some hf
                refine g_lald (pc := 98) X (KMlt hk18 (by decide)) hk18 hi19 dX12_leftOdds_98 ?_
                refine g_aload_n (pc := 99) X dX12_leftOdds_99 rfl 0 rfl ?_
                refine g_getJ (pc := 100) X fl_X12_316 (KMlt hk1 (by decide)) hk1 dX12_leftOdds_100 ?_
                refine g_iload (pc := 103) X dX12_leftOdds_103 5 rfl ?_
                obtain ⟨r21, hq20, hf⟩ := bnd_some hf
                refine g_callSL (pc := 105) (As := [.long (m15.2.1 q16 v4.toNatClampNeg), .long (m15.2.1 v0 24), .int v5]) (rest := []) X mi_X12_partOf sm_X12_partOf ml_X12_312 (cX12_partOf_ct z ad (m15.2.1 q16 v4.toNatClampNeg) (m15.2.1 v0 24) v5 m15 r21 hq20) rfl rfl (Nat.le_of_ble_eq_true rfl) ⟨rfl, rfl, by decide, by decide, Nat.le_refl _, Nat.le_refl _⟩ dX12_leftOdds_105 ?_
                obtain ⟨rfl, rfl⟩ := som2 hf
                exact hret _ _ dX12_leftOdds_108
              · have hf := itp hc hf
                refine g_ldc2 (pc := 86) X dX12_leftOdds_86 kl_X12_325 ?_
                refine g_goto (pc := 89) (tgt := 108) X dX12_leftOdds_89 (by decide) ?_
                obtain ⟨rfl, rfl⟩ := som2 hf
                exact hret _ _ dX12_leftOdds_108
            · have hf := itp hc hf
              refine g_ldc2 (pc := 66) X dX12_leftOdds_66 kl_X12_81 ?_
              obtain ⟨rfl, rfl⟩ := som2 hf
              exact hret _ _ dX12_leftOdds_69

noncomputable def fX12_boat_82 (v0 : Nat) (v5 : Int32) (s0 : Int32) (m : Mem) : Option ((Int32 × Int32) ⊕ (Int32)) := lt1 (v5 + 1) (fun v5_1 => some (.inl (s0, v5_1)))
noncomputable def fX12_boat_49b (v0 : Nat) (v4 : Int32) (v5 : Int32) (m : Mem) : Option ((Int32 × Int32) ⊕ (Int32)) := if (128 : Int32) ≤ v5 then (some (.inr (v4))) else (gp (KM v0 = 12) (bnd (m.2.2 v0 19) (fun q4 => gp (KM q4 = 15) (gp (inb v5 (NM q4) = true) (gp (inb v4 (NM q4) = true) (if (m.2.1 q4 v5.toNatClampNeg) ≤ (m.2.1 q4 v4.toNatClampNeg) then (fX12_boat_82 v0 v5 v4 m) else (fX12_boat_82 v0 v5 v5 m)))))))
noncomputable def fX12_boat_49 (v0 : Nat) (v4 : Int32) (v5 : Int32) (m : Mem) : Option (Int64 × Mem) := bnd (iter (fun s => fX12_boat_49b v0 s.1 s.2 m) FU (v4, v5)) (fun e => some (e.toInt64, m))
noncomputable def fX12_boat (v0 : Nat) (v1 : Int32) (v2 : Int32) (v3 : Int32) (m : Mem) : Option (Int64 × Mem) := gp (KM v0 = 12) (lt1 (uI m v0 0 (0 : Int32)) (fun m10 => bnd (fX12_isOpen v0 v1 m10) (fun r13 => if r13 = 0 then (some ((-9000000000000000001 : Int64), m10)) else (bnd (fX12_isHead v2) (fun r15 => if r15 = 0 then (some ((-9000000000000000001 : Int64), m10)) else (bnd (fX12_in v3.toInt64 (0 : Int64) (8 : Int64)) (fun r17 => if r17 = 0 then (some ((-9000000000000000001 : Int64), m10)) else (bnd (fX12_goHours v0 v1 v2 v3 m10) (fun m19 => lt1 ((0 : Int32)) (fun v4_20 => lt1 ((1 : Int32)) (fun v5_22 => fX12_boat_49 v0 v4_20 v5_22 m19)))))))))))
set_option maxHeartbeats 4000000 in
set_option maxRecDepth 100000 in
theorem cX12_boat_ct (z : Zx) (ad : Nat → Nat) (v0 : Nat) (v1 : Int32) (v2 : Int32) (v3 : Int32) (m m2 : Mem) (r : Int64) (hf : fX12_boat v0 v1 v2 v3 m = some (r, m2)) : CtL z wM yX12_boat cX12_boat 6 (some .long) (Rm 7) ad 17 [.ref (ad v0), .int v1, .int v2, .int v3] m m2 r := by
  refine ct_ofL mi_X12_boat rfl (Nat.le_of_ble_eq_true rfl) (fun x X hret => ?_)
  refine g_lv [(0, .ref (ad v0)), (1, .int v1), (2, .int v2), (3, .int v3)] [0, 1, 2, 3] rfl ?_
  have hL49 : ∀ (v0 : Nat) (v4 : Int32) (v5 : Int32) (m : Mem), fX12_boat_49 v0 v4 v5 m = some (r, m2) → G z wM x 6 0 0 ad 17 m 49 [(0, .ref (ad v0)), (4, .int v4), (5, .int v5)] [] := by
    intro v0 v4 v5 m hf
    unfold fX12_boat_49 at hf
    obtain ⟨e49, hit49, hrest49⟩ := bnd_some hf
    refine iter_ok (Hd := fun (s : (Int32 × Int32)) => G z wM x 6 0 0 ad 17 m 49 [(0, .ref (ad v0)), (4, .int s.1), (5, .int s.2)] []) ?_ FU (v4, v5) hit49
    intro s ob49 hf hs49 he49
    obtain ⟨v4, v5⟩ := s
    have hf : fX12_boat_49b v0 v4 v5 m = some ob49 := hf
    have hL82 : ∀ (v5 : Int32) (s0 : Int32), fX12_boat_82 v0 v5 s0 m = some ob49 → G z wM x 6 0 0 ad 17 m 82 [(0, .ref (ad v0)), (5, .int v5)] [.int s0] := by
      intro v5 s0 hf
      unfold fX12_boat_82 at hf
      refine g_istore (lv2 := [(0, .ref (ad v0)), (4, .int s0), (5, .int v5)]) (pc := 82) X dX12_boat_82 (by decide) [1, 0, 2] rfl ?_
      obtain ⟨v5_1, e2, hf⟩ := lt1_some hf
      refine g_iinc (v2 := v5_1) (lv2 := [(0, .ref (ad v0)), (4, .int s0), (5, .int v5_1)]) (pc := 84) X dX12_boat_84 2 rfl (by rw [e2]; rfl) (by decide) [1, 2, 0] rfl ?_
      refine g_goto (pc := 87) (tgt := 49) X dX12_boat_87 (by decide) ?_
      exact hs49 (s0, v5_1) (Option.some.inj hf).symm
    unfold fX12_boat_49b at hf
    refine g_iload (pc := 49) X dX12_boat_49 2 rfl ?_
    refine g_sipush (v := (128 : Int32)) (pc := 51) X dX12_boat_51 (by decide) ?_
    refine g_icmp_ge (pc := 54) (tgt := 90) X dX12_boat_54 (by decide) (fun hc => ?_) (fun hc => ?_)
    · have hf := itp hc hf
      have he49 := he49 _ (Option.some.inj hf).symm
      subst he49
      have hf : some (v4.toInt64, m) = some (r, m2) := hrest49
      refine g_iload (pc := 90) X dX12_boat_90 1 rfl ?_
      refine g_i2l (pc := 92) X dX12_boat_92 ?_
      obtain ⟨rfl, rfl⟩ := som2 hf
      exact hret _ _ dX12_boat_93
    · have hf := itn hc hf
      refine g_aload_n (pc := 57) X dX12_boat_57 rfl 0 rfl ?_
      obtain ⟨hk3, hf⟩ := gp_some hf
      obtain ⟨q4, hr5, hf⟩ := bnd_some hf
      refine g_getR (pc := 58) X fl_X12_31 (KMlt hk3 (by decide)) hk3 hr5 dX12_boat_58 ?_
      refine g_iload (pc := 61) X dX12_boat_61 2 rfl ?_
      obtain ⟨hk6, hf⟩ := gp_some hf
      obtain ⟨hi7, hf⟩ := gp_some hf
      refine g_lald (pc := 63) X (KMlt hk6 (by decide)) hk6 hi7 dX12_boat_63 ?_
      refine g_aload_n (pc := 64) X dX12_boat_64 rfl 0 rfl ?_
      refine g_getR (pc := 65) X fl_X12_31 (KMlt hk3 (by decide)) hk3 hr5 dX12_boat_65 ?_
      refine g_iload (pc := 68) X dX12_boat_68 1 rfl ?_
      obtain ⟨hi8, hf⟩ := gp_some hf
      refine g_lald (pc := 70) X (KMlt hk6 (by decide)) hk6 hi8 dX12_boat_70 ?_
      refine g_lcmp_le (pc := 71) (tgt := 80) X dX12_boat_71 dX12_boat_72 (by decide) (fun hc => ?_) (fun hc => ?_)
      · have hf := itp hc hf
        refine g_iload (pc := 80) X dX12_boat_80 1 rfl ?_
        refine g_lv [(0, .ref (ad v0)), (5, .int v5)] [0, 2] rfl ?_
        exact hL82 _ _ hf
      · have hf := itn hc hf
        refine g_iload (pc := 75) X dX12_boat_75 2 rfl ?_
        refine g_goto (pc := 77) (tgt := 82) X dX12_boat_77 (by decide) ?_
        refine g_lv [(0, .ref (ad v0)), (5, .int v5)] [0, 2] rfl ?_
        exact hL82 _ _ hf
  unfold fX12_boat at hf
  refine g_aload_n (pc := 0) X dX12_boat_0 rfl 0 rfl ?_
  refine g_iconst (v := (0 : Int32)) (pc := 1) X dX12_boat_1 (by decide) ?_
  obtain ⟨hk9, hf⟩ := gp_some hf
  refine g_putI (pc := 2) X fl_X12_60 (KMlt hk9 (by decide)) hk9 rfl rfl dX12_boat_2 ?_
  obtain ⟨m10, e11, hf⟩ := lt1_some hf
  refine g_mem e11 ?_
  refine g_aload_n (pc := 5) X dX12_boat_5 rfl 0 rfl ?_
  refine g_iload_n (pc := 6) X dX12_boat_6 rfl 1 rfl ?_
  obtain ⟨r13, hq12, hf⟩ := bnd_some hf
  refine g_callVI (pc := 7) (As := [.int v1]) (rest := []) X mi_X12_isOpen im_X12_isOpen se_X12_isOpen (KMlt hk9 (by decide)) hk9 clX12 ml_X12_302 (cX12_isOpen_ct z ad v0 v1 m10 r13 hq12) rfl rfl (Nat.le_of_ble_eq_true rfl) ⟨rfl, rfl, by decide, by decide, Nat.le_refl _, Nat.le_refl _⟩ dX12_boat_7 ?_
  refine g_if_eq (pc := 10) (tgt := 32) X dX12_boat_10 (by decide) (fun hc => ?_) (fun hc => ?_)
  · have hf := itp hc hf
    refine g_ldc2 (pc := 32) X dX12_boat_32 kl_X12_81 ?_
    obtain ⟨rfl, rfl⟩ := som2 hf
    exact hret _ _ dX12_boat_35
  · have hf := itn hc hf
    refine g_iload_n (pc := 13) X dX12_boat_13 rfl 2 rfl ?_
    obtain ⟨r15, hq14, hf⟩ := bnd_some hf
    refine g_callSI (pc := 14) (As := [.int v2]) (rest := []) X mi_X12_isHead sm_X12_isHead ml_X12_264 (cX12_isHead_ct z ad v2 m10 r15 hq14) rfl rfl (Nat.le_of_ble_eq_true rfl) ⟨rfl, rfl, by decide, by decide, Nat.le_refl _, Nat.le_refl _⟩ dX12_boat_14 ?_
    refine g_if_eq (pc := 17) (tgt := 32) X dX12_boat_17 (by decide) (fun hc => ?_) (fun hc => ?_)
    · have hf := itp hc hf
      refine g_ldc2 (pc := 32) X dX12_boat_32 kl_X12_81 ?_
      obtain ⟨rfl, rfl⟩ := som2 hf
      exact hret _ _ dX12_boat_35
    · have hf := itn hc hf
      refine g_iload_n (pc := 20) X dX12_boat_20 rfl 3 rfl ?_
      refine g_i2l (pc := 21) X dX12_boat_21 ?_
      refine g_lconst (v := (0 : Int64)) (pc := 22) X dX12_boat_22 (by decide) ?_
      refine g_ldc2 (pc := 23) X dX12_boat_23 kl_X12_87 ?_
      obtain ⟨r17, hq16, hf⟩ := bnd_some hf
      refine g_callSI (pc := 26) (As := [.long v3.toInt64, .long (0 : Int64), .long (8 : Int64)]) (rest := []) X mi_X12_in sm_X12_in ml_X12_71 (cX12_in_ct z ad v3.toInt64 (0 : Int64) (8 : Int64) m10 r17 hq16) rfl rfl (Nat.le_of_ble_eq_true rfl) ⟨rfl, rfl, by decide, by decide, Nat.le_refl _, Nat.le_refl _⟩ dX12_boat_26 ?_
      refine g_if_ne (pc := 29) (tgt := 36) X dX12_boat_29 (by decide) (fun hc => ?_) (fun hc => ?_)
      · have hf := itn hc hf
        refine g_aload_n (pc := 36) X dX12_boat_36 rfl 0 rfl ?_
        refine g_iload_n (pc := 37) X dX12_boat_37 rfl 1 rfl ?_
        refine g_iload_n (pc := 38) X dX12_boat_38 rfl 2 rfl ?_
        refine g_iload_n (pc := 39) X dX12_boat_39 rfl 3 rfl ?_
        obtain ⟨m19, hq18, hf⟩ := bnd_some hf
        refine g_callVV (pc := 40) (As := [.int v1, .int v2, .int v3]) (rest := []) X mi_X12_goHours im_X12_goHours se_X12_goHours (KMlt hk9 (by decide)) hk9 clX12 ml_X12_305 (cX12_goHours_ct z ad v0 v1 v2 v3 m10 m19 hq18) rfl rfl (Nat.le_of_ble_eq_true rfl) ⟨rfl, rfl, by decide, by decide, Nat.le_refl _, Nat.le_refl _⟩ dX12_boat_40 ?_
        refine g_iconst (v := (0 : Int32)) (pc := 43) X dX12_boat_43 (by decide) ?_
        obtain ⟨v4_20, e21, hf⟩ := lt1_some hf
        refine g_topi e21 ?_
        refine g_istore (lv2 := [(0, .ref (ad v0)), (1, .int v1), (2, .int v2), (3, .int v3), (4, .int v4_20)]) (pc := 44) X dX12_boat_44 (by decide) [1, 2, 3, 4, 0] rfl ?_
        refine g_iconst (v := (1 : Int32)) (pc := 46) X dX12_boat_46 (by decide) ?_
        obtain ⟨v5_22, e23, hf⟩ := lt1_some hf
        refine g_topi e23 ?_
        refine g_istore (lv2 := [(0, .ref (ad v0)), (1, .int v1), (2, .int v2), (3, .int v3), (4, .int v4_20), (5, .int v5_22)]) (pc := 47) X dX12_boat_47 (by decide) [1, 2, 3, 4, 5, 0] rfl ?_
        refine g_lv [(0, .ref (ad v0)), (4, .int v4_20), (5, .int v5_22)] [0, 4, 5] rfl ?_
        exact hL49 _ _ _ _ hf
      · have hf := itp hc hf
        refine g_ldc2 (pc := 32) X dX12_boat_32 kl_X12_81 ?_
        obtain ⟨rfl, rfl⟩ := som2 hf
        exact hret _ _ dX12_boat_35

noncomputable def fX12_thought (v0 : Nat) (v1 : Int32) (v2 : Int32) (v3 : Int32) (m : Mem) : Option (Int64 × Mem) := gp (KM v0 = 12) (lt1 (uI m v0 0 (0 : Int32)) (fun m2 => bnd (fX12_in v1.toInt64 (-999 : Int64) (999 : Int64)) (fun r5 => if r5 = 0 then (some ((-9000000000000000001 : Int64), m2)) else (bnd (fX12_in v2.toInt64 (-99 : Int64) (99 : Int64)) (fun r7 => if r7 = 0 then (some ((-9000000000000000001 : Int64), m2)) else (bnd (fX12_in v3.toInt64 (1 : Int64) (60 : Int64)) (fun r9 => if r9 = 0 then (some ((-9000000000000000001 : Int64), m2)) else (gp (¬ v3 = 0) (some ((v1 + (v2 / v3)).toInt64, m2))))))))))
set_option maxHeartbeats 4000000 in
set_option maxRecDepth 100000 in
theorem cX12_thought_ct (z : Zx) (ad : Nat → Nat) (v0 : Nat) (v1 : Int32) (v2 : Int32) (v3 : Int32) (m m2 : Mem) (r : Int64) (hf : fX12_thought v0 v1 v2 v3 m = some (r, m2)) : CtL z wM yX12_thought cX12_thought 4 (some .long) (Rm 3) ad 17 [.ref (ad v0), .int v1, .int v2, .int v3] m m2 r := by
  refine ct_ofL mi_X12_thought rfl (Nat.le_of_ble_eq_true rfl) (fun x X hret => ?_)
  refine g_lv [(0, .ref (ad v0)), (1, .int v1), (2, .int v2), (3, .int v3)] [0, 1, 2, 3] rfl ?_
  unfold fX12_thought at hf
  refine g_aload_n (pc := 0) X dX12_thought_0 rfl 0 rfl ?_
  refine g_iconst (v := (0 : Int32)) (pc := 1) X dX12_thought_1 (by decide) ?_
  obtain ⟨hk1, hf⟩ := gp_some hf
  refine g_putI (pc := 2) X fl_X12_60 (KMlt hk1 (by decide)) hk1 rfl rfl dX12_thought_2 ?_
  obtain ⟨m2, e3, hf⟩ := lt1_some hf
  refine g_mem e3 ?_
  refine g_iload_n (pc := 5) X dX12_thought_5 rfl 1 rfl ?_
  refine g_i2l (pc := 6) X dX12_thought_6 ?_
  refine g_ldc2 (pc := 7) X dX12_thought_7 kl_X12_327 ?_
  refine g_ldc2 (pc := 10) X dX12_thought_10 kl_X12_329 ?_
  obtain ⟨r5, hq4, hf⟩ := bnd_some hf
  refine g_callSI (pc := 13) (As := [.long v1.toInt64, .long (-999 : Int64), .long (999 : Int64)]) (rest := []) X mi_X12_in sm_X12_in ml_X12_71 (cX12_in_ct z ad v1.toInt64 (-999 : Int64) (999 : Int64) m2 r5 hq4) rfl rfl (Nat.le_of_ble_eq_true rfl) ⟨rfl, rfl, by decide, by decide, Nat.le_refl _, Nat.le_refl _⟩ dX12_thought_13 ?_
  refine g_if_eq (pc := 16) (tgt := 54) X dX12_thought_16 (by decide) (fun hc => ?_) (fun hc => ?_)
  · have hf := itp hc hf
    refine g_ldc2 (pc := 54) X dX12_thought_54 kl_X12_81 ?_
    obtain ⟨rfl, rfl⟩ := som2 hf
    exact hret _ _ dX12_thought_57
  · have hf := itn hc hf
    refine g_iload_n (pc := 19) X dX12_thought_19 rfl 2 rfl ?_
    refine g_i2l (pc := 20) X dX12_thought_20 ?_
    refine g_ldc2 (pc := 21) X dX12_thought_21 kl_X12_331 ?_
    refine g_ldc2 (pc := 24) X dX12_thought_24 kl_X12_333 ?_
    obtain ⟨r7, hq6, hf⟩ := bnd_some hf
    refine g_callSI (pc := 27) (As := [.long v2.toInt64, .long (-99 : Int64), .long (99 : Int64)]) (rest := []) X mi_X12_in sm_X12_in ml_X12_71 (cX12_in_ct z ad v2.toInt64 (-99 : Int64) (99 : Int64) m2 r7 hq6) rfl rfl (Nat.le_of_ble_eq_true rfl) ⟨rfl, rfl, by decide, by decide, Nat.le_refl _, Nat.le_refl _⟩ dX12_thought_27 ?_
    refine g_if_eq (pc := 30) (tgt := 54) X dX12_thought_30 (by decide) (fun hc => ?_) (fun hc => ?_)
    · have hf := itp hc hf
      refine g_ldc2 (pc := 54) X dX12_thought_54 kl_X12_81 ?_
      obtain ⟨rfl, rfl⟩ := som2 hf
      exact hret _ _ dX12_thought_57
    · have hf := itn hc hf
      refine g_iload_n (pc := 33) X dX12_thought_33 rfl 3 rfl ?_
      refine g_i2l (pc := 34) X dX12_thought_34 ?_
      refine g_lconst (v := (1 : Int64)) (pc := 35) X dX12_thought_35 (by decide) ?_
      refine g_ldc2 (pc := 36) X dX12_thought_36 kl_X12_335 ?_
      obtain ⟨r9, hq8, hf⟩ := bnd_some hf
      refine g_callSI (pc := 39) (As := [.long v3.toInt64, .long (1 : Int64), .long (60 : Int64)]) (rest := []) X mi_X12_in sm_X12_in ml_X12_71 (cX12_in_ct z ad v3.toInt64 (1 : Int64) (60 : Int64) m2 r9 hq8) rfl rfl (Nat.le_of_ble_eq_true rfl) ⟨rfl, rfl, by decide, by decide, Nat.le_refl _, Nat.le_refl _⟩ dX12_thought_39 ?_
      refine g_if_eq (pc := 42) (tgt := 54) X dX12_thought_42 (by decide) (fun hc => ?_) (fun hc => ?_)
      · have hf := itp hc hf
        refine g_ldc2 (pc := 54) X dX12_thought_54 kl_X12_81 ?_
        obtain ⟨rfl, rfl⟩ := som2 hf
        exact hret _ _ dX12_thought_57
      · have hf := itn hc hf
        refine g_iload_n (pc := 45) X dX12_thought_45 rfl 1 rfl ?_
        refine g_iload_n (pc := 46) X dX12_thought_46 rfl 2 rfl ?_
        refine g_iload_n (pc := 47) X dX12_thought_47 rfl 3 rfl ?_
        obtain ⟨hz10, hf⟩ := gp_some hf
        refine g_idiv (pc := 48) X dX12_thought_48 hz10 ?_
        refine g_iadd (pc := 49) X dX12_thought_49 ?_
        refine g_i2l (pc := 50) X dX12_thought_50 ?_
        refine g_goto (pc := 51) (tgt := 57) X dX12_thought_51 (by decide) ?_
        obtain ⟨rfl, rfl⟩ := som2 hf
        exact hret _ _ dX12_thought_57

noncomputable def fX12_held (v0 : Nat) (v1 : Int32) (m : Mem) : Option Int32 := if 0 ≤ v1 then (gp (KM v0 = 12) (bnd (m.2.2 v0 5) (fun q2 => gp (KM q2 = 14) (gp (inb (11 : Int32) (NM q2) = true) (if v1 ≤ (m.1 q2 (11 : Int32).toNatClampNeg) then (some v1) else (gp (inb (11 : Int32) (NM q2) = true) (some (m.1 q2 (11 : Int32).toNatClampNeg)))))))) else (some (0 : Int32))
set_option maxHeartbeats 4000000 in
set_option maxRecDepth 100000 in
theorem cX12_held_ct (z : Zx) (ad : Nat → Nat) (v0 : Nat) (v1 : Int32) (m : Mem) (r : Int32) (hf : fX12_held v0 v1 m = some r) : CtI z wM yX12_held cX12_held 2 (some .int) (Rm 2) ad 17 [.ref (ad v0), .int v1] m m r := by
  refine ct_ofI mi_X12_held rfl (Nat.le_of_ble_eq_true rfl) (fun x X hret => ?_)
  refine g_lv [(0, .ref (ad v0)), (1, .int v1)] [0, 1] rfl ?_
  unfold fX12_held at hf
  refine g_iload_n (pc := 0) X dX12_held_0 rfl 1 rfl ?_
  refine g_if_ge (pc := 1) (tgt := 8) X dX12_held_1 (by decide) (fun hc => ?_) (fun hc => ?_)
  · have hf := itp hc hf
    refine g_iload_n (pc := 8) X dX12_held_8 rfl 1 rfl ?_
    refine g_aload_n (pc := 9) X dX12_held_9 rfl 0 rfl ?_
    obtain ⟨hk1, hf⟩ := gp_some hf
    obtain ⟨q2, hr3, hf⟩ := bnd_some hf
    refine g_getR (pc := 10) X fl_X12_19 (KMlt hk1 (by decide)) hk1 hr3 dX12_held_10 ?_
    refine g_bipush (v := (11 : Int32)) (pc := 13) X dX12_held_13 (by decide) ?_
    obtain ⟨hk4, hf⟩ := gp_some hf
    obtain ⟨hi5, hf⟩ := gp_some hf
    refine g_iald (pc := 15) X (KMlt hk4 (by decide)) hk4 hi5 dX12_held_15 ?_
    refine g_icmp_le (pc := 16) (tgt := 29) X dX12_held_16 (by decide) (fun hc => ?_) (fun hc => ?_)
    · have hf := itp hc hf
      refine g_iload_n (pc := 29) X dX12_held_29 rfl 1 rfl ?_
      obtain rfl := Option.some.inj hf
      exact hret _ _ rfl dX12_held_30
    · have hf := itn hc hf
      refine g_aload_n (pc := 19) X dX12_held_19 rfl 0 rfl ?_
      refine g_getR (pc := 20) X fl_X12_19 (KMlt hk1 (by decide)) hk1 hr3 dX12_held_20 ?_
      refine g_bipush (v := (11 : Int32)) (pc := 23) X dX12_held_23 (by decide) ?_
      obtain ⟨hi6, hf⟩ := gp_some hf
      refine g_iald (pc := 25) X (KMlt hk4 (by decide)) hk4 hi6 dX12_held_25 ?_
      refine g_goto (pc := 26) (tgt := 30) X dX12_held_26 (by decide) ?_
      obtain rfl := Option.some.inj hf
      exact hret _ _ rfl dX12_held_30
  · have hf := itn hc hf
    refine g_iconst (v := (0 : Int32)) (pc := 4) X dX12_held_4 (by decide) ?_
    refine g_goto (pc := 5) (tgt := 30) X dX12_held_5 (by decide) ?_
    obtain rfl := Option.some.inj hf
    exact hret _ _ rfl dX12_held_30

noncomputable def fX12_isRod (v0 : Int32) (v1 : Int32) : Option Int32 := bnd (fX12_in v0.toInt64 (0 : Int64) (200 : Int64)) (fun r2 => if r2 = 0 then (some (0 : Int32)) else (bnd (fX12_in v1.toInt64 (0 : Int64) (50 : Int64)) (fun r4 => if r4 = 0 then (some (0 : Int32)) else (some (1 : Int32)))))
set_option maxHeartbeats 4000000 in
set_option maxRecDepth 100000 in
theorem cX12_isRod_ct (z : Zx) (ad : Nat → Nat) (v0 : Int32) (v1 : Int32) (m : Mem) (r : Int32) (hf : fX12_isRod v0 v1 = some r) : CtI z wM yX12_isRod cX12_isRod 2 (some .boolean) (Rm 3) ad 17 [.int v0, .int v1] m m r := by
  refine ct_ofI mi_X12_isRod rfl (Nat.le_of_ble_eq_true rfl) (fun x X hret => ?_)
  refine g_lv [(0, .int v0), (1, .int v1)] [0, 1] rfl ?_
  unfold fX12_isRod at hf
  refine g_iload_n (pc := 0) X dX12_isRod_0 rfl 0 rfl ?_
  refine g_i2l (pc := 1) X dX12_isRod_1 ?_
  refine g_lconst (v := (0 : Int64)) (pc := 2) X dX12_isRod_2 (by decide) ?_
  refine g_ldc2 (pc := 3) X dX12_isRod_3 kl_X12_337 ?_
  obtain ⟨r2, hq1, hf⟩ := bnd_some hf
  refine g_callSI (pc := 6) (As := [.long v0.toInt64, .long (0 : Int64), .long (200 : Int64)]) (rest := []) X mi_X12_in sm_X12_in ml_X12_71 (cX12_in_ct z ad v0.toInt64 (0 : Int64) (200 : Int64) m r2 hq1) rfl rfl (Nat.le_of_ble_eq_true rfl) ⟨rfl, rfl, by decide, by decide, Nat.le_refl _, Nat.le_refl _⟩ dX12_isRod_6 ?_
  refine g_if_eq (pc := 9) (tgt := 28) X dX12_isRod_9 (by decide) (fun hc => ?_) (fun hc => ?_)
  · have hf := itp hc hf
    refine g_iconst (v := (0 : Int32)) (pc := 28) X dX12_isRod_28 (by decide) ?_
    obtain rfl := Option.some.inj hf
    exact hret _ _ (by decide) dX12_isRod_29
  · have hf := itn hc hf
    refine g_iload_n (pc := 12) X dX12_isRod_12 rfl 1 rfl ?_
    refine g_i2l (pc := 13) X dX12_isRod_13 ?_
    refine g_lconst (v := (0 : Int64)) (pc := 14) X dX12_isRod_14 (by decide) ?_
    refine g_ldc2 (pc := 15) X dX12_isRod_15 kl_X12_339 ?_
    obtain ⟨r4, hq3, hf⟩ := bnd_some hf
    refine g_callSI (pc := 18) (As := [.long v1.toInt64, .long (0 : Int64), .long (50 : Int64)]) (rest := []) X mi_X12_in sm_X12_in ml_X12_71 (cX12_in_ct z ad v1.toInt64 (0 : Int64) (50 : Int64) m r4 hq3) rfl rfl (Nat.le_of_ble_eq_true rfl) ⟨rfl, rfl, by decide, by decide, Nat.le_refl _, Nat.le_refl _⟩ dX12_isRod_18 ?_
    refine g_if_eq (pc := 21) (tgt := 28) X dX12_isRod_21 (by decide) (fun hc => ?_) (fun hc => ?_)
    · have hf := itp hc hf
      refine g_iconst (v := (0 : Int32)) (pc := 28) X dX12_isRod_28 (by decide) ?_
      obtain rfl := Option.some.inj hf
      exact hret _ _ (by decide) dX12_isRod_29
    · have hf := itn hc hf
      refine g_iconst (v := (1 : Int32)) (pc := 24) X dX12_isRod_24 (by decide) ?_
      refine g_goto (pc := 25) (tgt := 29) X dX12_isRod_25 (by decide) ?_
      obtain rfl := Option.some.inj hf
      exact hret _ _ (by decide) dX12_isRod_29

noncomputable def fX12_seemed_48 (s0 : Nat) (s1 : Int32) (m : Mem) : Option (Int64 × Mem) := gp (KM s0 = 12) (bnd (fX12_held s0 s1 m) (fun r2 => some (r2.toInt64, m)))
noncomputable def fX12_seemed (v0 : Nat) (v1 : Int32) (v2 : Int32) (v3 : Int32) (m : Mem) : Option (Int64 × Mem) := gp (KM v0 = 12) (lt1 (uI m v0 0 (0 : Int32)) (fun m5 => if (m5.1 v0 7) = 0 then (some ((-9000000000000000002 : Int64), m5)) else (bnd (fX12_isRod v1 v2) (fun r8 => if r8 = 0 then (some ((-9000000000000000001 : Int64), m5)) else (bnd (fX12_in v3.toInt64 (0 : Int64) (1 : Int64)) (fun r10 => if r10 = 0 then (some ((-9000000000000000001 : Int64), m5)) else (if v3 = 0 then (fX12_seemed_48 v0 (v1 - v2) m5) else (fX12_seemed_48 v0 (v1 + v2) m5))))))))
set_option maxHeartbeats 4000000 in
set_option maxRecDepth 100000 in
theorem cX12_seemed_ct (z : Zx) (ad : Nat → Nat) (v0 : Nat) (v1 : Int32) (v2 : Int32) (v3 : Int32) (m m2 : Mem) (r : Int64) (hf : fX12_seemed v0 v1 v2 v3 m = some (r, m2)) : CtL z wM yX12_seemed cX12_seemed 4 (some .long) (Rm 4) ad 17 [.ref (ad v0), .int v1, .int v2, .int v3] m m2 r := by
  refine ct_ofL mi_X12_seemed rfl (Nat.le_of_ble_eq_true rfl) (fun x X hret => ?_)
  refine g_lv [(0, .ref (ad v0)), (1, .int v1), (2, .int v2), (3, .int v3)] [0, 1, 2, 3] rfl ?_
  have hL48 : ∀ (s0 : Nat) (s1 : Int32) (m : Mem), fX12_seemed_48 s0 s1 m = some (r, m2) → G z wM x 4 0 0 ad 17 m 48 [] [.int s1, .ref (ad s0)] := by
    intro s0 s1 m hf
    unfold fX12_seemed_48 at hf
    obtain ⟨hk3, hf⟩ := gp_some hf
    obtain ⟨r2, hq1, hf⟩ := bnd_some hf
    refine g_callVI (pc := 48) (As := [.int s1]) (rest := []) X mi_X12_held im_X12_held se_X12_held (KMlt hk3 (by decide)) hk3 clX12 ml_X12_344 (cX12_held_ct z ad s0 s1 m r2 hq1) rfl rfl (Nat.le_of_ble_eq_true rfl) ⟨rfl, rfl, by decide, by decide, Nat.le_refl _, Nat.le_refl _⟩ dX12_seemed_48 ?_
    refine g_i2l (pc := 51) X dX12_seemed_51 ?_
    refine g_goto (pc := 52) (tgt := 58) X dX12_seemed_52 (by decide) ?_
    obtain ⟨rfl, rfl⟩ := som2 hf
    exact hret _ _ dX12_seemed_58
  unfold fX12_seemed at hf
  refine g_aload_n (pc := 0) X dX12_seemed_0 rfl 0 rfl ?_
  refine g_iconst (v := (0 : Int32)) (pc := 1) X dX12_seemed_1 (by decide) ?_
  obtain ⟨hk4, hf⟩ := gp_some hf
  refine g_putI (pc := 2) X fl_X12_60 (KMlt hk4 (by decide)) hk4 rfl rfl dX12_seemed_2 ?_
  obtain ⟨m5, e6, hf⟩ := lt1_some hf
  refine g_mem e6 ?_
  refine g_aload_n (pc := 5) X dX12_seemed_5 rfl 0 rfl ?_
  refine g_getI (pc := 6) X fl_X12_238 (KMlt hk4 (by decide)) hk4 dX12_seemed_6 ?_
  refine g_if_ne (pc := 9) (tgt := 16) X dX12_seemed_9 (by decide) (fun hc => ?_) (fun hc => ?_)
  · have hf := itn hc hf
    refine g_iload_n (pc := 16) X dX12_seemed_16 rfl 1 rfl ?_
    refine g_iload_n (pc := 17) X dX12_seemed_17 rfl 2 rfl ?_
    obtain ⟨r8, hq7, hf⟩ := bnd_some hf
    refine g_callSI (pc := 18) (As := [.int v1, .int v2]) (rest := []) X mi_X12_isRod sm_X12_isRod ml_X12_341 (cX12_isRod_ct z ad v1 v2 m5 r8 hq7) rfl rfl (Nat.le_of_ble_eq_true rfl) ⟨rfl, rfl, by decide, by decide, Nat.le_refl _, Nat.le_refl _⟩ dX12_seemed_18 ?_
    refine g_if_eq (pc := 21) (tgt := 55) X dX12_seemed_21 (by decide) (fun hc => ?_) (fun hc => ?_)
    · have hf := itp hc hf
      refine g_ldc2 (pc := 55) X dX12_seemed_55 kl_X12_81 ?_
      obtain ⟨rfl, rfl⟩ := som2 hf
      exact hret _ _ dX12_seemed_58
    · have hf := itn hc hf
      refine g_iload_n (pc := 24) X dX12_seemed_24 rfl 3 rfl ?_
      refine g_i2l (pc := 25) X dX12_seemed_25 ?_
      refine g_lconst (v := (0 : Int64)) (pc := 26) X dX12_seemed_26 (by decide) ?_
      refine g_lconst (v := (1 : Int64)) (pc := 27) X dX12_seemed_27 (by decide) ?_
      obtain ⟨r10, hq9, hf⟩ := bnd_some hf
      refine g_callSI (pc := 28) (As := [.long v3.toInt64, .long (0 : Int64), .long (1 : Int64)]) (rest := []) X mi_X12_in sm_X12_in ml_X12_71 (cX12_in_ct z ad v3.toInt64 (0 : Int64) (1 : Int64) m5 r10 hq9) rfl rfl (Nat.le_of_ble_eq_true rfl) ⟨rfl, rfl, by decide, by decide, Nat.le_refl _, Nat.le_refl _⟩ dX12_seemed_28 ?_
      refine g_if_eq (pc := 31) (tgt := 55) X dX12_seemed_31 (by decide) (fun hc => ?_) (fun hc => ?_)
      · have hf := itp hc hf
        refine g_ldc2 (pc := 55) X dX12_seemed_55 kl_X12_81 ?_
        obtain ⟨rfl, rfl⟩ := som2 hf
        exact hret _ _ dX12_seemed_58
      · have hf := itn hc hf
        refine g_aload_n (pc := 34) X dX12_seemed_34 rfl 0 rfl ?_
        refine g_iload_n (pc := 35) X dX12_seemed_35 rfl 3 rfl ?_
        refine g_if_ne (pc := 36) (tgt := 45) X dX12_seemed_36 (by decide) (fun hc => ?_) (fun hc => ?_)
        · have hf := itn hc hf
          refine g_iload_n (pc := 45) X dX12_seemed_45 rfl 1 rfl ?_
          refine g_iload_n (pc := 46) X dX12_seemed_46 rfl 2 rfl ?_
          refine g_iadd (pc := 47) X dX12_seemed_47 ?_
          refine g_lv [] [] rfl ?_
          exact hL48 _ _ _ hf
        · have hf := itp hc hf
          refine g_iload_n (pc := 39) X dX12_seemed_39 rfl 1 rfl ?_
          refine g_iload_n (pc := 40) X dX12_seemed_40 rfl 2 rfl ?_
          refine g_isub (pc := 41) X dX12_seemed_41 ?_
          refine g_goto (pc := 42) (tgt := 48) X dX12_seemed_42 (by decide) ?_
          refine g_lv [] [] rfl ?_
          exact hL48 _ _ _ hf
  · have hf := itp hc hf
    refine g_ldc2 (pc := 12) X dX12_seemed_12 kl_X12_259 ?_
    obtain ⟨rfl, rfl⟩ := som2 hf
    exact hret _ _ dX12_seemed_15

noncomputable def fX12_deep (v0 : Nat) (v1 : Int32) (m : Mem) : Option (Int64 × Mem) := gp (KM v0 = 12) (lt1 (uI m v0 0 (0 : Int32)) (fun m2 => if (m2.1 v0 7) = 0 then (some ((-9000000000000000002 : Int64), m2)) else (bnd (fX12_in v1.toInt64 (0 : Int64) (200 : Int64)) (fun r5 => if r5 = 0 then (some ((-9000000000000000001 : Int64), m2)) else (bnd (m2.2.2 v0 5) (fun q6 => gp (KM q6 = 14) (gp (inb (11 : Int32) (NM q6) = true) (if v1 < (m2.1 q6 (11 : Int32).toNatClampNeg) then (gp (inb (9 : Int32) (NM q6) = true) (if (m2.1 q6 (9 : Int32).toNatClampNeg) = 0 then (some ((-1000000 : Int64), m2)) else (gp (inb (11 : Int32) (NM q6) = true) (gp (inb (9 : Int32) (NM q6) = true) (gp (inb (9 : Int32) (NM q6) = true) (gp (¬ (m2.1 q6 (9 : Int32).toNatClampNeg) = 0) (some ((((((m2.1 q6 (11 : Int32).toNatClampNeg) - v1) + (m2.1 q6 (9 : Int32).toNatClampNeg)) - (1 : Int32)) / (m2.1 q6 (9 : Int32).toNatClampNeg)).toInt64, m2)))))))) else (some ((0 : Int64), m2))))))))))
set_option maxHeartbeats 4000000 in
set_option maxRecDepth 100000 in
theorem cX12_deep_ct (z : Zx) (ad : Nat → Nat) (v0 : Nat) (v1 : Int32) (m m2 : Mem) (r : Int64) (hf : fX12_deep v0 v1 m = some (r, m2)) : CtL z wM yX12_deep cX12_deep 2 (some .long) (Rm 3) ad 17 [.ref (ad v0), .int v1] m m2 r := by
  refine ct_ofL mi_X12_deep rfl (Nat.le_of_ble_eq_true rfl) (fun x X hret => ?_)
  refine g_lv [(0, .ref (ad v0)), (1, .int v1)] [0, 1] rfl ?_
  unfold fX12_deep at hf
  refine g_aload_n (pc := 0) X dX12_deep_0 rfl 0 rfl ?_
  refine g_iconst (v := (0 : Int32)) (pc := 1) X dX12_deep_1 (by decide) ?_
  obtain ⟨hk1, hf⟩ := gp_some hf
  refine g_putI (pc := 2) X fl_X12_60 (KMlt hk1 (by decide)) hk1 rfl rfl dX12_deep_2 ?_
  obtain ⟨m2, e3, hf⟩ := lt1_some hf
  refine g_mem e3 ?_
  refine g_aload_n (pc := 5) X dX12_deep_5 rfl 0 rfl ?_
  refine g_getI (pc := 6) X fl_X12_238 (KMlt hk1 (by decide)) hk1 dX12_deep_6 ?_
  refine g_if_ne (pc := 9) (tgt := 16) X dX12_deep_9 (by decide) (fun hc => ?_) (fun hc => ?_)
  · have hf := itn hc hf
    refine g_iload_n (pc := 16) X dX12_deep_16 rfl 1 rfl ?_
    refine g_i2l (pc := 17) X dX12_deep_17 ?_
    refine g_lconst (v := (0 : Int64)) (pc := 18) X dX12_deep_18 (by decide) ?_
    refine g_ldc2 (pc := 19) X dX12_deep_19 kl_X12_337 ?_
    obtain ⟨r5, hq4, hf⟩ := bnd_some hf
    refine g_callSI (pc := 22) (As := [.long v1.toInt64, .long (0 : Int64), .long (200 : Int64)]) (rest := []) X mi_X12_in sm_X12_in ml_X12_71 (cX12_in_ct z ad v1.toInt64 (0 : Int64) (200 : Int64) m2 r5 hq4) rfl rfl (Nat.le_of_ble_eq_true rfl) ⟨rfl, rfl, by decide, by decide, Nat.le_refl _, Nat.le_refl _⟩ dX12_deep_22 ?_
    refine g_if_ne (pc := 25) (tgt := 32) X dX12_deep_25 (by decide) (fun hc => ?_) (fun hc => ?_)
    · have hf := itn hc hf
      refine g_iload_n (pc := 32) X dX12_deep_32 rfl 1 rfl ?_
      refine g_aload_n (pc := 33) X dX12_deep_33 rfl 0 rfl ?_
      obtain ⟨q6, hr7, hf⟩ := bnd_some hf
      refine g_getR (pc := 34) X fl_X12_19 (KMlt hk1 (by decide)) hk1 hr7 dX12_deep_34 ?_
      refine g_bipush (v := (11 : Int32)) (pc := 37) X dX12_deep_37 (by decide) ?_
      obtain ⟨hk8, hf⟩ := gp_some hf
      obtain ⟨hi9, hf⟩ := gp_some hf
      refine g_iald (pc := 39) X (KMlt hk8 (by decide)) hk8 hi9 dX12_deep_39 ?_
      refine g_icmp_lt (pc := 40) (tgt := 47) X dX12_deep_40 (by decide) (fun hc => ?_) (fun hc => ?_)
      · have hf := itp hc hf
        refine g_aload_n (pc := 47) X dX12_deep_47 rfl 0 rfl ?_
        refine g_getR (pc := 48) X fl_X12_19 (KMlt hk1 (by decide)) hk1 hr7 dX12_deep_48 ?_
        refine g_bipush (v := (9 : Int32)) (pc := 51) X dX12_deep_51 (by decide) ?_
        obtain ⟨hi10, hf⟩ := gp_some hf
        refine g_iald (pc := 53) X (KMlt hk8 (by decide)) hk8 hi10 dX12_deep_53 ?_
        refine g_if_ne (pc := 54) (tgt := 63) X dX12_deep_54 (by decide) (fun hc => ?_) (fun hc => ?_)
        · have hf := itn hc hf
          refine g_aload_n (pc := 63) X dX12_deep_63 rfl 0 rfl ?_
          refine g_getR (pc := 64) X fl_X12_19 (KMlt hk1 (by decide)) hk1 hr7 dX12_deep_64 ?_
          refine g_bipush (v := (11 : Int32)) (pc := 67) X dX12_deep_67 (by decide) ?_
          obtain ⟨hi11, hf⟩ := gp_some hf
          refine g_iald (pc := 69) X (KMlt hk8 (by decide)) hk8 hi11 dX12_deep_69 ?_
          refine g_iload_n (pc := 70) X dX12_deep_70 rfl 1 rfl ?_
          refine g_isub (pc := 71) X dX12_deep_71 ?_
          refine g_aload_n (pc := 72) X dX12_deep_72 rfl 0 rfl ?_
          refine g_getR (pc := 73) X fl_X12_19 (KMlt hk1 (by decide)) hk1 hr7 dX12_deep_73 ?_
          refine g_bipush (v := (9 : Int32)) (pc := 76) X dX12_deep_76 (by decide) ?_
          obtain ⟨hi12, hf⟩ := gp_some hf
          refine g_iald (pc := 78) X (KMlt hk8 (by decide)) hk8 hi12 dX12_deep_78 ?_
          refine g_iadd (pc := 79) X dX12_deep_79 ?_
          refine g_iconst (v := (1 : Int32)) (pc := 80) X dX12_deep_80 (by decide) ?_
          refine g_isub (pc := 81) X dX12_deep_81 ?_
          refine g_aload_n (pc := 82) X dX12_deep_82 rfl 0 rfl ?_
          refine g_getR (pc := 83) X fl_X12_19 (KMlt hk1 (by decide)) hk1 hr7 dX12_deep_83 ?_
          refine g_bipush (v := (9 : Int32)) (pc := 86) X dX12_deep_86 (by decide) ?_
          obtain ⟨hi13, hf⟩ := gp_some hf
          refine g_iald (pc := 88) X (KMlt hk8 (by decide)) hk8 hi13 dX12_deep_88 ?_
          obtain ⟨hz14, hf⟩ := gp_some hf
          refine g_idiv (pc := 89) X dX12_deep_89 hz14 ?_
          refine g_i2l (pc := 90) X dX12_deep_90 ?_
          obtain ⟨rfl, rfl⟩ := som2 hf
          exact hret _ _ dX12_deep_91
        · have hf := itp hc hf
          refine g_ldc2 (pc := 57) X dX12_deep_57 kl_X12_325 ?_
          refine g_goto (pc := 60) (tgt := 91) X dX12_deep_60 (by decide) ?_
          obtain ⟨rfl, rfl⟩ := som2 hf
          exact hret _ _ dX12_deep_91
      · have hf := itn hc hf
        refine g_lconst (v := (0 : Int64)) (pc := 43) X dX12_deep_43 (by decide) ?_
        refine g_goto (pc := 44) (tgt := 91) X dX12_deep_44 (by decide) ?_
        obtain ⟨rfl, rfl⟩ := som2 hf
        exact hret _ _ dX12_deep_91
    · have hf := itp hc hf
      refine g_ldc2 (pc := 28) X dX12_deep_28 kl_X12_81 ?_
      obtain ⟨rfl, rfl⟩ := som2 hf
      exact hret _ _ dX12_deep_31
  · have hf := itp hc hf
    refine g_ldc2 (pc := 12) X dX12_deep_12 kl_X12_259 ?_
    obtain ⟨rfl, rfl⟩ := som2 hf
    exact hret _ _ dX12_deep_15

noncomputable def fX12_was_66 (v0 : Nat) (v3 : Int32) (s0 : Nat) (s1 : Int32) (m : Mem) : Option (Int64 × Mem) := gp (KM s0 = 12) (bnd (fX12_held s0 s1 m) (fun r2 => gp (KM v0 = 12) (bnd (m.2.2 v0 5) (fun q5 => gp (KM q5 = 14) (gp (inb (9 : Int32) (NM q5) = true) (lt1 (r2 - (v3 * (m.1 q5 (9 : Int32).toNatClampNeg))) (fun v5_9 => if 0 ≤ v5_9 then (some (v5_9.toInt64, m)) else (some ((0 : Int64), m)))))))))
noncomputable def fX12_was (v0 : Nat) (v1 : Int32) (v2 : Int32) (v3 : Int32) (v4 : Int32) (m : Mem) : Option (Int64 × Mem) := gp (KM v0 = 12) (lt1 (uI m v0 0 (0 : Int32)) (fun m12 => if (m12.1 v0 7) = 0 then (some ((-9000000000000000002 : Int64), m12)) else (bnd (fX12_isRod v1 v2) (fun r15 => if r15 = 0 then (some ((-9000000000000000001 : Int64), m12)) else (bnd (fX12_in v3.toInt64 (0 : Int64) (99 : Int64)) (fun r17 => if r17 = 0 then (some ((-9000000000000000001 : Int64), m12)) else (bnd (fX12_in v4.toInt64 (0 : Int64) (1 : Int64)) (fun r19 => if r19 = 0 then (some ((-9000000000000000001 : Int64), m12)) else (if v4 = 0 then (fX12_was_66 v0 v3 v0 (v1 - v2) m12) else (fX12_was_66 v0 v3 v0 (v1 + v2) m12))))))))))
set_option maxHeartbeats 4000000 in
set_option maxRecDepth 100000 in
theorem cX12_was_ct (z : Zx) (ad : Nat → Nat) (v0 : Nat) (v1 : Int32) (v2 : Int32) (v3 : Int32) (v4 : Int32) (m m2 : Mem) (r : Int64) (hf : fX12_was v0 v1 v2 v3 v4 m = some (r, m2)) : CtL z wM yX12_was cX12_was 6 (some .long) (Rm 4) ad 17 [.ref (ad v0), .int v1, .int v2, .int v3, .int v4] m m2 r := by
  refine ct_ofL mi_X12_was rfl (Nat.le_of_ble_eq_true rfl) (fun x X hret => ?_)
  refine g_lv [(0, .ref (ad v0)), (1, .int v1), (2, .int v2), (3, .int v3), (4, .int v4)] [0, 1, 2, 3, 4] rfl ?_
  have hL66 : ∀ (v0 : Nat) (v3 : Int32) (s0 : Nat) (s1 : Int32) (m : Mem), fX12_was_66 v0 v3 s0 s1 m = some (r, m2) → G z wM x 6 0 0 ad 17 m 66 [(0, .ref (ad v0)), (3, .int v3)] [.int s1, .ref (ad s0)] := by
    intro v0 v3 s0 s1 m hf
    unfold fX12_was_66 at hf
    obtain ⟨hk3, hf⟩ := gp_some hf
    obtain ⟨r2, hq1, hf⟩ := bnd_some hf
    refine g_callVI (pc := 66) (As := [.int s1]) (rest := []) X mi_X12_held im_X12_held se_X12_held (KMlt hk3 (by decide)) hk3 clX12 ml_X12_344 (cX12_held_ct z ad s0 s1 m r2 hq1) rfl rfl (Nat.le_of_ble_eq_true rfl) ⟨rfl, rfl, by decide, by decide, Nat.le_refl _, Nat.le_refl _⟩ dX12_was_66 ?_
    refine g_iload_n (pc := 69) X dX12_was_69 rfl 1 rfl ?_
    refine g_aload_n (pc := 70) X dX12_was_70 rfl 0 rfl ?_
    obtain ⟨hk4, hf⟩ := gp_some hf
    obtain ⟨q5, hr6, hf⟩ := bnd_some hf
    refine g_getR (pc := 71) X fl_X12_19 (KMlt hk4 (by decide)) hk4 hr6 dX12_was_71 ?_
    refine g_bipush (v := (9 : Int32)) (pc := 74) X dX12_was_74 (by decide) ?_
    obtain ⟨hk7, hf⟩ := gp_some hf
    obtain ⟨hi8, hf⟩ := gp_some hf
    refine g_iald (pc := 76) X (KMlt hk7 (by decide)) hk7 hi8 dX12_was_76 ?_
    refine g_imul (pc := 77) X dX12_was_77 ?_
    refine g_isub (pc := 78) X dX12_was_78 ?_
    obtain ⟨v5_9, e10, hf⟩ := lt1_some hf
    refine g_topi e10 ?_
    refine g_istore (lv2 := [(0, .ref (ad v0)), (3, .int v3), (5, .int v5_9)]) (pc := 79) X dX12_was_79 (by decide) [1, 2, 0] rfl ?_
    refine g_iload (pc := 81) X dX12_was_81 2 rfl ?_
    refine g_if_ge (pc := 83) (tgt := 90) X dX12_was_83 (by decide) (fun hc => ?_) (fun hc => ?_)
    · have hf := itp hc hf
      refine g_iload (pc := 90) X dX12_was_90 2 rfl ?_
      refine g_i2l (pc := 92) X dX12_was_92 ?_
      obtain ⟨rfl, rfl⟩ := som2 hf
      exact hret _ _ dX12_was_93
    · have hf := itn hc hf
      refine g_lconst (v := (0 : Int64)) (pc := 86) X dX12_was_86 (by decide) ?_
      refine g_goto (pc := 87) (tgt := 93) X dX12_was_87 (by decide) ?_
      obtain ⟨rfl, rfl⟩ := som2 hf
      exact hret _ _ dX12_was_93
  unfold fX12_was at hf
  refine g_aload_n (pc := 0) X dX12_was_0 rfl 0 rfl ?_
  refine g_iconst (v := (0 : Int32)) (pc := 1) X dX12_was_1 (by decide) ?_
  obtain ⟨hk11, hf⟩ := gp_some hf
  refine g_putI (pc := 2) X fl_X12_60 (KMlt hk11 (by decide)) hk11 rfl rfl dX12_was_2 ?_
  obtain ⟨m12, e13, hf⟩ := lt1_some hf
  refine g_mem e13 ?_
  refine g_aload_n (pc := 5) X dX12_was_5 rfl 0 rfl ?_
  refine g_getI (pc := 6) X fl_X12_238 (KMlt hk11 (by decide)) hk11 dX12_was_6 ?_
  refine g_if_ne (pc := 9) (tgt := 16) X dX12_was_9 (by decide) (fun hc => ?_) (fun hc => ?_)
  · have hf := itn hc hf
    refine g_iload_n (pc := 16) X dX12_was_16 rfl 1 rfl ?_
    refine g_iload_n (pc := 17) X dX12_was_17 rfl 2 rfl ?_
    obtain ⟨r15, hq14, hf⟩ := bnd_some hf
    refine g_callSI (pc := 18) (As := [.int v1, .int v2]) (rest := []) X mi_X12_isRod sm_X12_isRod ml_X12_341 (cX12_isRod_ct z ad v1 v2 m12 r15 hq14) rfl rfl (Nat.le_of_ble_eq_true rfl) ⟨rfl, rfl, by decide, by decide, Nat.le_refl _, Nat.le_refl _⟩ dX12_was_18 ?_
    refine g_if_eq (pc := 21) (tgt := 47) X dX12_was_21 (by decide) (fun hc => ?_) (fun hc => ?_)
    · have hf := itp hc hf
      refine g_ldc2 (pc := 47) X dX12_was_47 kl_X12_81 ?_
      obtain ⟨rfl, rfl⟩ := som2 hf
      exact hret _ _ dX12_was_50
    · have hf := itn hc hf
      refine g_iload_n (pc := 24) X dX12_was_24 rfl 3 rfl ?_
      refine g_i2l (pc := 25) X dX12_was_25 ?_
      refine g_lconst (v := (0 : Int64)) (pc := 26) X dX12_was_26 (by decide) ?_
      refine g_ldc2 (pc := 27) X dX12_was_27 kl_X12_333 ?_
      obtain ⟨r17, hq16, hf⟩ := bnd_some hf
      refine g_callSI (pc := 30) (As := [.long v3.toInt64, .long (0 : Int64), .long (99 : Int64)]) (rest := []) X mi_X12_in sm_X12_in ml_X12_71 (cX12_in_ct z ad v3.toInt64 (0 : Int64) (99 : Int64) m12 r17 hq16) rfl rfl (Nat.le_of_ble_eq_true rfl) ⟨rfl, rfl, by decide, by decide, Nat.le_refl _, Nat.le_refl _⟩ dX12_was_30 ?_
      refine g_if_eq (pc := 33) (tgt := 47) X dX12_was_33 (by decide) (fun hc => ?_) (fun hc => ?_)
      · have hf := itp hc hf
        refine g_ldc2 (pc := 47) X dX12_was_47 kl_X12_81 ?_
        obtain ⟨rfl, rfl⟩ := som2 hf
        exact hret _ _ dX12_was_50
      · have hf := itn hc hf
        refine g_iload (pc := 36) X dX12_was_36 4 rfl ?_
        refine g_i2l (pc := 38) X dX12_was_38 ?_
        refine g_lconst (v := (0 : Int64)) (pc := 39) X dX12_was_39 (by decide) ?_
        refine g_lconst (v := (1 : Int64)) (pc := 40) X dX12_was_40 (by decide) ?_
        obtain ⟨r19, hq18, hf⟩ := bnd_some hf
        refine g_callSI (pc := 41) (As := [.long v4.toInt64, .long (0 : Int64), .long (1 : Int64)]) (rest := []) X mi_X12_in sm_X12_in ml_X12_71 (cX12_in_ct z ad v4.toInt64 (0 : Int64) (1 : Int64) m12 r19 hq18) rfl rfl (Nat.le_of_ble_eq_true rfl) ⟨rfl, rfl, by decide, by decide, Nat.le_refl _, Nat.le_refl _⟩ dX12_was_41 ?_
        refine g_if_ne (pc := 44) (tgt := 51) X dX12_was_44 (by decide) (fun hc => ?_) (fun hc => ?_)
        · have hf := itn hc hf
          refine g_aload_n (pc := 51) X dX12_was_51 rfl 0 rfl ?_
          refine g_iload (pc := 52) X dX12_was_52 4 rfl ?_
          refine g_if_ne (pc := 54) (tgt := 63) X dX12_was_54 (by decide) (fun hc => ?_) (fun hc => ?_)
          · have hf := itn hc hf
            refine g_iload_n (pc := 63) X dX12_was_63 rfl 1 rfl ?_
            refine g_iload_n (pc := 64) X dX12_was_64 rfl 2 rfl ?_
            refine g_iadd (pc := 65) X dX12_was_65 ?_
            refine g_lv [(0, .ref (ad v0)), (3, .int v3)] [0, 3] rfl ?_
            exact hL66 _ _ _ _ _ hf
          · have hf := itp hc hf
            refine g_iload_n (pc := 57) X dX12_was_57 rfl 1 rfl ?_
            refine g_iload_n (pc := 58) X dX12_was_58 rfl 2 rfl ?_
            refine g_isub (pc := 59) X dX12_was_59 ?_
            refine g_goto (pc := 60) (tgt := 66) X dX12_was_60 (by decide) ?_
            refine g_lv [(0, .ref (ad v0)), (3, .int v3)] [0, 3] rfl ?_
            exact hL66 _ _ _ _ _ hf
        · have hf := itp hc hf
          refine g_ldc2 (pc := 47) X dX12_was_47 kl_X12_81 ?_
          obtain ⟨rfl, rfl⟩ := som2 hf
          exact hret _ _ dX12_was_50
  · have hf := itp hc hf
    refine g_ldc2 (pc := 12) X dX12_was_12 kl_X12_259 ?_
    obtain ⟨rfl, rfl⟩ := som2 hf
    exact hret _ _ dX12_was_15

noncomputable def fX12_bang_125 (m : Mem) : Option (Int64 × Mem) := some ((1 : Int64), m)
noncomputable def fX12_bang (v0 : Nat) (v1 : Int32) (v2 : Int32) (v3 : Int32) (v4 : Int32) (v5 : Int32) (m : Mem) : Option (Int64 × Mem) := gp (KM v0 = 12) (lt1 (uI m v0 0 (0 : Int32)) (fun m2 => bnd (fX12_in v1.toInt64 (0 : Int64) (99 : Int64)) (fun r5 => if r5 = 0 then (some ((-9000000000000000001 : Int64), m2)) else (bnd (fX12_in v2.toInt64 (0 : Int64) (50 : Int64)) (fun r7 => if r7 = 0 then (some ((-9000000000000000001 : Int64), m2)) else (bnd (fX12_in v3.toInt64 (1 : Int64) (999 : Int64)) (fun r9 => if r9 = 0 then (some ((-9000000000000000001 : Int64), m2)) else (bnd (fX12_in v4.toInt64 (0 : Int64) (999 : Int64)) (fun r11 => if r11 = 0 then (some ((-9000000000000000001 : Int64), m2)) else (bnd (fX12_in v5.toInt64 (0 : Int64) (2 : Int64)) (fun r13 => if r13 = 0 then (some ((-9000000000000000001 : Int64), m2)) else (gp (¬ v3 = 0) (lt1 (((v1 * v2) * (10 : Int32)) / v3) (fun v6_15 => bnd (fX12_in v6_15.toInt64 (30 : Int64) (190 : Int64)) (fun r18 => if v5 = 0 then (some (v6_15.toInt64, m2)) else (if r18 = 0 then (some ((0 : Int64), m2)) else (if v5 = (1 : Int32) then (fX12_bang_125 m2) else (if v4 < (v1 * v2) then (some ((0 : Int64), m2)) else (fX12_bang_125 m2)))))))))))))))))))
set_option maxHeartbeats 4000000 in
set_option maxRecDepth 100000 in
theorem cX12_bang_ct (z : Zx) (ad : Nat → Nat) (v0 : Nat) (v1 : Int32) (v2 : Int32) (v3 : Int32) (v4 : Int32) (v5 : Int32) (m m2 : Mem) (r : Int64) (hf : fX12_bang v0 v1 v2 v3 v4 v5 m = some (r, m2)) : CtL z wM yX12_bang cX12_bang 8 (some .long) (Rm 3) ad 17 [.ref (ad v0), .int v1, .int v2, .int v3, .int v4, .int v5] m m2 r := by
  refine ct_ofL mi_X12_bang rfl (Nat.le_of_ble_eq_true rfl) (fun x X hret => ?_)
  refine g_lv [(0, .ref (ad v0)), (1, .int v1), (2, .int v2), (3, .int v3), (4, .int v4), (5, .int v5)] [0, 1, 2, 3, 4, 5] rfl ?_
  have hL125 : ∀ (m : Mem), fX12_bang_125 m = some (r, m2) → G z wM x 8 0 0 ad 17 m 125 [] [] := by
    intro m hf
    unfold fX12_bang_125 at hf
    refine g_lconst (v := (1 : Int64)) (pc := 125) X dX12_bang_125 (by decide) ?_
    refine g_goto (pc := 126) (tgt := 130) X dX12_bang_126 (by decide) ?_
    obtain ⟨rfl, rfl⟩ := som2 hf
    exact hret _ _ dX12_bang_130
  unfold fX12_bang at hf
  refine g_aload_n (pc := 0) X dX12_bang_0 rfl 0 rfl ?_
  refine g_iconst (v := (0 : Int32)) (pc := 1) X dX12_bang_1 (by decide) ?_
  obtain ⟨hk1, hf⟩ := gp_some hf
  refine g_putI (pc := 2) X fl_X12_60 (KMlt hk1 (by decide)) hk1 rfl rfl dX12_bang_2 ?_
  obtain ⟨m2, e3, hf⟩ := lt1_some hf
  refine g_mem e3 ?_
  refine g_iload_n (pc := 5) X dX12_bang_5 rfl 1 rfl ?_
  refine g_i2l (pc := 6) X dX12_bang_6 ?_
  refine g_lconst (v := (0 : Int64)) (pc := 7) X dX12_bang_7 (by decide) ?_
  refine g_ldc2 (pc := 8) X dX12_bang_8 kl_X12_333 ?_
  obtain ⟨r5, hq4, hf⟩ := bnd_some hf
  refine g_callSI (pc := 11) (As := [.long v1.toInt64, .long (0 : Int64), .long (99 : Int64)]) (rest := []) X mi_X12_in sm_X12_in ml_X12_71 (cX12_in_ct z ad v1.toInt64 (0 : Int64) (99 : Int64) m2 r5 hq4) rfl rfl (Nat.le_of_ble_eq_true rfl) ⟨rfl, rfl, by decide, by decide, Nat.le_refl _, Nat.le_refl _⟩ dX12_bang_11 ?_
  refine g_if_eq (pc := 14) (tgt := 67) X dX12_bang_14 (by decide) (fun hc => ?_) (fun hc => ?_)
  · have hf := itp hc hf
    refine g_ldc2 (pc := 67) X dX12_bang_67 kl_X12_81 ?_
    obtain ⟨rfl, rfl⟩ := som2 hf
    exact hret _ _ dX12_bang_70
  · have hf := itn hc hf
    refine g_iload_n (pc := 17) X dX12_bang_17 rfl 2 rfl ?_
    refine g_i2l (pc := 18) X dX12_bang_18 ?_
    refine g_lconst (v := (0 : Int64)) (pc := 19) X dX12_bang_19 (by decide) ?_
    refine g_ldc2 (pc := 20) X dX12_bang_20 kl_X12_339 ?_
    obtain ⟨r7, hq6, hf⟩ := bnd_some hf
    refine g_callSI (pc := 23) (As := [.long v2.toInt64, .long (0 : Int64), .long (50 : Int64)]) (rest := []) X mi_X12_in sm_X12_in ml_X12_71 (cX12_in_ct z ad v2.toInt64 (0 : Int64) (50 : Int64) m2 r7 hq6) rfl rfl (Nat.le_of_ble_eq_true rfl) ⟨rfl, rfl, by decide, by decide, Nat.le_refl _, Nat.le_refl _⟩ dX12_bang_23 ?_
    refine g_if_eq (pc := 26) (tgt := 67) X dX12_bang_26 (by decide) (fun hc => ?_) (fun hc => ?_)
    · have hf := itp hc hf
      refine g_ldc2 (pc := 67) X dX12_bang_67 kl_X12_81 ?_
      obtain ⟨rfl, rfl⟩ := som2 hf
      exact hret _ _ dX12_bang_70
    · have hf := itn hc hf
      refine g_iload_n (pc := 29) X dX12_bang_29 rfl 3 rfl ?_
      refine g_i2l (pc := 30) X dX12_bang_30 ?_
      refine g_lconst (v := (1 : Int64)) (pc := 31) X dX12_bang_31 (by decide) ?_
      refine g_ldc2 (pc := 32) X dX12_bang_32 kl_X12_329 ?_
      obtain ⟨r9, hq8, hf⟩ := bnd_some hf
      refine g_callSI (pc := 35) (As := [.long v3.toInt64, .long (1 : Int64), .long (999 : Int64)]) (rest := []) X mi_X12_in sm_X12_in ml_X12_71 (cX12_in_ct z ad v3.toInt64 (1 : Int64) (999 : Int64) m2 r9 hq8) rfl rfl (Nat.le_of_ble_eq_true rfl) ⟨rfl, rfl, by decide, by decide, Nat.le_refl _, Nat.le_refl _⟩ dX12_bang_35 ?_
      refine g_if_eq (pc := 38) (tgt := 67) X dX12_bang_38 (by decide) (fun hc => ?_) (fun hc => ?_)
      · have hf := itp hc hf
        refine g_ldc2 (pc := 67) X dX12_bang_67 kl_X12_81 ?_
        obtain ⟨rfl, rfl⟩ := som2 hf
        exact hret _ _ dX12_bang_70
      · have hf := itn hc hf
        refine g_iload (pc := 41) X dX12_bang_41 4 rfl ?_
        refine g_i2l (pc := 43) X dX12_bang_43 ?_
        refine g_lconst (v := (0 : Int64)) (pc := 44) X dX12_bang_44 (by decide) ?_
        refine g_ldc2 (pc := 45) X dX12_bang_45 kl_X12_329 ?_
        obtain ⟨r11, hq10, hf⟩ := bnd_some hf
        refine g_callSI (pc := 48) (As := [.long v4.toInt64, .long (0 : Int64), .long (999 : Int64)]) (rest := []) X mi_X12_in sm_X12_in ml_X12_71 (cX12_in_ct z ad v4.toInt64 (0 : Int64) (999 : Int64) m2 r11 hq10) rfl rfl (Nat.le_of_ble_eq_true rfl) ⟨rfl, rfl, by decide, by decide, Nat.le_refl _, Nat.le_refl _⟩ dX12_bang_48 ?_
        refine g_if_eq (pc := 51) (tgt := 67) X dX12_bang_51 (by decide) (fun hc => ?_) (fun hc => ?_)
        · have hf := itp hc hf
          refine g_ldc2 (pc := 67) X dX12_bang_67 kl_X12_81 ?_
          obtain ⟨rfl, rfl⟩ := som2 hf
          exact hret _ _ dX12_bang_70
        · have hf := itn hc hf
          refine g_iload (pc := 54) X dX12_bang_54 5 rfl ?_
          refine g_i2l (pc := 56) X dX12_bang_56 ?_
          refine g_lconst (v := (0 : Int64)) (pc := 57) X dX12_bang_57 (by decide) ?_
          refine g_ldc2 (pc := 58) X dX12_bang_58 kl_X12_79 ?_
          obtain ⟨r13, hq12, hf⟩ := bnd_some hf
          refine g_callSI (pc := 61) (As := [.long v5.toInt64, .long (0 : Int64), .long (2 : Int64)]) (rest := []) X mi_X12_in sm_X12_in ml_X12_71 (cX12_in_ct z ad v5.toInt64 (0 : Int64) (2 : Int64) m2 r13 hq12) rfl rfl (Nat.le_of_ble_eq_true rfl) ⟨rfl, rfl, by decide, by decide, Nat.le_refl _, Nat.le_refl _⟩ dX12_bang_61 ?_
          refine g_if_ne (pc := 64) (tgt := 71) X dX12_bang_64 (by decide) (fun hc => ?_) (fun hc => ?_)
          · have hf := itn hc hf
            refine g_iload_n (pc := 71) X dX12_bang_71 rfl 1 rfl ?_
            refine g_iload_n (pc := 72) X dX12_bang_72 rfl 2 rfl ?_
            refine g_imul (pc := 73) X dX12_bang_73 ?_
            refine g_bipush (v := (10 : Int32)) (pc := 74) X dX12_bang_74 (by decide) ?_
            refine g_imul (pc := 76) X dX12_bang_76 ?_
            refine g_iload_n (pc := 77) X dX12_bang_77 rfl 3 rfl ?_
            obtain ⟨hz14, hf⟩ := gp_some hf
            refine g_idiv (pc := 78) X dX12_bang_78 hz14 ?_
            obtain ⟨v6_15, e16, hf⟩ := lt1_some hf
            refine g_topi e16 ?_
            refine g_istore (lv2 := [(0, .ref (ad v0)), (1, .int v1), (2, .int v2), (3, .int v3), (4, .int v4), (5, .int v5), (6, .int v6_15)]) (pc := 79) X dX12_bang_79 (by decide) [1, 2, 3, 4, 5, 6, 0] rfl ?_
            refine g_iload (pc := 81) X dX12_bang_81 6 rfl ?_
            refine g_i2l (pc := 83) X dX12_bang_83 ?_
            refine g_ldc2 (pc := 84) X dX12_bang_84 kl_X12_347 ?_
            refine g_ldc2 (pc := 87) X dX12_bang_87 kl_X12_349 ?_
            obtain ⟨r18, hq17, hf⟩ := bnd_some hf
            refine g_callSI (pc := 90) (As := [.long v6_15.toInt64, .long (30 : Int64), .long (190 : Int64)]) (rest := []) X mi_X12_in sm_X12_in ml_X12_71 (cX12_in_ct z ad v6_15.toInt64 (30 : Int64) (190 : Int64) m2 r18 hq17) rfl rfl (Nat.le_of_ble_eq_true rfl) ⟨rfl, rfl, by decide, by decide, Nat.le_refl _, Nat.le_refl _⟩ dX12_bang_90 ?_
            refine g_istore (lv2 := [(0, .ref (ad v0)), (1, .int v1), (2, .int v2), (3, .int v3), (4, .int v4), (5, .int v5), (6, .int v6_15), (7, .int r18)]) (pc := 93) X dX12_bang_93 (by decide) [1, 2, 3, 4, 5, 6, 7, 0] rfl ?_
            refine g_iload (pc := 95) X dX12_bang_95 5 rfl ?_
            refine g_if_ne (pc := 97) (tgt := 106) X dX12_bang_97 (by decide) (fun hc => ?_) (fun hc => ?_)
            · have hf := itn hc hf
              refine g_iload (pc := 106) X dX12_bang_106 7 rfl ?_
              refine g_if_eq (pc := 108) (tgt := 129) X dX12_bang_108 (by decide) (fun hc => ?_) (fun hc => ?_)
              · have hf := itp hc hf
                refine g_lconst (v := (0 : Int64)) (pc := 129) X dX12_bang_129 (by decide) ?_
                obtain ⟨rfl, rfl⟩ := som2 hf
                exact hret _ _ dX12_bang_130
              · have hf := itn hc hf
                refine g_iload (pc := 111) X dX12_bang_111 5 rfl ?_
                refine g_iconst (v := (1 : Int32)) (pc := 113) X dX12_bang_113 (by decide) ?_
                refine g_icmp_eq (pc := 114) (tgt := 125) X dX12_bang_114 (by decide) (fun hc => ?_) (fun hc => ?_)
                · have hf := itp hc hf
                  refine g_lv [] [] rfl ?_
                  exact hL125 _ hf
                · have hf := itn hc hf
                  refine g_iload_n (pc := 117) X dX12_bang_117 rfl 1 rfl ?_
                  refine g_iload_n (pc := 118) X dX12_bang_118 rfl 2 rfl ?_
                  refine g_imul (pc := 119) X dX12_bang_119 ?_
                  refine g_iload (pc := 120) X dX12_bang_120 4 rfl ?_
                  refine g_icmp_gt (pc := 122) (tgt := 129) X dX12_bang_122 (by decide) (fun hc => ?_) (fun hc => ?_)
                  · have hf := itp hc hf
                    refine g_lconst (v := (0 : Int64)) (pc := 129) X dX12_bang_129 (by decide) ?_
                    obtain ⟨rfl, rfl⟩ := som2 hf
                    exact hret _ _ dX12_bang_130
                  · have hf := itn hc hf
                    refine g_lv [] [] rfl ?_
                    exact hL125 _ hf
            · have hf := itp hc hf
              refine g_iload (pc := 100) X dX12_bang_100 6 rfl ?_
              refine g_i2l (pc := 102) X dX12_bang_102 ?_
              refine g_goto (pc := 103) (tgt := 130) X dX12_bang_103 (by decide) ?_
              obtain ⟨rfl, rfl⟩ := som2 hf
              exact hret _ _ dX12_bang_130
          · have hf := itp hc hf
            refine g_ldc2 (pc := 67) X dX12_bang_67 kl_X12_81 ?_
            obtain ⟨rfl, rfl⟩ := som2 hf
            exact hret _ _ dX12_bang_70

noncomputable def fX12_leaving_113 (v0 : Nat) (v1 : Int32) (v2 : Int32) (v3 : Int32) (v4 : Int32) (v5 : Int32) (m : Mem) : Option ((Int32 × Int32 × Int32 × Mem) ⊕ (Int32 × Mem)) := some (.inl (v3, v4, v5, m))
noncomputable def fX12_leaving_107 (v0 : Nat) (v1 : Int32) (v2 : Int32) (v3 : Int32) (v4 : Int32) (v5 : Int32) (v6 : Int32) (v7 : Int32) (m : Mem) : Option ((Int32 × Int32 × Int32) ⊕ (Int32 × Int32)) := lt1 (v7 + 1) (fun v7_1 => some (.inl (v3, v5, v7_1)))
noncomputable def fX12_leaving_97 (v0 : Nat) (v1 : Int32) (v2 : Int32) (v3 : Int32) (v4 : Int32) (v5 : Int32) (v6 : Int32) (v7 : Int32) (m : Mem) : Option ((Int32 × Int32 × Int32) ⊕ (Int32 × Int32)) := lt1 (v3 ||| ((1 : Int32) <<< (v7 &&& 31))) (fun v3_3 => lt1 (v5 + 1) (fun v5_5 => fX12_leaving_107 v0 v1 v2 v3_3 v4 v5_5 v6 v7 m))
noncomputable def fX12_leaving_39b (v0 : Nat) (v1 : Int32) (v2 : Int32) (v3 : Int32) (v4 : Int32) (v5 : Int32) (v6 : Int32) (v7 : Int32) (m : Mem) : Option ((Int32 × Int32 × Int32) ⊕ (Int32 × Int32)) := gp (KM v0 = 12) (bnd (m.2.2 v0 5) (fun q8 => gp (KM q8 = 14) (gp (inb (3 : Int32) (NM q8) = true) (if (m.1 q8 (3 : Int32).toNatClampNeg) ≤ v7 then (some (.inr (v3, v5))) else (if ((v4 >>> (v7 &&& 31)) &&& (1 : Int32)) = 0 then (gp (inb ((20 : Int32) + ((2 : Int32) * v7)) (NM q8) = true) (if (m.1 q8 ((20 : Int32) + ((2 : Int32) * v7)).toNatClampNeg) ≤ v1 then (fX12_leaving_97 v0 v1 v2 v3 v4 v5 v6 v7 m) else (gp (inb (((20 : Int32) + ((2 : Int32) * v7)) + (1 : Int32)) (NM q8) = true) (if (v2 + v6) < (m.1 q8 (((20 : Int32) + ((2 : Int32) * v7)) + (1 : Int32)).toNatClampNeg) then (fX12_leaving_107 v0 v1 v2 v3 v4 v5 v6 v7 m) else (fX12_leaving_97 v0 v1 v2 v3 v4 v5 v6 v7 m))))) else (fX12_leaving_107 v0 v1 v2 v3 v4 v5 v6 v7 m))))))
noncomputable def fX12_leaving_39 (v0 : Nat) (v1 : Int32) (v2 : Int32) (v3 : Int32) (v4 : Int32) (v5 : Int32) (v6 : Int32) (v7 : Int32) (m : Mem) : Option ((Int32 × Int32 × Int32 × Mem) ⊕ (Int32 × Mem)) := bnd (iter (fun s => fX12_leaving_39b v0 v1 v2 s.1 v4 s.2.1 v6 s.2.2 m) FU (v3, v5, v7)) (fun e => fX12_leaving_113 v0 v1 v2 e.1 v4 e.2 m)
noncomputable def fX12_leaving_13b (v0 : Nat) (v1 : Int32) (v2 : Int32) (v3 : Int32) (v4 : Int32) (v5 : Int32) (m : Mem) : Option ((Int32 × Int32 × Int32 × Mem) ⊕ (Int32 × Mem)) := if v3 = v4 then (some (.inr (v3, m))) else (gp (KM v0 = 12) (lt1 (uI m v0 25 ((m.1 v0 25) + (1 : Int32))) (fun m15 => lt1 ((0 : Int32)) (fun v7_17 => fX12_leaving_39 v0 v1 v2 v3 v3 v5 v5 v7_17 m15))))
noncomputable def fX12_leaving_13 (v0 : Nat) (v1 : Int32) (v2 : Int32) (v3 : Int32) (v4 : Int32) (v5 : Int32) (m : Mem) : Option (Int32 × Mem) := bnd (iter (fun s => fX12_leaving_13b v0 v1 v2 s.1 s.2.1 s.2.2.1 s.2.2.2) FU (v3, v4, v5, m)) (fun e => some (e.1, e.2))
noncomputable def fX12_leaving (v0 : Nat) (v1 : Int32) (v2 : Int32) (m : Mem) : Option (Int32 × Mem) := lt1 ((0 : Int32)) (fun v3_19 => lt1 ((-1 : Int32)) (fun v4_21 => lt1 ((0 : Int32)) (fun v5_23 => gp (KM v0 = 12) (lt1 (uI m v0 25 (-1 : Int32)) (fun m26 => fX12_leaving_13 v0 v1 v2 v3_19 v4_21 v5_23 m26)))))
set_option maxHeartbeats 4000000 in
set_option maxRecDepth 100000 in
theorem cX12_leaving_ct (z : Zx) (ad : Nat → Nat) (v0 : Nat) (v1 : Int32) (v2 : Int32) (m m2 : Mem) (r : Int32) (hf : fX12_leaving v0 v1 v2 m = some (r, m2)) : CtI z wM yX12_leaving cX12_leaving 8 (some .int) (Rm 2) ad 17 [.ref (ad v0), .int v1, .int v2] m m2 r := by
  refine ct_ofI mi_X12_leaving rfl (Nat.le_of_ble_eq_true rfl) (fun x X hret => ?_)
  refine g_lv [(0, .ref (ad v0)), (1, .int v1), (2, .int v2)] [0, 1, 2] rfl ?_
  have hL13 : ∀ (v0 : Nat) (v1 : Int32) (v2 : Int32) (v3 : Int32) (v4 : Int32) (v5 : Int32) (m : Mem), fX12_leaving_13 v0 v1 v2 v3 v4 v5 m = some (r, m2) → G z wM x 8 0 0 ad 17 m 13 [(0, .ref (ad v0)), (1, .int v1), (2, .int v2), (3, .int v3), (4, .int v4), (5, .int v5)] [] := by
    intro v0 v1 v2 v3 v4 v5 m hf
    unfold fX12_leaving_13 at hf
    obtain ⟨e13, hit13, hrest13⟩ := bnd_some hf
    refine iter_ok (Hd := fun (s : (Int32 × Int32 × Int32 × Mem)) => G z wM x 8 0 0 ad 17 s.2.2.2 13 [(0, .ref (ad v0)), (1, .int v1), (2, .int v2), (3, .int s.1), (4, .int s.2.1), (5, .int s.2.2.1)] []) ?_ FU (v3, v4, v5, m) hit13
    intro s ob13 hf hs13 he13
    obtain ⟨v3, v4, v5, m⟩ := s
    have hf : fX12_leaving_13b v0 v1 v2 v3 v4 v5 m = some ob13 := hf
    have hL113 : ∀ (v3 : Int32) (v4 : Int32) (v5 : Int32) (m : Mem), fX12_leaving_113 v0 v1 v2 v3 v4 v5 m = some ob13 → G z wM x 8 0 0 ad 17 m 113 [(0, .ref (ad v0)), (1, .int v1), (2, .int v2), (3, .int v3), (4, .int v4), (5, .int v5)] [] := by
      intro v3 v4 v5 m hf
      unfold fX12_leaving_113 at hf
      refine g_goto (pc := 113) (tgt := 13) X dX12_leaving_113 (by decide) ?_
      exact hs13 (v3, v4, v5, m) (Option.some.inj hf).symm
    have hL39 : ∀ (v3 : Int32) (v4 : Int32) (v5 : Int32) (v6 : Int32) (v7 : Int32) (m : Mem), fX12_leaving_39 v0 v1 v2 v3 v4 v5 v6 v7 m = some ob13 → G z wM x 8 0 0 ad 17 m 39 [(0, .ref (ad v0)), (1, .int v1), (2, .int v2), (3, .int v3), (4, .int v4), (5, .int v5), (6, .int v6), (7, .int v7)] [] := by
      intro v3 v4 v5 v6 v7 m hf
      unfold fX12_leaving_39 at hf
      obtain ⟨e39, hit39, hrest39⟩ := bnd_some hf
      refine iter_ok (Hd := fun (s : (Int32 × Int32 × Int32)) => G z wM x 8 0 0 ad 17 m 39 [(0, .ref (ad v0)), (1, .int v1), (2, .int v2), (3, .int s.1), (4, .int v4), (5, .int s.2.1), (6, .int v6), (7, .int s.2.2)] []) ?_ FU (v3, v5, v7) hit39
      intro s ob39 hf hs39 he39
      obtain ⟨v3, v5, v7⟩ := s
      have hf : fX12_leaving_39b v0 v1 v2 v3 v4 v5 v6 v7 m = some ob39 := hf
      have hL107 : ∀ (v3 : Int32) (v5 : Int32) (v7 : Int32), fX12_leaving_107 v0 v1 v2 v3 v4 v5 v6 v7 m = some ob39 → G z wM x 8 0 0 ad 17 m 107 [(0, .ref (ad v0)), (1, .int v1), (2, .int v2), (3, .int v3), (4, .int v4), (5, .int v5), (6, .int v6), (7, .int v7)] [] := by
        intro v3 v5 v7 hf
        unfold fX12_leaving_107 at hf
        obtain ⟨v7_1, e2, hf⟩ := lt1_some hf
        refine g_iinc (v2 := v7_1) (lv2 := [(0, .ref (ad v0)), (1, .int v1), (2, .int v2), (3, .int v3), (4, .int v4), (5, .int v5), (6, .int v6), (7, .int v7_1)]) (pc := 107) X dX12_leaving_107 7 rfl (by rw [e2]; rfl) (by decide) [1, 2, 3, 4, 5, 6, 7, 0] rfl ?_
        refine g_goto (pc := 110) (tgt := 39) X dX12_leaving_110 (by decide) ?_
        exact hs39 (v3, v5, v7_1) (Option.some.inj hf).symm
      have hL97 : ∀ (v3 : Int32) (v5 : Int32) (v7 : Int32), fX12_leaving_97 v0 v1 v2 v3 v4 v5 v6 v7 m = some ob39 → G z wM x 8 0 0 ad 17 m 97 [(0, .ref (ad v0)), (1, .int v1), (2, .int v2), (3, .int v3), (4, .int v4), (5, .int v5), (6, .int v6), (7, .int v7)] [] := by
        intro v3 v5 v7 hf
        unfold fX12_leaving_97 at hf
        refine g_iload_n (pc := 97) X dX12_leaving_97 rfl 3 rfl ?_
        refine g_iconst (v := (1 : Int32)) (pc := 98) X dX12_leaving_98 (by decide) ?_
        refine g_iload (pc := 99) X dX12_leaving_99 7 rfl ?_
        refine g_ishl (pc := 101) X dX12_leaving_101 ?_
        refine g_ior (pc := 102) X dX12_leaving_102 ?_
        obtain ⟨v3_3, e4, hf⟩ := lt1_some hf
        refine g_topi e4 ?_
        refine g_istore_n (lv2 := [(0, .ref (ad v0)), (1, .int v1), (2, .int v2), (3, .int v3_3), (4, .int v4), (5, .int v5), (6, .int v6), (7, .int v7)]) (pc := 103) X dX12_leaving_103 rfl (by decide) [1, 2, 3, 0, 4, 5, 6, 7] rfl ?_
        obtain ⟨v5_5, e6, hf⟩ := lt1_some hf
        refine g_iinc (v2 := v5_5) (lv2 := [(0, .ref (ad v0)), (1, .int v1), (2, .int v2), (3, .int v3_3), (4, .int v4), (5, .int v5_5), (6, .int v6), (7, .int v7)]) (pc := 104) X dX12_leaving_104 5 rfl (by rw [e6]; rfl) (by decide) [1, 2, 3, 4, 5, 0, 6, 7] rfl ?_
        exact hL107 _ _ _ hf
      unfold fX12_leaving_39b at hf
      refine g_iload (pc := 39) X dX12_leaving_39 7 rfl ?_
      refine g_aload_n (pc := 41) X dX12_leaving_41 rfl 0 rfl ?_
      obtain ⟨hk7, hf⟩ := gp_some hf
      obtain ⟨q8, hr9, hf⟩ := bnd_some hf
      refine g_getR (pc := 42) X fl_X12_19 (KMlt hk7 (by decide)) hk7 hr9 dX12_leaving_42 ?_
      refine g_iconst (v := (3 : Int32)) (pc := 45) X dX12_leaving_45 (by decide) ?_
      obtain ⟨hk10, hf⟩ := gp_some hf
      obtain ⟨hi11, hf⟩ := gp_some hf
      refine g_iald (pc := 46) X (KMlt hk10 (by decide)) hk10 hi11 dX12_leaving_46 ?_
      refine g_icmp_ge (pc := 47) (tgt := 113) X dX12_leaving_47 (by decide) (fun hc => ?_) (fun hc => ?_)
      · have hf := itp hc hf
        have he39 := he39 _ (Option.some.inj hf).symm
        subst he39
        have hf : fX12_leaving_113 v0 v1 v2 v3 v4 v5 m = some ob13 := hrest39
        refine g_lv [(0, .ref (ad v0)), (1, .int v1), (2, .int v2), (3, .int v3), (4, .int v4), (5, .int v5)] [0, 1, 2, 3, 4, 5] rfl ?_
        exact hL113 _ _ _ _ hf
      · have hf := itn hc hf
        refine g_iload (pc := 50) X dX12_leaving_50 4 rfl ?_
        refine g_iload (pc := 52) X dX12_leaving_52 7 rfl ?_
        refine g_ishr (pc := 54) X dX12_leaving_54 ?_
        refine g_iconst (v := (1 : Int32)) (pc := 55) X dX12_leaving_55 (by decide) ?_
        refine g_iand (pc := 56) X dX12_leaving_56 ?_
        refine g_if_ne (pc := 57) (tgt := 107) X dX12_leaving_57 (by decide) (fun hc => ?_) (fun hc => ?_)
        · have hf := itn hc hf
          exact hL107 _ _ _ hf
        · have hf := itp hc hf
          refine g_aload_n (pc := 60) X dX12_leaving_60 rfl 0 rfl ?_
          refine g_getR (pc := 61) X fl_X12_19 (KMlt hk7 (by decide)) hk7 hr9 dX12_leaving_61 ?_
          refine g_bipush (v := (20 : Int32)) (pc := 64) X dX12_leaving_64 (by decide) ?_
          refine g_iconst (v := (2 : Int32)) (pc := 66) X dX12_leaving_66 (by decide) ?_
          refine g_iload (pc := 67) X dX12_leaving_67 7 rfl ?_
          refine g_imul (pc := 69) X dX12_leaving_69 ?_
          refine g_iadd (pc := 70) X dX12_leaving_70 ?_
          obtain ⟨hi12, hf⟩ := gp_some hf
          refine g_iald (pc := 71) X (KMlt hk10 (by decide)) hk10 hi12 dX12_leaving_71 ?_
          refine g_iload_n (pc := 72) X dX12_leaving_72 rfl 1 rfl ?_
          refine g_icmp_le (pc := 73) (tgt := 97) X dX12_leaving_73 (by decide) (fun hc => ?_) (fun hc => ?_)
          · have hf := itp hc hf
            exact hL97 _ _ _ hf
          · have hf := itn hc hf
            refine g_aload_n (pc := 76) X dX12_leaving_76 rfl 0 rfl ?_
            refine g_getR (pc := 77) X fl_X12_19 (KMlt hk7 (by decide)) hk7 hr9 dX12_leaving_77 ?_
            refine g_bipush (v := (20 : Int32)) (pc := 80) X dX12_leaving_80 (by decide) ?_
            refine g_iconst (v := (2 : Int32)) (pc := 82) X dX12_leaving_82 (by decide) ?_
            refine g_iload (pc := 83) X dX12_leaving_83 7 rfl ?_
            refine g_imul (pc := 85) X dX12_leaving_85 ?_
            refine g_iadd (pc := 86) X dX12_leaving_86 ?_
            refine g_iconst (v := (1 : Int32)) (pc := 87) X dX12_leaving_87 (by decide) ?_
            refine g_iadd (pc := 88) X dX12_leaving_88 ?_
            obtain ⟨hi13, hf⟩ := gp_some hf
            refine g_iald (pc := 89) X (KMlt hk10 (by decide)) hk10 hi13 dX12_leaving_89 ?_
            refine g_iload_n (pc := 90) X dX12_leaving_90 rfl 2 rfl ?_
            refine g_iload (pc := 91) X dX12_leaving_91 6 rfl ?_
            refine g_iadd (pc := 93) X dX12_leaving_93 ?_
            refine g_icmp_gt (pc := 94) (tgt := 107) X dX12_leaving_94 (by decide) (fun hc => ?_) (fun hc => ?_)
            · have hf := itp hc hf
              exact hL107 _ _ _ hf
            · have hf := itn hc hf
              exact hL97 _ _ _ hf
    unfold fX12_leaving_13b at hf
    refine g_iload_n (pc := 13) X dX12_leaving_13 rfl 3 rfl ?_
    refine g_iload (pc := 14) X dX12_leaving_14 4 rfl ?_
    refine g_icmp_eq (pc := 16) (tgt := 116) X dX12_leaving_16 (by decide) (fun hc => ?_) (fun hc => ?_)
    · have hf := itp hc hf
      have he13 := he13 _ (Option.some.inj hf).symm
      subst he13
      have hf : some (v3, m) = some (r, m2) := hrest13
      refine g_iload_n (pc := 116) X dX12_leaving_116 rfl 3 rfl ?_
      obtain ⟨rfl, rfl⟩ := som2 hf
      exact hret _ _ rfl dX12_leaving_117
    · have hf := itn hc hf
      refine g_iload_n (pc := 19) X dX12_leaving_19 rfl 3 rfl ?_
      refine g_istore (lv2 := [(0, .ref (ad v0)), (1, .int v1), (2, .int v2), (3, .int v3), (4, .int v3), (5, .int v5)]) (pc := 20) X dX12_leaving_20 (by decide) [1, 2, 3, 4, 0, 5] rfl ?_
      refine g_aload_n (pc := 22) X dX12_leaving_22 rfl 0 rfl ?_
      refine g_dup (pc := 23) X dX12_leaving_23 rfl ?_
      obtain ⟨hk14, hf⟩ := gp_some hf
      refine g_getI (pc := 24) X fl_X12_351 (KMlt hk14 (by decide)) hk14 dX12_leaving_24 ?_
      refine g_iconst (v := (1 : Int32)) (pc := 27) X dX12_leaving_27 (by decide) ?_
      refine g_iadd (pc := 28) X dX12_leaving_28 ?_
      refine g_putI (pc := 29) X fl_X12_351 (KMlt hk14 (by decide)) hk14 rfl rfl dX12_leaving_29 ?_
      obtain ⟨m15, e16, hf⟩ := lt1_some hf
      refine g_mem e16 ?_
      refine g_iload (pc := 32) X dX12_leaving_32 5 rfl ?_
      refine g_istore (lv2 := [(0, .ref (ad v0)), (1, .int v1), (2, .int v2), (3, .int v3), (4, .int v3), (5, .int v5), (6, .int v5)]) (pc := 34) X dX12_leaving_34 (by decide) [1, 2, 3, 4, 5, 6, 0] rfl ?_
      refine g_iconst (v := (0 : Int32)) (pc := 36) X dX12_leaving_36 (by decide) ?_
      obtain ⟨v7_17, e18, hf⟩ := lt1_some hf
      refine g_topi e18 ?_
      refine g_istore (lv2 := [(0, .ref (ad v0)), (1, .int v1), (2, .int v2), (3, .int v3), (4, .int v3), (5, .int v5), (6, .int v5), (7, .int v7_17)]) (pc := 37) X dX12_leaving_37 (by decide) [1, 2, 3, 4, 5, 6, 7, 0] rfl ?_
      exact hL39 _ _ _ _ _ _ hf
  unfold fX12_leaving at hf
  refine g_iconst (v := (0 : Int32)) (pc := 0) X dX12_leaving_0 (by decide) ?_
  obtain ⟨v3_19, e20, hf⟩ := lt1_some hf
  refine g_topi e20 ?_
  refine g_istore_n (lv2 := [(0, .ref (ad v0)), (1, .int v1), (2, .int v2), (3, .int v3_19)]) (pc := 1) X dX12_leaving_1 rfl (by decide) [1, 2, 3, 0] rfl ?_
  refine g_iconst (v := (-1 : Int32)) (pc := 2) X dX12_leaving_2 (by decide) ?_
  obtain ⟨v4_21, e22, hf⟩ := lt1_some hf
  refine g_topi e22 ?_
  refine g_istore (lv2 := [(0, .ref (ad v0)), (1, .int v1), (2, .int v2), (3, .int v3_19), (4, .int v4_21)]) (pc := 3) X dX12_leaving_3 (by decide) [1, 2, 3, 4, 0] rfl ?_
  refine g_iconst (v := (0 : Int32)) (pc := 5) X dX12_leaving_5 (by decide) ?_
  obtain ⟨v5_23, e24, hf⟩ := lt1_some hf
  refine g_topi e24 ?_
  refine g_istore (lv2 := [(0, .ref (ad v0)), (1, .int v1), (2, .int v2), (3, .int v3_19), (4, .int v4_21), (5, .int v5_23)]) (pc := 6) X dX12_leaving_6 (by decide) [1, 2, 3, 4, 5, 0] rfl ?_
  refine g_aload_n (pc := 8) X dX12_leaving_8 rfl 0 rfl ?_
  refine g_iconst (v := (-1 : Int32)) (pc := 9) X dX12_leaving_9 (by decide) ?_
  obtain ⟨hk25, hf⟩ := gp_some hf
  refine g_putI (pc := 10) X fl_X12_351 (KMlt hk25 (by decide)) hk25 rfl rfl dX12_leaving_10 ?_
  obtain ⟨m26, e27, hf⟩ := lt1_some hf
  refine g_mem e27 ?_
  exact hL13 _ _ _ _ _ _ _ hf

noncomputable def fX12_leave (v0 : Nat) (v1 : Int32) (v2 : Int32) (v3 : Int32) (m : Mem) : Option (Int64 × Mem) := gp (KM v0 = 12) (lt1 (uI m v0 0 (0 : Int32)) (fun m2 => if (m2.1 v0 7) = 0 then (some ((-9000000000000000002 : Int64), m2)) else (bnd (fX12_in v1.toInt64 (0 : Int64) (200 : Int64)) (fun r5 => if r5 = 0 then (some ((-9000000000000000001 : Int64), m2)) else (bnd (fX12_in v2.toInt64 (0 : Int64) (50 : Int64)) (fun r7 => if r7 = 0 then (some ((-9000000000000000001 : Int64), m2)) else (bnd (fX12_in v3.toInt64 (0 : Int64) (1 : Int64)) (fun r9 => if r9 = 0 then (some ((-9000000000000000001 : Int64), m2)) else (bnd2 (fX12_leaving v0 v1 v2 m2) (fun r11 m12 => if v3 = 0 then (some (r11.toInt64, m12)) else (some ((m12.1 v0 25).toInt64, m12))))))))))))
set_option maxHeartbeats 4000000 in
set_option maxRecDepth 100000 in
theorem cX12_leave_ct (z : Zx) (ad : Nat → Nat) (v0 : Nat) (v1 : Int32) (v2 : Int32) (v3 : Int32) (m m2 : Mem) (r : Int64) (hf : fX12_leave v0 v1 v2 v3 m = some (r, m2)) : CtL z wM yX12_leave cX12_leave 5 (some .long) (Rm 3) ad 17 [.ref (ad v0), .int v1, .int v2, .int v3] m m2 r := by
  refine ct_ofL mi_X12_leave rfl (Nat.le_of_ble_eq_true rfl) (fun x X hret => ?_)
  refine g_lv [(0, .ref (ad v0)), (1, .int v1), (2, .int v2), (3, .int v3)] [0, 1, 2, 3] rfl ?_
  unfold fX12_leave at hf
  refine g_aload_n (pc := 0) X dX12_leave_0 rfl 0 rfl ?_
  refine g_iconst (v := (0 : Int32)) (pc := 1) X dX12_leave_1 (by decide) ?_
  obtain ⟨hk1, hf⟩ := gp_some hf
  refine g_putI (pc := 2) X fl_X12_60 (KMlt hk1 (by decide)) hk1 rfl rfl dX12_leave_2 ?_
  obtain ⟨m2, e3, hf⟩ := lt1_some hf
  refine g_mem e3 ?_
  refine g_aload_n (pc := 5) X dX12_leave_5 rfl 0 rfl ?_
  refine g_getI (pc := 6) X fl_X12_238 (KMlt hk1 (by decide)) hk1 dX12_leave_6 ?_
  refine g_if_ne (pc := 9) (tgt := 16) X dX12_leave_9 (by decide) (fun hc => ?_) (fun hc => ?_)
  · have hf := itn hc hf
    refine g_iload_n (pc := 16) X dX12_leave_16 rfl 1 rfl ?_
    refine g_i2l (pc := 17) X dX12_leave_17 ?_
    refine g_lconst (v := (0 : Int64)) (pc := 18) X dX12_leave_18 (by decide) ?_
    refine g_ldc2 (pc := 19) X dX12_leave_19 kl_X12_337 ?_
    obtain ⟨r5, hq4, hf⟩ := bnd_some hf
    refine g_callSI (pc := 22) (As := [.long v1.toInt64, .long (0 : Int64), .long (200 : Int64)]) (rest := []) X mi_X12_in sm_X12_in ml_X12_71 (cX12_in_ct z ad v1.toInt64 (0 : Int64) (200 : Int64) m2 r5 hq4) rfl rfl (Nat.le_of_ble_eq_true rfl) ⟨rfl, rfl, by decide, by decide, Nat.le_refl _, Nat.le_refl _⟩ dX12_leave_22 ?_
    refine g_if_eq (pc := 25) (tgt := 50) X dX12_leave_25 (by decide) (fun hc => ?_) (fun hc => ?_)
    · have hf := itp hc hf
      refine g_ldc2 (pc := 50) X dX12_leave_50 kl_X12_81 ?_
      obtain ⟨rfl, rfl⟩ := som2 hf
      exact hret _ _ dX12_leave_53
    · have hf := itn hc hf
      refine g_iload_n (pc := 28) X dX12_leave_28 rfl 2 rfl ?_
      refine g_i2l (pc := 29) X dX12_leave_29 ?_
      refine g_lconst (v := (0 : Int64)) (pc := 30) X dX12_leave_30 (by decide) ?_
      refine g_ldc2 (pc := 31) X dX12_leave_31 kl_X12_339 ?_
      obtain ⟨r7, hq6, hf⟩ := bnd_some hf
      refine g_callSI (pc := 34) (As := [.long v2.toInt64, .long (0 : Int64), .long (50 : Int64)]) (rest := []) X mi_X12_in sm_X12_in ml_X12_71 (cX12_in_ct z ad v2.toInt64 (0 : Int64) (50 : Int64) m2 r7 hq6) rfl rfl (Nat.le_of_ble_eq_true rfl) ⟨rfl, rfl, by decide, by decide, Nat.le_refl _, Nat.le_refl _⟩ dX12_leave_34 ?_
      refine g_if_eq (pc := 37) (tgt := 50) X dX12_leave_37 (by decide) (fun hc => ?_) (fun hc => ?_)
      · have hf := itp hc hf
        refine g_ldc2 (pc := 50) X dX12_leave_50 kl_X12_81 ?_
        obtain ⟨rfl, rfl⟩ := som2 hf
        exact hret _ _ dX12_leave_53
      · have hf := itn hc hf
        refine g_iload_n (pc := 40) X dX12_leave_40 rfl 3 rfl ?_
        refine g_i2l (pc := 41) X dX12_leave_41 ?_
        refine g_lconst (v := (0 : Int64)) (pc := 42) X dX12_leave_42 (by decide) ?_
        refine g_lconst (v := (1 : Int64)) (pc := 43) X dX12_leave_43 (by decide) ?_
        obtain ⟨r9, hq8, hf⟩ := bnd_some hf
        refine g_callSI (pc := 44) (As := [.long v3.toInt64, .long (0 : Int64), .long (1 : Int64)]) (rest := []) X mi_X12_in sm_X12_in ml_X12_71 (cX12_in_ct z ad v3.toInt64 (0 : Int64) (1 : Int64) m2 r9 hq8) rfl rfl (Nat.le_of_ble_eq_true rfl) ⟨rfl, rfl, by decide, by decide, Nat.le_refl _, Nat.le_refl _⟩ dX12_leave_44 ?_
        refine g_if_ne (pc := 47) (tgt := 54) X dX12_leave_47 (by decide) (fun hc => ?_) (fun hc => ?_)
        · have hf := itn hc hf
          refine g_aload_n (pc := 54) X dX12_leave_54 rfl 0 rfl ?_
          refine g_iload_n (pc := 55) X dX12_leave_55 rfl 1 rfl ?_
          refine g_iload_n (pc := 56) X dX12_leave_56 rfl 2 rfl ?_
          obtain ⟨r11, m12, hq10, hf⟩ := bnd2_some hf
          refine g_callVI (pc := 57) (As := [.int v1, .int v2]) (rest := []) X mi_X12_leaving im_X12_leaving se_X12_leaving (KMlt hk1 (by decide)) hk1 clX12 ml_X12_354 (cX12_leaving_ct z ad v0 v1 v2 m2 m12 r11 hq10) rfl rfl (Nat.le_of_ble_eq_true rfl) ⟨rfl, rfl, by decide, by decide, Nat.le_refl _, Nat.le_refl _⟩ dX12_leave_57 ?_
          refine g_istore (lv2 := [(0, .ref (ad v0)), (1, .int v1), (2, .int v2), (3, .int v3), (4, .int r11)]) (pc := 60) X dX12_leave_60 (by decide) [1, 2, 3, 4, 0] rfl ?_
          refine g_iload_n (pc := 62) X dX12_leave_62 rfl 3 rfl ?_
          refine g_if_ne (pc := 63) (tgt := 72) X dX12_leave_63 (by decide) (fun hc => ?_) (fun hc => ?_)
          · have hf := itn hc hf
            refine g_aload_n (pc := 72) X dX12_leave_72 rfl 0 rfl ?_
            refine g_getI (pc := 73) X fl_X12_351 (KMlt hk1 (by decide)) hk1 dX12_leave_73 ?_
            refine g_i2l (pc := 76) X dX12_leave_76 ?_
            obtain ⟨rfl, rfl⟩ := som2 hf
            exact hret _ _ dX12_leave_77
          · have hf := itp hc hf
            refine g_iload (pc := 66) X dX12_leave_66 4 rfl ?_
            refine g_i2l (pc := 68) X dX12_leave_68 ?_
            refine g_goto (pc := 69) (tgt := 77) X dX12_leave_69 (by decide) ?_
            obtain ⟨rfl, rfl⟩ := som2 hf
            exact hret _ _ dX12_leave_77
        · have hf := itp hc hf
          refine g_ldc2 (pc := 50) X dX12_leave_50 kl_X12_81 ?_
          obtain ⟨rfl, rfl⟩ := som2 hf
          exact hret _ _ dX12_leave_53
  · have hf := itp hc hf
    refine g_ldc2 (pc := 12) X dX12_leave_12 kl_X12_259 ?_
    obtain ⟨rfl, rfl⟩ := som2 hf
    exact hret _ _ dX12_leave_15

noncomputable def fX12_leastWater_76 (v0 : Nat) (v1 : Int32) (v3 : Int32) (s0 : Int32) (m : Mem) : Option ((Int32 × Int32 × Mem) ⊕ (Int32 × Mem)) := lt1 (v3 + (-1)) (fun v3_1 => some (.inl (s0, v3_1, m)))
noncomputable def fX12_leastWater_39b (v0 : Nat) (v1 : Int32) (v2 : Int32) (v3 : Int32) (m : Mem) : Option ((Int32 × Int32 × Mem) ⊕ (Int32 × Mem)) := if v3 ≤ 0 then (some (.inr (v2, m))) else (gp (KM v0 = 12) (bnd (m.2.2 v0 5) (fun q4 => gp (KM q4 = 14) (gp (inb (3 : Int32) (NM q4) = true) (if (m.1 q4 (3 : Int32).toNatClampNeg) ≤ 0 then (some (.inr (v2, m))) else (bnd2 (fX12_leaving v0 v3 v1 m) (fun r9 m10 => bnd (m10.2.2 v0 5) (fun q11 => gp (KM q11 = 14) (gp (inb (3 : Int32) (NM q11) = true) (if r9 = (((1 : Int32) <<< ((m10.1 q11 (3 : Int32).toNatClampNeg) &&& 31)) - (1 : Int32)) then (fX12_leastWater_76 v0 v1 v3 v3 m10) else (fX12_leastWater_76 v0 v1 v3 v2 m10)))))))))))
noncomputable def fX12_leastWater_39 (v0 : Nat) (v1 : Int32) (v2 : Int32) (v3 : Int32) (m : Mem) : Option (Int64 × Mem) := bnd (iter (fun s => fX12_leastWater_39b v0 v1 s.1 s.2.1 s.2.2) FU (v2, v3, m)) (fun e => some (e.1.toInt64, e.2))
noncomputable def fX12_leastWater (v0 : Nat) (v1 : Int32) (m : Mem) : Option (Int64 × Mem) := gp (KM v0 = 12) (lt1 (uI m v0 0 (0 : Int32)) (fun m16 => if (m16.1 v0 7) = 0 then (some ((-9000000000000000002 : Int64), m16)) else (bnd (fX12_in v1.toInt64 (0 : Int64) (50 : Int64)) (fun r19 => if r19 = 0 then (some ((-9000000000000000001 : Int64), m16)) else (lt1 ((-1000000 : Int32)) (fun v2_20 => lt1 ((200 : Int32)) (fun v3_22 => fX12_leastWater_39 v0 v1 v2_20 v3_22 m16)))))))
set_option maxHeartbeats 4000000 in
set_option maxRecDepth 100000 in
theorem cX12_leastWater_ct (z : Zx) (ad : Nat → Nat) (v0 : Nat) (v1 : Int32) (m m2 : Mem) (r : Int64) (hf : fX12_leastWater v0 v1 m = some (r, m2)) : CtL z wM yX12_leastWater cX12_leastWater 4 (some .long) (Rm 3) ad 17 [.ref (ad v0), .int v1] m m2 r := by
  refine ct_ofL mi_X12_leastWater rfl (Nat.le_of_ble_eq_true rfl) (fun x X hret => ?_)
  refine g_lv [(0, .ref (ad v0)), (1, .int v1)] [0, 1] rfl ?_
  have hL39 : ∀ (v0 : Nat) (v1 : Int32) (v2 : Int32) (v3 : Int32) (m : Mem), fX12_leastWater_39 v0 v1 v2 v3 m = some (r, m2) → G z wM x 4 0 0 ad 17 m 39 [(0, .ref (ad v0)), (1, .int v1), (2, .int v2), (3, .int v3)] [] := by
    intro v0 v1 v2 v3 m hf
    unfold fX12_leastWater_39 at hf
    obtain ⟨e39, hit39, hrest39⟩ := bnd_some hf
    refine iter_ok (Hd := fun (s : (Int32 × Int32 × Mem)) => G z wM x 4 0 0 ad 17 s.2.2 39 [(0, .ref (ad v0)), (1, .int v1), (2, .int s.1), (3, .int s.2.1)] []) ?_ FU (v2, v3, m) hit39
    intro s ob39 hf hs39 he39
    obtain ⟨v2, v3, m⟩ := s
    have hf : fX12_leastWater_39b v0 v1 v2 v3 m = some ob39 := hf
    have hL76 : ∀ (v3 : Int32) (s0 : Int32) (m : Mem), fX12_leastWater_76 v0 v1 v3 s0 m = some ob39 → G z wM x 4 0 0 ad 17 m 76 [(0, .ref (ad v0)), (1, .int v1), (3, .int v3)] [.int s0] := by
      intro v3 s0 m hf
      unfold fX12_leastWater_76 at hf
      refine g_istore_n (lv2 := [(0, .ref (ad v0)), (1, .int v1), (2, .int s0), (3, .int v3)]) (pc := 76) X dX12_leastWater_76 rfl (by decide) [1, 2, 0, 3] rfl ?_
      obtain ⟨v3_1, e2, hf⟩ := lt1_some hf
      refine g_iinc (v2 := v3_1) (lv2 := [(0, .ref (ad v0)), (1, .int v1), (2, .int s0), (3, .int v3_1)]) (pc := 77) X dX12_leastWater_77 3 rfl (by rw [e2]; rfl) (by decide) [1, 2, 3, 0] rfl ?_
      refine g_goto (pc := 80) (tgt := 39) X dX12_leastWater_80 (by decide) ?_
      exact hs39 (s0, v3_1, m) (Option.some.inj hf).symm
    unfold fX12_leastWater_39b at hf
    refine g_iload_n (pc := 39) X dX12_leastWater_39 rfl 3 rfl ?_
    refine g_if_le (pc := 40) (tgt := 83) X dX12_leastWater_40 (by decide) (fun hc => ?_) (fun hc => ?_)
    · have hf := itp hc hf
      have he39 := he39 _ (Option.some.inj hf).symm
      subst he39
      have hf : some (v2.toInt64, m) = some (r, m2) := hrest39
      refine g_iload_n (pc := 83) X dX12_leastWater_83 rfl 2 rfl ?_
      refine g_i2l (pc := 84) X dX12_leastWater_84 ?_
      obtain ⟨rfl, rfl⟩ := som2 hf
      exact hret _ _ dX12_leastWater_85
    · have hf := itn hc hf
      refine g_aload_n (pc := 43) X dX12_leastWater_43 rfl 0 rfl ?_
      obtain ⟨hk3, hf⟩ := gp_some hf
      obtain ⟨q4, hr5, hf⟩ := bnd_some hf
      refine g_getR (pc := 44) X fl_X12_19 (KMlt hk3 (by decide)) hk3 hr5 dX12_leastWater_44 ?_
      refine g_iconst (v := (3 : Int32)) (pc := 47) X dX12_leastWater_47 (by decide) ?_
      obtain ⟨hk6, hf⟩ := gp_some hf
      obtain ⟨hi7, hf⟩ := gp_some hf
      refine g_iald (pc := 48) X (KMlt hk6 (by decide)) hk6 hi7 dX12_leastWater_48 ?_
      refine g_if_le (pc := 49) (tgt := 83) X dX12_leastWater_49 (by decide) (fun hc => ?_) (fun hc => ?_)
      · have hf := itp hc hf
        have he39 := he39 _ (Option.some.inj hf).symm
        subst he39
        have hf : some (v2.toInt64, m) = some (r, m2) := hrest39
        refine g_iload_n (pc := 83) X dX12_leastWater_83 rfl 2 rfl ?_
        refine g_i2l (pc := 84) X dX12_leastWater_84 ?_
        obtain ⟨rfl, rfl⟩ := som2 hf
        exact hret _ _ dX12_leastWater_85
      · have hf := itn hc hf
        refine g_aload_n (pc := 52) X dX12_leastWater_52 rfl 0 rfl ?_
        refine g_iload_n (pc := 53) X dX12_leastWater_53 rfl 3 rfl ?_
        refine g_iload_n (pc := 54) X dX12_leastWater_54 rfl 1 rfl ?_
        obtain ⟨r9, m10, hq8, hf⟩ := bnd2_some hf
        refine g_callVI (pc := 55) (As := [.int v3, .int v1]) (rest := []) X mi_X12_leaving im_X12_leaving se_X12_leaving (KMlt hk3 (by decide)) hk3 clX12 ml_X12_354 (cX12_leaving_ct z ad v0 v3 v1 m m10 r9 hq8) rfl rfl (Nat.le_of_ble_eq_true rfl) ⟨rfl, rfl, by decide, by decide, Nat.le_refl _, Nat.le_refl _⟩ dX12_leastWater_55 ?_
        refine g_iconst (v := (1 : Int32)) (pc := 58) X dX12_leastWater_58 (by decide) ?_
        refine g_aload_n (pc := 59) X dX12_leastWater_59 rfl 0 rfl ?_
        obtain ⟨q11, hr12, hf⟩ := bnd_some hf
        refine g_getR (pc := 60) X fl_X12_19 (KMlt hk3 (by decide)) hk3 hr12 dX12_leastWater_60 ?_
        refine g_iconst (v := (3 : Int32)) (pc := 63) X dX12_leastWater_63 (by decide) ?_
        obtain ⟨hk13, hf⟩ := gp_some hf
        obtain ⟨hi14, hf⟩ := gp_some hf
        refine g_iald (pc := 64) X (KMlt hk13 (by decide)) hk13 hi14 dX12_leastWater_64 ?_
        refine g_ishl (pc := 65) X dX12_leastWater_65 ?_
        refine g_iconst (v := (1 : Int32)) (pc := 66) X dX12_leastWater_66 (by decide) ?_
        refine g_isub (pc := 67) X dX12_leastWater_67 ?_
        refine g_icmp_ne (pc := 68) (tgt := 75) X dX12_leastWater_68 (by decide) (fun hc => ?_) (fun hc => ?_)
        · have hf := itn hc hf
          refine g_iload_n (pc := 75) X dX12_leastWater_75 rfl 2 rfl ?_
          refine g_lv [(0, .ref (ad v0)), (1, .int v1), (3, .int v3)] [0, 1, 3] rfl ?_
          exact hL76 _ _ _ hf
        · have hf := itp hc hf
          refine g_iload_n (pc := 71) X dX12_leastWater_71 rfl 3 rfl ?_
          refine g_goto (pc := 72) (tgt := 76) X dX12_leastWater_72 (by decide) ?_
          refine g_lv [(0, .ref (ad v0)), (1, .int v1), (3, .int v3)] [0, 1, 3] rfl ?_
          exact hL76 _ _ _ hf
  unfold fX12_leastWater at hf
  refine g_aload_n (pc := 0) X dX12_leastWater_0 rfl 0 rfl ?_
  refine g_iconst (v := (0 : Int32)) (pc := 1) X dX12_leastWater_1 (by decide) ?_
  obtain ⟨hk15, hf⟩ := gp_some hf
  refine g_putI (pc := 2) X fl_X12_60 (KMlt hk15 (by decide)) hk15 rfl rfl dX12_leastWater_2 ?_
  obtain ⟨m16, e17, hf⟩ := lt1_some hf
  refine g_mem e17 ?_
  refine g_aload_n (pc := 5) X dX12_leastWater_5 rfl 0 rfl ?_
  refine g_getI (pc := 6) X fl_X12_238 (KMlt hk15 (by decide)) hk15 dX12_leastWater_6 ?_
  refine g_if_ne (pc := 9) (tgt := 16) X dX12_leastWater_9 (by decide) (fun hc => ?_) (fun hc => ?_)
  · have hf := itn hc hf
    refine g_iload_n (pc := 16) X dX12_leastWater_16 rfl 1 rfl ?_
    refine g_i2l (pc := 17) X dX12_leastWater_17 ?_
    refine g_lconst (v := (0 : Int64)) (pc := 18) X dX12_leastWater_18 (by decide) ?_
    refine g_ldc2 (pc := 19) X dX12_leastWater_19 kl_X12_339 ?_
    obtain ⟨r19, hq18, hf⟩ := bnd_some hf
    refine g_callSI (pc := 22) (As := [.long v1.toInt64, .long (0 : Int64), .long (50 : Int64)]) (rest := []) X mi_X12_in sm_X12_in ml_X12_71 (cX12_in_ct z ad v1.toInt64 (0 : Int64) (50 : Int64) m16 r19 hq18) rfl rfl (Nat.le_of_ble_eq_true rfl) ⟨rfl, rfl, by decide, by decide, Nat.le_refl _, Nat.le_refl _⟩ dX12_leastWater_22 ?_
    refine g_if_ne (pc := 25) (tgt := 32) X dX12_leastWater_25 (by decide) (fun hc => ?_) (fun hc => ?_)
    · have hf := itn hc hf
      refine g_ldc (pc := 32) X dX12_leastWater_32 k_X12_99 ?_
      obtain ⟨v2_20, e21, hf⟩ := lt1_some hf
      refine g_topi e21 ?_
      refine g_istore_n (lv2 := [(0, .ref (ad v0)), (1, .int v1), (2, .int v2_20)]) (pc := 34) X dX12_leastWater_34 rfl (by decide) [1, 2, 0] rfl ?_
      refine g_sipush (v := (200 : Int32)) (pc := 35) X dX12_leastWater_35 (by decide) ?_
      obtain ⟨v3_22, e23, hf⟩ := lt1_some hf
      refine g_topi e23 ?_
      refine g_istore_n (lv2 := [(0, .ref (ad v0)), (1, .int v1), (2, .int v2_20), (3, .int v3_22)]) (pc := 38) X dX12_leastWater_38 rfl (by decide) [1, 2, 3, 0] rfl ?_
      exact hL39 _ _ _ _ _ hf
    · have hf := itp hc hf
      refine g_ldc2 (pc := 28) X dX12_leastWater_28 kl_X12_81 ?_
      obtain ⟨rfl, rfl⟩ := som2 hf
      exact hret _ _ dX12_leastWater_31
  · have hf := itp hc hf
    refine g_ldc2 (pc := 12) X dX12_leastWater_12 kl_X12_259 ?_
    obtain ⟨rfl, rfl⟩ := som2 hf
    exact hret _ _ dX12_leastWater_15

noncomputable def fX12_isSign (v0 : Nat) (v1 : Int32) (m : Mem) : Option Int32 := gp (KM v0 = 12) (bnd (m.2.2 v0 5) (fun q2 => gp (KM q2 = 14) (gp (inb (4 : Int32) (NM q2) = true) (bnd (fX12_in v1.toInt64 (0 : Int64) (((m.1 q2 (4 : Int32).toNatClampNeg) - (1 : Int32)).toInt64)) (fun r7 => gp (zb r7 = true) (some r7))))))
set_option maxHeartbeats 4000000 in
set_option maxRecDepth 100000 in
theorem cX12_isSign_ct (z : Zx) (ad : Nat → Nat) (v0 : Nat) (v1 : Int32) (m : Mem) (r : Int32) (hf : fX12_isSign v0 v1 m = some r) : CtI z wM yX12_isSign cX12_isSign 2 (some .boolean) (Rm 3) ad 17 [.ref (ad v0), .int v1] m m r := by
  refine ct_ofI mi_X12_isSign rfl (Nat.le_of_ble_eq_true rfl) (fun x X hret => ?_)
  refine g_lv [(0, .ref (ad v0)), (1, .int v1)] [0, 1] rfl ?_
  unfold fX12_isSign at hf
  refine g_iload_n (pc := 0) X dX12_isSign_0 rfl 1 rfl ?_
  refine g_i2l (pc := 1) X dX12_isSign_1 ?_
  refine g_lconst (v := (0 : Int64)) (pc := 2) X dX12_isSign_2 (by decide) ?_
  refine g_aload_n (pc := 3) X dX12_isSign_3 rfl 0 rfl ?_
  obtain ⟨hk1, hf⟩ := gp_some hf
  obtain ⟨q2, hr3, hf⟩ := bnd_some hf
  refine g_getR (pc := 4) X fl_X12_19 (KMlt hk1 (by decide)) hk1 hr3 dX12_isSign_4 ?_
  refine g_iconst (v := (4 : Int32)) (pc := 7) X dX12_isSign_7 (by decide) ?_
  obtain ⟨hk4, hf⟩ := gp_some hf
  obtain ⟨hi5, hf⟩ := gp_some hf
  refine g_iald (pc := 8) X (KMlt hk4 (by decide)) hk4 hi5 dX12_isSign_8 ?_
  refine g_iconst (v := (1 : Int32)) (pc := 9) X dX12_isSign_9 (by decide) ?_
  refine g_isub (pc := 10) X dX12_isSign_10 ?_
  refine g_i2l (pc := 11) X dX12_isSign_11 ?_
  obtain ⟨r7, hq6, hf⟩ := bnd_some hf
  refine g_callSI (pc := 12) (As := [.long v1.toInt64, .long (0 : Int64), .long (((m.1 q2 (4 : Int32).toNatClampNeg) - (1 : Int32)).toInt64)]) (rest := []) X mi_X12_in sm_X12_in ml_X12_71 (cX12_in_ct z ad v1.toInt64 (0 : Int64) (((m.1 q2 (4 : Int32).toNatClampNeg) - (1 : Int32)).toInt64) m r7 hq6) rfl rfl (Nat.le_of_ble_eq_true rfl) ⟨rfl, rfl, by decide, by decide, Nat.le_refl _, Nat.le_refl _⟩ dX12_isSign_12 ?_
  obtain ⟨hzr, hf⟩ := gp_some hf
  obtain rfl := Option.some.inj hf
  exact hret _ _ (zb_nar hzr) dX12_isSign_15

noncomputable def fX12_isStory (v0 : Nat) (v1 : Int32) (m : Mem) : Option Int32 := gp (KM v0 = 12) (bnd (m.2.2 v0 5) (fun q2 => gp (KM q2 = 14) (gp (inb (5 : Int32) (NM q2) = true) (bnd (fX12_in v1.toInt64 (0 : Int64) (((m.1 q2 (5 : Int32).toNatClampNeg) - (1 : Int32)).toInt64)) (fun r7 => gp (zb r7 = true) (some r7))))))
set_option maxHeartbeats 4000000 in
set_option maxRecDepth 100000 in
theorem cX12_isStory_ct (z : Zx) (ad : Nat → Nat) (v0 : Nat) (v1 : Int32) (m : Mem) (r : Int32) (hf : fX12_isStory v0 v1 m = some r) : CtI z wM yX12_isStory cX12_isStory 2 (some .boolean) (Rm 3) ad 17 [.ref (ad v0), .int v1] m m r := by
  refine ct_ofI mi_X12_isStory rfl (Nat.le_of_ble_eq_true rfl) (fun x X hret => ?_)
  refine g_lv [(0, .ref (ad v0)), (1, .int v1)] [0, 1] rfl ?_
  unfold fX12_isStory at hf
  refine g_iload_n (pc := 0) X dX12_isStory_0 rfl 1 rfl ?_
  refine g_i2l (pc := 1) X dX12_isStory_1 ?_
  refine g_lconst (v := (0 : Int64)) (pc := 2) X dX12_isStory_2 (by decide) ?_
  refine g_aload_n (pc := 3) X dX12_isStory_3 rfl 0 rfl ?_
  obtain ⟨hk1, hf⟩ := gp_some hf
  obtain ⟨q2, hr3, hf⟩ := bnd_some hf
  refine g_getR (pc := 4) X fl_X12_19 (KMlt hk1 (by decide)) hk1 hr3 dX12_isStory_4 ?_
  refine g_iconst (v := (5 : Int32)) (pc := 7) X dX12_isStory_7 (by decide) ?_
  obtain ⟨hk4, hf⟩ := gp_some hf
  obtain ⟨hi5, hf⟩ := gp_some hf
  refine g_iald (pc := 8) X (KMlt hk4 (by decide)) hk4 hi5 dX12_isStory_8 ?_
  refine g_iconst (v := (1 : Int32)) (pc := 9) X dX12_isStory_9 (by decide) ?_
  refine g_isub (pc := 10) X dX12_isStory_10 ?_
  refine g_i2l (pc := 11) X dX12_isStory_11 ?_
  obtain ⟨r7, hq6, hf⟩ := bnd_some hf
  refine g_callSI (pc := 12) (As := [.long v1.toInt64, .long (0 : Int64), .long (((m.1 q2 (5 : Int32).toNatClampNeg) - (1 : Int32)).toInt64)]) (rest := []) X mi_X12_in sm_X12_in ml_X12_71 (cX12_in_ct z ad v1.toInt64 (0 : Int64) (((m.1 q2 (5 : Int32).toNatClampNeg) - (1 : Int32)).toInt64) m r7 hq6) rfl rfl (Nat.le_of_ble_eq_true rfl) ⟨rfl, rfl, by decide, by decide, Nat.le_refl _, Nat.le_refl _⟩ dX12_isStory_12 ?_
  obtain ⟨hzr, hf⟩ := gp_some hf
  obtain rfl := Option.some.inj hf
  exact hret _ _ (zb_nar hzr) dX12_isStory_15

noncomputable def fX12_areSigns (v0 : Nat) (v1 : Int32) (m : Mem) : Option Int32 := gp (KM v0 = 12) (bnd (m.2.2 v0 5) (fun q2 => gp (KM q2 = 14) (gp (inb (4 : Int32) (NM q2) = true) (bnd (fX12_in v1.toInt64 (0 : Int64) ((((1 : Int32) <<< ((m.1 q2 (4 : Int32).toNatClampNeg) &&& 31)) - (1 : Int32)).toInt64)) (fun r7 => gp (zb r7 = true) (some r7))))))
set_option maxHeartbeats 4000000 in
set_option maxRecDepth 100000 in
theorem cX12_areSigns_ct (z : Zx) (ad : Nat → Nat) (v0 : Nat) (v1 : Int32) (m : Mem) (r : Int32) (hf : fX12_areSigns v0 v1 m = some r) : CtI z wM yX12_areSigns cX12_areSigns 2 (some .boolean) (Rm 3) ad 17 [.ref (ad v0), .int v1] m m r := by
  refine ct_ofI mi_X12_areSigns rfl (Nat.le_of_ble_eq_true rfl) (fun x X hret => ?_)
  refine g_lv [(0, .ref (ad v0)), (1, .int v1)] [0, 1] rfl ?_
  unfold fX12_areSigns at hf
  refine g_iload_n (pc := 0) X dX12_areSigns_0 rfl 1 rfl ?_
  refine g_i2l (pc := 1) X dX12_areSigns_1 ?_
  refine g_lconst (v := (0 : Int64)) (pc := 2) X dX12_areSigns_2 (by decide) ?_
  refine g_iconst (v := (1 : Int32)) (pc := 3) X dX12_areSigns_3 (by decide) ?_
  refine g_aload_n (pc := 4) X dX12_areSigns_4 rfl 0 rfl ?_
  obtain ⟨hk1, hf⟩ := gp_some hf
  obtain ⟨q2, hr3, hf⟩ := bnd_some hf
  refine g_getR (pc := 5) X fl_X12_19 (KMlt hk1 (by decide)) hk1 hr3 dX12_areSigns_5 ?_
  refine g_iconst (v := (4 : Int32)) (pc := 8) X dX12_areSigns_8 (by decide) ?_
  obtain ⟨hk4, hf⟩ := gp_some hf
  obtain ⟨hi5, hf⟩ := gp_some hf
  refine g_iald (pc := 9) X (KMlt hk4 (by decide)) hk4 hi5 dX12_areSigns_9 ?_
  refine g_ishl (pc := 10) X dX12_areSigns_10 ?_
  refine g_iconst (v := (1 : Int32)) (pc := 11) X dX12_areSigns_11 (by decide) ?_
  refine g_isub (pc := 12) X dX12_areSigns_12 ?_
  refine g_i2l (pc := 13) X dX12_areSigns_13 ?_
  obtain ⟨r7, hq6, hf⟩ := bnd_some hf
  refine g_callSI (pc := 14) (As := [.long v1.toInt64, .long (0 : Int64), .long ((((1 : Int32) <<< ((m.1 q2 (4 : Int32).toNatClampNeg) &&& 31)) - (1 : Int32)).toInt64)]) (rest := []) X mi_X12_in sm_X12_in ml_X12_71 (cX12_in_ct z ad v1.toInt64 (0 : Int64) ((((1 : Int32) <<< ((m.1 q2 (4 : Int32).toNatClampNeg) &&& 31)) - (1 : Int32)).toInt64) m r7 hq6) rfl rfl (Nat.le_of_ble_eq_true rfl) ⟨rfl, rfl, by decide, by decide, Nat.le_refl _, Nat.le_refl _⟩ dX12_areSigns_14 ?_
  obtain ⟨hzr, hf⟩ := gp_some hf
  obtain rfl := Option.some.inj hf
  exact hret _ _ (zb_nar hzr) dX12_areSigns_17

noncomputable def fX12_signOf (v0 : Nat) (v1 : Int32) (v2 : Int32) (m : Mem) : Option Int32 := gp (KM v0 = 12) (bnd (m.2.2 v0 5) (fun q2 => gp (KM q2 = 14) (gp (inb (((40 : Int32) + ((2 : Int32) * v1)) + v2) (NM q2) = true) (some (m.1 q2 (((40 : Int32) + ((2 : Int32) * v1)) + v2).toNatClampNeg)))))
set_option maxHeartbeats 4000000 in
set_option maxRecDepth 100000 in
theorem cX12_signOf_ct (z : Zx) (ad : Nat → Nat) (v0 : Nat) (v1 : Int32) (v2 : Int32) (m : Mem) (r : Int32) (hf : fX12_signOf v0 v1 v2 m = some r) : CtI z wM yX12_signOf cX12_signOf 3 (some .int) (Rm 2) ad 17 [.ref (ad v0), .int v1, .int v2] m m r := by
  refine ct_ofI mi_X12_signOf rfl (Nat.le_of_ble_eq_true rfl) (fun x X hret => ?_)
  refine g_lv [(0, .ref (ad v0)), (1, .int v1), (2, .int v2)] [0, 1, 2] rfl ?_
  unfold fX12_signOf at hf
  refine g_aload_n (pc := 0) X dX12_signOf_0 rfl 0 rfl ?_
  obtain ⟨hk1, hf⟩ := gp_some hf
  obtain ⟨q2, hr3, hf⟩ := bnd_some hf
  refine g_getR (pc := 1) X fl_X12_19 (KMlt hk1 (by decide)) hk1 hr3 dX12_signOf_1 ?_
  refine g_bipush (v := (40 : Int32)) (pc := 4) X dX12_signOf_4 (by decide) ?_
  refine g_iconst (v := (2 : Int32)) (pc := 6) X dX12_signOf_6 (by decide) ?_
  refine g_iload_n (pc := 7) X dX12_signOf_7 rfl 1 rfl ?_
  refine g_imul (pc := 8) X dX12_signOf_8 ?_
  refine g_iadd (pc := 9) X dX12_signOf_9 ?_
  refine g_iload_n (pc := 10) X dX12_signOf_10 rfl 2 rfl ?_
  refine g_iadd (pc := 11) X dX12_signOf_11 ?_
  obtain ⟨hk4, hf⟩ := gp_some hf
  obtain ⟨hi5, hf⟩ := gp_some hf
  refine g_iald (pc := 12) X (KMlt hk4 (by decide)) hk4 hi5 dX12_signOf_12 ?_
  obtain rfl := Option.some.inj hf
  exact hret _ _ rfl dX12_signOf_13

