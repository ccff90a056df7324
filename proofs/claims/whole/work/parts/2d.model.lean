noncomputable def fX12_sailed_113 (v0 : Nat) (m : Mem) : Option (Int64 × Mem) := gp (KM v0 = 12) (bnd (m.2.2 v0 8) (fun q2 => gp (KM q2 = 14) (gp (inb (4 : Int32) (NM q2) = true) (some ((m.1 q2 (4 : Int32).toNatClampNeg).toInt64, m)))))
noncomputable def fX12_sailed_104 (v0 : Nat) (v1 : Int32) (v2 : Int32) (v4 : Int64) (v6 : Int32) (s0 : Nat) (s1 : Int32) (s2 : Int32) (m : Mem) : Option ((Int64 × Int32 × Mem) ⊕ (Mem)) := gp (KM s0 = 12) (bnd (fX12_oneHour s0 s1 s2 m) (fun m7 => lt1 (v6 + 1) (fun v6_9 => some (.inl (v4, v6_9, m7)))))
noncomputable def fX12_sailed_63b (v0 : Nat) (v1 : Int32) (v2 : Int32) (v4 : Int64) (v6 : Int32) (m : Mem) : Option ((Int64 × Int32 × Mem) ⊕ (Mem)) := if v1 ≤ v6 then (some (.inr (m))) else (gp (¬ (2147483647 : Int64) = 0) (lt1 ((v4 * (16807 : Int64)) - (v4 * (16807 : Int64)) / (2147483647 : Int64) * (2147483647 : Int64)) (fun v4_12 => gp (KM v0 = 12) (bnd (fX12_allOdds v0 m) (fun r15 => gp (¬ r15.toInt64 = 0) (bnd (fX12_windBy v0 (v4_12 - v4_12 / r15.toInt64 * r15.toInt64) m) (fun r19 => if v2 = (1 : Int32) then (fX12_sailed_104 v0 v1 v2 v4_12 v6 v0 r19 (1 : Int32) m) else (fX12_sailed_104 v0 v1 v2 v4_12 v6 v0 r19 (0 : Int32) m))))))))
noncomputable def fX12_sailed_63 (v0 : Nat) (v1 : Int32) (v2 : Int32) (v4 : Int64) (v6 : Int32) (m : Mem) : Option (Int64 × Mem) := bnd (iter (fun s => fX12_sailed_63b v0 v1 v2 s.1 s.2.1 s.2.2) FU (v4, v6, m)) (fun e => fX12_sailed_113 v0 e)
noncomputable def fX12_sailed (v0 : Nat) (v1 : Int32) (v2 : Int32) (v3 : Int32) (m : Mem) : Option (Int64 × Mem) := gp (KM v0 = 12) (lt1 (uI m v0 0 (0 : Int32)) (fun m21 => bnd (m21.2.2 v0 8) (fun q23 => gp (KM q23 = 14) (gp (inb (0 : Int32) (NM q23) = true) (if (m21.1 q23 (0 : Int32).toNatClampNeg) = 0 then (some ((-9000000000000000002 : Int64), m21)) else (bnd (fX12_in v1.toInt64 (1 : Int64) (100 : Int64)) (fun r28 => if r28 = 0 then (some ((-9000000000000000001 : Int64), m21)) else (bnd (fX12_in v2.toInt64 (0 : Int64) (1 : Int64)) (fun r30 => if r30 = 0 then (some ((-9000000000000000001 : Int64), m21)) else (bnd (fX12_in v3.toInt64 (1 : Int64) (999999 : Int64)) (fun r32 => if r32 = 0 then (some ((-9000000000000000001 : Int64), m21)) else (lt1 (v3.toInt64) (fun v4_33 => lt1 ((0 : Int32)) (fun v6_35 => fX12_sailed_63 v0 v1 v2 v4_33 v6_35 m21))))))))))))))
set_option maxHeartbeats 4000000 in
set_option maxRecDepth 100000 in
theorem cX12_sailed_ct (z : Zx) (ad : Nat → Nat) (v0 : Nat) (v1 : Int32) (v2 : Int32) (v3 : Int32) (m m2 : Mem) (r : Int64) (hf : fX12_sailed v0 v1 v2 v3 m = some (r, m2)) : CtL z wM yX12_sailed cX12_sailed 7 (some .long) (Rm 6) ad 17 [.ref (ad v0), .int v1, .int v2, .int v3] m m2 r := by
  refine ct_ofL mi_X12_sailed rfl (Nat.le_of_ble_eq_true rfl) (fun x X hret => ?_)
  refine g_lv [(0, .ref (ad v0)), (1, .int v1), (2, .int v2), (3, .int v3)] [0, 1, 2, 3] rfl ?_
  have hL113 : ∀ (v0 : Nat) (m : Mem), fX12_sailed_113 v0 m = some (r, m2) → G z wM x 7 0 0 ad 17 m 113 [(0, .ref (ad v0))] [] := by
    intro v0 m hf
    unfold fX12_sailed_113 at hf
    refine g_aload_n (pc := 113) X dX12_sailed_113 rfl 0 rfl ?_
    obtain ⟨hk1, hf⟩ := gp_some hf
    obtain ⟨q2, hr3, hf⟩ := bnd_some hf
    refine g_getR (pc := 114) X fl_X12_25 (KMlt hk1 (by decide)) hk1 hr3 dX12_sailed_114 ?_
    refine g_iconst (v := (4 : Int32)) (pc := 117) X dX12_sailed_117 (by decide) ?_
    obtain ⟨hk4, hf⟩ := gp_some hf
    obtain ⟨hi5, hf⟩ := gp_some hf
    refine g_iald (pc := 118) X (KMlt hk4 (by decide)) hk4 hi5 dX12_sailed_118 ?_
    refine g_i2l (pc := 119) X dX12_sailed_119 ?_
    obtain ⟨rfl, rfl⟩ := som2 hf
    exact hret _ _ dX12_sailed_120
  have hL63 : ∀ (v0 : Nat) (v1 : Int32) (v2 : Int32) (v4 : Int64) (v6 : Int32) (m : Mem), fX12_sailed_63 v0 v1 v2 v4 v6 m = some (r, m2) → G z wM x 7 0 0 ad 17 m 63 [(0, .ref (ad v0)), (1, .int v1), (2, .int v2), (4, .long v4), (6, .int v6)] [] := by
    intro v0 v1 v2 v4 v6 m hf
    unfold fX12_sailed_63 at hf
    obtain ⟨e63, hit63, hrest63⟩ := bnd_some hf
    refine iter_ok (Hd := fun (s : (Int64 × Int32 × Mem)) => G z wM x 7 0 0 ad 17 s.2.2 63 [(0, .ref (ad v0)), (1, .int v1), (2, .int v2), (4, .long s.1), (6, .int s.2.1)] []) ?_ FU (v4, v6, m) hit63
    intro s ob63 hf hs63 he63
    obtain ⟨v4, v6, m⟩ := s
    have hf : fX12_sailed_63b v0 v1 v2 v4 v6 m = some ob63 := hf
    have hL104 : ∀ (v4 : Int64) (v6 : Int32) (s0 : Nat) (s1 : Int32) (s2 : Int32) (m : Mem), fX12_sailed_104 v0 v1 v2 v4 v6 s0 s1 s2 m = some ob63 → G z wM x 7 0 0 ad 17 m 104 [(0, .ref (ad v0)), (1, .int v1), (2, .int v2), (4, .long v4), (6, .int v6)] [.int s2, .int s1, .ref (ad s0)] := by
      intro v4 v6 s0 s1 s2 m hf
      unfold fX12_sailed_104 at hf
      obtain ⟨hk8, hf⟩ := gp_some hf
      obtain ⟨m7, hq6, hf⟩ := bnd_some hf
      refine g_callVV (pc := 104) (As := [.int s1, .int s2]) (rest := []) X mi_X12_oneHour im_X12_oneHour se_X12_oneHour (KMlt hk8 (by decide)) hk8 clX12 ml_X12_288 (cX12_oneHour_ct z ad s0 s1 s2 m m7 hq6) rfl rfl (Nat.le_of_ble_eq_true rfl) ⟨rfl, rfl, by decide, by decide, Nat.le_refl _, Nat.le_refl _⟩ dX12_sailed_104 ?_
      obtain ⟨v6_9, e10, hf⟩ := lt1_some hf
      refine g_iinc (v2 := v6_9) (lv2 := [(0, .ref (ad v0)), (1, .int v1), (2, .int v2), (4, .long v4), (6, .int v6_9)]) (pc := 107) X dX12_sailed_107 4 rfl (by rw [e10]; rfl) (by decide) [1, 2, 3, 4, 0] rfl ?_
      refine g_goto (pc := 110) (tgt := 63) X dX12_sailed_110 (by decide) ?_
      exact hs63 (v4, v6_9, m7) (Option.some.inj hf).symm
    unfold fX12_sailed_63b at hf
    refine g_iload (pc := 63) X dX12_sailed_63 4 rfl ?_
    refine g_iload_n (pc := 65) X dX12_sailed_65 rfl 1 rfl ?_
    refine g_icmp_ge (pc := 66) (tgt := 113) X dX12_sailed_66 (by decide) (fun hc => ?_) (fun hc => ?_)
    · have hf := itp hc hf
      have he63 := he63 _ (Option.some.inj hf).symm
      subst he63
      have hf : fX12_sailed_113 v0 m = some (r, m2) := hrest63
      refine g_lv [(0, .ref (ad v0))] [0] rfl ?_
      exact hL113 _ _ hf
    · have hf := itn hc hf
      refine g_lload (pc := 69) X dX12_sailed_69 3 rfl ?_
      refine g_ldc2 (pc := 71) X dX12_sailed_71 kl_X12_277 ?_
      refine g_lmul (pc := 74) X dX12_sailed_74 ?_
      refine g_ldc2 (pc := 75) X dX12_sailed_75 kl_X12_279 ?_
      obtain ⟨hz11, hf⟩ := gp_some hf
      refine g_lrem (pc := 78) X dX12_sailed_78 hz11 ?_
      obtain ⟨v4_12, e13, hf⟩ := lt1_some hf
      refine g_topl e13 ?_
      refine g_lstore (lv2 := [(0, .ref (ad v0)), (1, .int v1), (2, .int v2), (4, .long v4_12), (6, .int v6)]) (pc := 79) X dX12_sailed_79 (by decide) [1, 2, 3, 0, 4] rfl ?_
      refine g_aload_n (pc := 81) X dX12_sailed_81 rfl 0 rfl ?_
      refine g_aload_n (pc := 82) X dX12_sailed_82 rfl 0 rfl ?_
      refine g_lload (pc := 83) X dX12_sailed_83 3 rfl ?_
      refine g_aload_n (pc := 85) X dX12_sailed_85 rfl 0 rfl ?_
      obtain ⟨hk16, hf⟩ := gp_some hf
      obtain ⟨r15, hq14, hf⟩ := bnd_some hf
      refine g_callVI (pc := 86) (As := []) (rest := [.long v4_12, .ref (ad v0), .ref (ad v0)]) X mi_X12_allOdds im_X12_allOdds se_X12_allOdds (KMlt hk16 (by decide)) hk16 clX12 ml_X12_281 (cX12_allOdds_ct z ad v0 m r15 hq14) rfl rfl (Nat.le_of_ble_eq_true rfl) ⟨rfl, rfl, by decide, by decide, Nat.le_refl _, Nat.le_refl _⟩ dX12_sailed_86 ?_
      refine g_i2l (pc := 89) X dX12_sailed_89 ?_
      obtain ⟨hz17, hf⟩ := gp_some hf
      refine g_lrem (pc := 90) X dX12_sailed_90 hz17 ?_
      obtain ⟨r19, hq18, hf⟩ := bnd_some hf
      refine g_callVI (pc := 91) (As := [.long (v4_12 - v4_12 / r15.toInt64 * r15.toInt64)]) (rest := [.ref (ad v0)]) X mi_X12_windBy im_X12_windBy se_X12_windBy (KMlt hk16 (by decide)) hk16 clX12 ml_X12_285 (cX12_windBy_ct z ad v0 (v4_12 - v4_12 / r15.toInt64 * r15.toInt64) m r19 hq18) rfl rfl (Nat.le_of_ble_eq_true rfl) ⟨rfl, rfl, by decide, by decide, Nat.le_refl _, Nat.le_refl _⟩ dX12_sailed_91 ?_
      refine g_iload_n (pc := 94) X dX12_sailed_94 rfl 2 rfl ?_
      refine g_iconst (v := (1 : Int32)) (pc := 95) X dX12_sailed_95 (by decide) ?_
      refine g_icmp_ne (pc := 96) (tgt := 103) X dX12_sailed_96 (by decide) (fun hc => ?_) (fun hc => ?_)
      · have hf := itn hc hf
        refine g_iconst (v := (0 : Int32)) (pc := 103) X dX12_sailed_103 (by decide) ?_
        exact hL104 _ _ _ _ _ _ hf
      · have hf := itp hc hf
        refine g_iconst (v := (1 : Int32)) (pc := 99) X dX12_sailed_99 (by decide) ?_
        refine g_goto (pc := 100) (tgt := 104) X dX12_sailed_100 (by decide) ?_
        exact hL104 _ _ _ _ _ _ hf
  unfold fX12_sailed at hf
  refine g_aload_n (pc := 0) X dX12_sailed_0 rfl 0 rfl ?_
  refine g_iconst (v := (0 : Int32)) (pc := 1) X dX12_sailed_1 (by decide) ?_
  obtain ⟨hk20, hf⟩ := gp_some hf
  refine g_putI (pc := 2) X fl_X12_60 (KMlt hk20 (by decide)) hk20 rfl rfl dX12_sailed_2 ?_
  obtain ⟨m21, e22, hf⟩ := lt1_some hf
  refine g_mem e22 ?_
  refine g_aload_n (pc := 5) X dX12_sailed_5 rfl 0 rfl ?_
  obtain ⟨q23, hr24, hf⟩ := bnd_some hf
  refine g_getR (pc := 6) X fl_X12_25 (KMlt hk20 (by decide)) hk20 hr24 dX12_sailed_6 ?_
  refine g_iconst (v := (0 : Int32)) (pc := 9) X dX12_sailed_9 (by decide) ?_
  obtain ⟨hk25, hf⟩ := gp_some hf
  obtain ⟨hi26, hf⟩ := gp_some hf
  refine g_iald (pc := 10) X (KMlt hk25 (by decide)) hk25 hi26 dX12_sailed_10 ?_
  refine g_if_ne (pc := 11) (tgt := 18) X dX12_sailed_11 (by decide) (fun hc => ?_) (fun hc => ?_)
  · have hf := itn hc hf
    refine g_iload_n (pc := 18) X dX12_sailed_18 rfl 1 rfl ?_
    refine g_i2l (pc := 19) X dX12_sailed_19 ?_
    refine g_lconst (v := (1 : Int64)) (pc := 20) X dX12_sailed_20 (by decide) ?_
    refine g_ldc2 (pc := 21) X dX12_sailed_21 kl_X12_273 ?_
    obtain ⟨r28, hq27, hf⟩ := bnd_some hf
    refine g_callSI (pc := 24) (As := [.long v1.toInt64, .long (1 : Int64), .long (100 : Int64)]) (rest := []) X mi_X12_in sm_X12_in ml_X12_71 (cX12_in_ct z ad v1.toInt64 (1 : Int64) (100 : Int64) m21 r28 hq27) rfl rfl (Nat.le_of_ble_eq_true rfl) ⟨rfl, rfl, by decide, by decide, Nat.le_refl _, Nat.le_refl _⟩ dX12_sailed_24 ?_
    refine g_if_eq (pc := 27) (tgt := 52) X dX12_sailed_27 (by decide) (fun hc => ?_) (fun hc => ?_)
    · have hf := itp hc hf
      refine g_ldc2 (pc := 52) X dX12_sailed_52 kl_X12_81 ?_
      obtain ⟨rfl, rfl⟩ := som2 hf
      exact hret _ _ dX12_sailed_55
    · have hf := itn hc hf
      refine g_iload_n (pc := 30) X dX12_sailed_30 rfl 2 rfl ?_
      refine g_i2l (pc := 31) X dX12_sailed_31 ?_
      refine g_lconst (v := (0 : Int64)) (pc := 32) X dX12_sailed_32 (by decide) ?_
      refine g_lconst (v := (1 : Int64)) (pc := 33) X dX12_sailed_33 (by decide) ?_
      obtain ⟨r30, hq29, hf⟩ := bnd_some hf
      refine g_callSI (pc := 34) (As := [.long v2.toInt64, .long (0 : Int64), .long (1 : Int64)]) (rest := []) X mi_X12_in sm_X12_in ml_X12_71 (cX12_in_ct z ad v2.toInt64 (0 : Int64) (1 : Int64) m21 r30 hq29) rfl rfl (Nat.le_of_ble_eq_true rfl) ⟨rfl, rfl, by decide, by decide, Nat.le_refl _, Nat.le_refl _⟩ dX12_sailed_34 ?_
      refine g_if_eq (pc := 37) (tgt := 52) X dX12_sailed_37 (by decide) (fun hc => ?_) (fun hc => ?_)
      · have hf := itp hc hf
        refine g_ldc2 (pc := 52) X dX12_sailed_52 kl_X12_81 ?_
        obtain ⟨rfl, rfl⟩ := som2 hf
        exact hret _ _ dX12_sailed_55
      · have hf := itn hc hf
        refine g_iload_n (pc := 40) X dX12_sailed_40 rfl 3 rfl ?_
        refine g_i2l (pc := 41) X dX12_sailed_41 ?_
        refine g_lconst (v := (1 : Int64)) (pc := 42) X dX12_sailed_42 (by decide) ?_
        refine g_ldc2 (pc := 43) X dX12_sailed_43 kl_X12_275 ?_
        obtain ⟨r32, hq31, hf⟩ := bnd_some hf
        refine g_callSI (pc := 46) (As := [.long v3.toInt64, .long (1 : Int64), .long (999999 : Int64)]) (rest := []) X mi_X12_in sm_X12_in ml_X12_71 (cX12_in_ct z ad v3.toInt64 (1 : Int64) (999999 : Int64) m21 r32 hq31) rfl rfl (Nat.le_of_ble_eq_true rfl) ⟨rfl, rfl, by decide, by decide, Nat.le_refl _, Nat.le_refl _⟩ dX12_sailed_46 ?_
        refine g_if_ne (pc := 49) (tgt := 56) X dX12_sailed_49 (by decide) (fun hc => ?_) (fun hc => ?_)
        · have hf := itn hc hf
          refine g_iload_n (pc := 56) X dX12_sailed_56 rfl 3 rfl ?_
          refine g_i2l (pc := 57) X dX12_sailed_57 ?_
          obtain ⟨v4_33, e34, hf⟩ := lt1_some hf
          refine g_topl e34 ?_
          refine g_lstore (lv2 := [(0, .ref (ad v0)), (1, .int v1), (2, .int v2), (3, .int v3), (4, .long v4_33)]) (pc := 58) X dX12_sailed_58 (by decide) [1, 2, 3, 4, 0] rfl ?_
          refine g_iconst (v := (0 : Int32)) (pc := 60) X dX12_sailed_60 (by decide) ?_
          obtain ⟨v6_35, e36, hf⟩ := lt1_some hf
          refine g_topi e36 ?_
          refine g_istore (lv2 := [(0, .ref (ad v0)), (1, .int v1), (2, .int v2), (3, .int v3), (4, .long v4_33), (6, .int v6_35)]) (pc := 61) X dX12_sailed_61 (by decide) [1, 2, 3, 4, 5, 0] rfl ?_
          refine g_lv [(0, .ref (ad v0)), (1, .int v1), (2, .int v2), (4, .long v4_33), (6, .int v6_35)] [0, 1, 2, 4, 5] rfl ?_
          exact hL63 _ _ _ _ _ _ hf
        · have hf := itp hc hf
          refine g_ldc2 (pc := 52) X dX12_sailed_52 kl_X12_81 ?_
          obtain ⟨rfl, rfl⟩ := som2 hf
          exact hret _ _ dX12_sailed_55
  · have hf := itp hc hf
    refine g_ldc2 (pc := 14) X dX12_sailed_14 kl_X12_259 ?_
    obtain ⟨rfl, rfl⟩ := som2 hf
    exact hret _ _ dX12_sailed_17

noncomputable def fX12_blown_171 (v0 : Nat) (m : Mem) : Option (Int64 × Mem) := gp (KM v0 = 12) (bnd (m.2.2 v0 8) (fun q2 => gp (KM q2 = 14) (gp (inb (4 : Int32) (NM q2) = true) (some ((m.1 q2 (4 : Int32).toNatClampNeg).toInt64, m)))))
noncomputable def fX12_blown_140b (v0 : Nat) (v1 : Int32) (v2 : Int32) (v3 : Int32) (v4 : Int32) (m : Mem) : Option ((Int32 × Mem) ⊕ (Mem)) := if v3 ≤ v4 then (some (.inr (m))) else (gp (KM v0 = 12) (bnd (m.2.2 v0 4) (fun q7 => gp (KM q7 = 14) (gp (inb ((((40 : Int32) * v1) + v2) + v4) (NM q7) = true) (bnd (fX12_oneHour v0 (m.1 q7 ((((40 : Int32) * v1) + v2) + v4).toNatClampNeg) (0 : Int32) m) (fun m12 => lt1 (v4 + 1) (fun v4_13 => some (.inl (v4_13, m12)))))))))
noncomputable def fX12_blown_140 (v0 : Nat) (v1 : Int32) (v2 : Int32) (v3 : Int32) (v4 : Int32) (m : Mem) : Option (Int64 × Mem) := bnd (iter (fun s => fX12_blown_140b v0 v1 v2 v3 s.1 s.2) FU (v4, m)) (fun e => fX12_blown_171 v0 e)
noncomputable def fX12_blown_132 (v0 : Nat) (v1 : Int32) (v2 : Int32) (v3 : Int32) (m : Mem) : Option (Int64 × Mem) := gp (KM v0 = 12) (lt1 (uI m v0 1 (0 : Int32)) (fun m16 => lt1 ((0 : Int32)) (fun v4_18 => fX12_blown_140 v0 v1 v2 v3 v4_18 m16)))
noncomputable def fX12_blown_85b (v0 : Nat) (v1 : Int32) (v2 : Int32) (v3 : Int32) (v4 : Int32) (m : Mem) : Option ((Int32) ⊕ (Unit ⊕ Unit)) := if v3 ≤ v4 then (some (.inr (.inr ()))) else (gp (KM v0 = 12) (bnd (m.2.2 v0 4) (fun q21 => gp (KM q21 = 14) (gp (inb ((((40 : Int32) * v1) + v2) + v4) (NM q21) = true) (bnd (m.2.2 v0 5) (fun q25 => gp (KM q25 = 14) (gp (inb (0 : Int32) (NM q25) = true) (bnd (fX12_in ((m.1 q21 ((((40 : Int32) * v1) + v2) + v4).toNatClampNeg).toInt64) (0 : Int64) (((m.1 q25 (0 : Int32).toNatClampNeg) - (1 : Int32)).toInt64)) (fun r30 => if r30 = 0 then (some (.inr (.inl ()))) else (lt1 (v4 + 1) (fun v4_31 => some (.inl (v4_31)))))))))))))
noncomputable def fX12_blown_85 (v0 : Nat) (v1 : Int32) (v2 : Int32) (v3 : Int32) (v4 : Int32) (m : Mem) : Option (Int64 × Mem) := bnd (iter (fun s => fX12_blown_85b v0 v1 v2 v3 s m) FU (v4)) (Sum.elim (fun e => some ((-9000000000000000001 : Int64), m)) (fun e => fX12_blown_132 v0 v1 v2 v3 m))
noncomputable def fX12_blown_76 (v0 : Nat) (m : Mem) : Option (Int64 × Mem) := gp (KM v0 = 12) (bnd2 (fX12_finding v0 (2 : Int32) m) (fun r34 m35 => some (r34, m35)))
noncomputable def fX12_blown (v0 : Nat) (v1 : Int32) (v2 : Int32) (v3 : Int32) (m : Mem) : Option (Int64 × Mem) := gp (KM v0 = 12) (lt1 (uI m v0 0 (0 : Int32)) (fun m38 => bnd (m38.2.2 v0 8) (fun q40 => gp (KM q40 = 14) (gp (inb (0 : Int32) (NM q40) = true) (if (m38.1 q40 (0 : Int32).toNatClampNeg) = 0 then (some ((-9000000000000000002 : Int64), m38)) else (bnd (fX12_isRow v1) (fun r45 => if r45 = 0 then (some ((-9000000000000000001 : Int64), m38)) else (bnd (fX12_in v3.toInt64 (1 : Int64) (40 : Int64)) (fun r47 => if r47 = 0 then (some ((-9000000000000000001 : Int64), m38)) else (bnd (m38.2.2 v0 2) (fun q48 => gp (KM q48 = 14) (gp (inb v1 (NM q48) = true) (if 0 ≤ (m38.1 q48 v1.toNatClampNeg) then (if v2 < 0 then (fX12_blown_76 v0 m38) else (bnd (m38.2.2 v0 3) (fun q52 => gp (KM q52 = 14) (gp (inb v1 (NM q52) = true) (if (v2.toInt64 + v3.toInt64) ≤ ((m38.1 q52 v1.toNatClampNeg).toInt64) then (lt1 ((0 : Int32)) (fun v4_56 => fX12_blown_85 v0 v1 v2 v3 v4_56 m38)) else (fX12_blown_76 v0 m38)))))) else (bnd2 (fX12_finding v0 (1 : Int32) m38) (fun r59 m60 => some (r59, m60))))))))))))))))
set_option maxHeartbeats 4000000 in
set_option maxRecDepth 100000 in
theorem cX12_blown_ct (z : Zx) (ad : Nat → Nat) (v0 : Nat) (v1 : Int32) (v2 : Int32) (v3 : Int32) (m m2 : Mem) (r : Int64) (hf : fX12_blown v0 v1 v2 v3 m = some (r, m2)) : CtL z wM yX12_blown cX12_blown 5 (some .long) (Rm 6) ad 17 [.ref (ad v0), .int v1, .int v2, .int v3] m m2 r := by
  refine ct_ofL mi_X12_blown rfl (Nat.le_of_ble_eq_true rfl) (fun x X hret => ?_)
  refine g_lv [(0, .ref (ad v0)), (1, .int v1), (2, .int v2), (3, .int v3)] [0, 1, 2, 3] rfl ?_
  have hL171 : ∀ (v0 : Nat) (m : Mem), fX12_blown_171 v0 m = some (r, m2) → G z wM x 5 0 0 ad 17 m 171 [(0, .ref (ad v0))] [] := by
    intro v0 m hf
    unfold fX12_blown_171 at hf
    refine g_aload_n (pc := 171) X dX12_blown_171 rfl 0 rfl ?_
    obtain ⟨hk1, hf⟩ := gp_some hf
    obtain ⟨q2, hr3, hf⟩ := bnd_some hf
    refine g_getR (pc := 172) X fl_X12_25 (KMlt hk1 (by decide)) hk1 hr3 dX12_blown_172 ?_
    refine g_iconst (v := (4 : Int32)) (pc := 175) X dX12_blown_175 (by decide) ?_
    obtain ⟨hk4, hf⟩ := gp_some hf
    obtain ⟨hi5, hf⟩ := gp_some hf
    refine g_iald (pc := 176) X (KMlt hk4 (by decide)) hk4 hi5 dX12_blown_176 ?_
    refine g_i2l (pc := 177) X dX12_blown_177 ?_
    obtain ⟨rfl, rfl⟩ := som2 hf
    exact hret _ _ dX12_blown_178
  have hL140 : ∀ (v0 : Nat) (v1 : Int32) (v2 : Int32) (v3 : Int32) (v4 : Int32) (m : Mem), fX12_blown_140 v0 v1 v2 v3 v4 m = some (r, m2) → G z wM x 5 0 0 ad 17 m 140 [(0, .ref (ad v0)), (1, .int v1), (2, .int v2), (3, .int v3), (4, .int v4)] [] := by
    intro v0 v1 v2 v3 v4 m hf
    unfold fX12_blown_140 at hf
    obtain ⟨e140, hit140, hrest140⟩ := bnd_some hf
    refine iter_ok (Hd := fun (s : (Int32 × Mem)) => G z wM x 5 0 0 ad 17 s.2 140 [(0, .ref (ad v0)), (1, .int v1), (2, .int v2), (3, .int v3), (4, .int s.1)] []) ?_ FU (v4, m) hit140
    intro s ob140 hf hs140 he140
    obtain ⟨v4, m⟩ := s
    have hf : fX12_blown_140b v0 v1 v2 v3 v4 m = some ob140 := hf
    unfold fX12_blown_140b at hf
    refine g_iload (pc := 140) X dX12_blown_140 4 rfl ?_
    refine g_iload_n (pc := 142) X dX12_blown_142 rfl 3 rfl ?_
    refine g_icmp_ge (pc := 143) (tgt := 171) X dX12_blown_143 (by decide) (fun hc => ?_) (fun hc => ?_)
    · have hf := itp hc hf
      have he140 := he140 _ (Option.some.inj hf).symm
      subst he140
      have hf : fX12_blown_171 v0 m = some (r, m2) := hrest140
      refine g_lv [(0, .ref (ad v0))] [0] rfl ?_
      exact hL171 _ _ hf
    · have hf := itn hc hf
      refine g_aload_n (pc := 146) X dX12_blown_146 rfl 0 rfl ?_
      refine g_aload_n (pc := 147) X dX12_blown_147 rfl 0 rfl ?_
      obtain ⟨hk6, hf⟩ := gp_some hf
      obtain ⟨q7, hr8, hf⟩ := bnd_some hf
      refine g_getR (pc := 148) X fl_X12_16 (KMlt hk6 (by decide)) hk6 hr8 dX12_blown_148 ?_
      refine g_bipush (v := (40 : Int32)) (pc := 151) X dX12_blown_151 (by decide) ?_
      refine g_iload_n (pc := 153) X dX12_blown_153 rfl 1 rfl ?_
      refine g_imul (pc := 154) X dX12_blown_154 ?_
      refine g_iload_n (pc := 155) X dX12_blown_155 rfl 2 rfl ?_
      refine g_iadd (pc := 156) X dX12_blown_156 ?_
      refine g_iload (pc := 157) X dX12_blown_157 4 rfl ?_
      refine g_iadd (pc := 159) X dX12_blown_159 ?_
      obtain ⟨hk9, hf⟩ := gp_some hf
      obtain ⟨hi10, hf⟩ := gp_some hf
      refine g_iald (pc := 160) X (KMlt hk9 (by decide)) hk9 hi10 dX12_blown_160 ?_
      refine g_iconst (v := (0 : Int32)) (pc := 161) X dX12_blown_161 (by decide) ?_
      obtain ⟨m12, hq11, hf⟩ := bnd_some hf
      refine g_callVV (pc := 162) (As := [.int (m.1 q7 ((((40 : Int32) * v1) + v2) + v4).toNatClampNeg), .int (0 : Int32)]) (rest := []) X mi_X12_oneHour im_X12_oneHour se_X12_oneHour (KMlt hk6 (by decide)) hk6 clX12 ml_X12_288 (cX12_oneHour_ct z ad v0 (m.1 q7 ((((40 : Int32) * v1) + v2) + v4).toNatClampNeg) (0 : Int32) m m12 hq11) rfl rfl (Nat.le_of_ble_eq_true rfl) ⟨rfl, rfl, by decide, by decide, Nat.le_refl _, Nat.le_refl _⟩ dX12_blown_162 ?_
      obtain ⟨v4_13, e14, hf⟩ := lt1_some hf
      refine g_iinc (v2 := v4_13) (lv2 := [(0, .ref (ad v0)), (1, .int v1), (2, .int v2), (3, .int v3), (4, .int v4_13)]) (pc := 165) X dX12_blown_165 4 rfl (by rw [e14]; rfl) (by decide) [1, 2, 3, 4, 0] rfl ?_
      refine g_goto (pc := 168) (tgt := 140) X dX12_blown_168 (by decide) ?_
      exact hs140 (v4_13, m12) (Option.some.inj hf).symm
  have hL132 : ∀ (v0 : Nat) (v1 : Int32) (v2 : Int32) (v3 : Int32) (m : Mem), fX12_blown_132 v0 v1 v2 v3 m = some (r, m2) → G z wM x 5 0 0 ad 17 m 132 [(0, .ref (ad v0)), (1, .int v1), (2, .int v2), (3, .int v3)] [] := by
    intro v0 v1 v2 v3 m hf
    unfold fX12_blown_132 at hf
    refine g_aload_n (pc := 132) X dX12_blown_132 rfl 0 rfl ?_
    refine g_iconst (v := (0 : Int32)) (pc := 133) X dX12_blown_133 (by decide) ?_
    obtain ⟨hk15, hf⟩ := gp_some hf
    refine g_putI (pc := 134) X fl_X12_64 (KMlt hk15 (by decide)) hk15 rfl rfl dX12_blown_134 ?_
    obtain ⟨m16, e17, hf⟩ := lt1_some hf
    refine g_mem e17 ?_
    refine g_iconst (v := (0 : Int32)) (pc := 137) X dX12_blown_137 (by decide) ?_
    obtain ⟨v4_18, e19, hf⟩ := lt1_some hf
    refine g_topi e19 ?_
    refine g_istore (lv2 := [(0, .ref (ad v0)), (1, .int v1), (2, .int v2), (3, .int v3), (4, .int v4_18)]) (pc := 138) X dX12_blown_138 (by decide) [1, 2, 3, 4, 0] rfl ?_
    exact hL140 _ _ _ _ _ _ hf
  have hL85 : ∀ (v0 : Nat) (v1 : Int32) (v2 : Int32) (v3 : Int32) (v4 : Int32) (m : Mem), fX12_blown_85 v0 v1 v2 v3 v4 m = some (r, m2) → G z wM x 5 0 0 ad 17 m 85 [(0, .ref (ad v0)), (1, .int v1), (2, .int v2), (3, .int v3), (4, .int v4)] [] := by
    intro v0 v1 v2 v3 v4 m hf
    unfold fX12_blown_85 at hf
    obtain ⟨e85, hit85, hrest85⟩ := bnd_some hf
    refine iter_ok (Hd := fun (s : (Int32)) => G z wM x 5 0 0 ad 17 m 85 [(0, .ref (ad v0)), (1, .int v1), (2, .int v2), (3, .int v3), (4, .int s)] []) ?_ FU (v4) hit85
    intro v4 ob85 hf hs85 he85
    have hf : fX12_blown_85b v0 v1 v2 v3 v4 m = some ob85 := hf
    unfold fX12_blown_85b at hf
    refine g_iload (pc := 85) X dX12_blown_85 4 rfl ?_
    refine g_iload_n (pc := 87) X dX12_blown_87 rfl 3 rfl ?_
    refine g_icmp_ge (pc := 88) (tgt := 132) X dX12_blown_88 (by decide) (fun hc => ?_) (fun hc => ?_)
    · have hf := itp hc hf
      have he85 := he85 _ (Option.some.inj hf).symm
      subst he85
      have hf : fX12_blown_132 v0 v1 v2 v3 m = some (r, m2) := hrest85
      refine g_lv [(0, .ref (ad v0)), (1, .int v1), (2, .int v2), (3, .int v3)] [0, 1, 2, 3] rfl ?_
      exact hL132 _ _ _ _ _ hf
    · have hf := itn hc hf
      refine g_aload_n (pc := 91) X dX12_blown_91 rfl 0 rfl ?_
      obtain ⟨hk20, hf⟩ := gp_some hf
      obtain ⟨q21, hr22, hf⟩ := bnd_some hf
      refine g_getR (pc := 92) X fl_X12_16 (KMlt hk20 (by decide)) hk20 hr22 dX12_blown_92 ?_
      refine g_bipush (v := (40 : Int32)) (pc := 95) X dX12_blown_95 (by decide) ?_
      refine g_iload_n (pc := 97) X dX12_blown_97 rfl 1 rfl ?_
      refine g_imul (pc := 98) X dX12_blown_98 ?_
      refine g_iload_n (pc := 99) X dX12_blown_99 rfl 2 rfl ?_
      refine g_iadd (pc := 100) X dX12_blown_100 ?_
      refine g_iload (pc := 101) X dX12_blown_101 4 rfl ?_
      refine g_iadd (pc := 103) X dX12_blown_103 ?_
      obtain ⟨hk23, hf⟩ := gp_some hf
      obtain ⟨hi24, hf⟩ := gp_some hf
      refine g_iald (pc := 104) X (KMlt hk23 (by decide)) hk23 hi24 dX12_blown_104 ?_
      refine g_i2l (pc := 105) X dX12_blown_105 ?_
      refine g_lconst (v := (0 : Int64)) (pc := 106) X dX12_blown_106 (by decide) ?_
      refine g_aload_n (pc := 107) X dX12_blown_107 rfl 0 rfl ?_
      obtain ⟨q25, hr26, hf⟩ := bnd_some hf
      refine g_getR (pc := 108) X fl_X12_19 (KMlt hk20 (by decide)) hk20 hr26 dX12_blown_108 ?_
      refine g_iconst (v := (0 : Int32)) (pc := 111) X dX12_blown_111 (by decide) ?_
      obtain ⟨hk27, hf⟩ := gp_some hf
      obtain ⟨hi28, hf⟩ := gp_some hf
      refine g_iald (pc := 112) X (KMlt hk27 (by decide)) hk27 hi28 dX12_blown_112 ?_
      refine g_iconst (v := (1 : Int32)) (pc := 113) X dX12_blown_113 (by decide) ?_
      refine g_isub (pc := 114) X dX12_blown_114 ?_
      refine g_i2l (pc := 115) X dX12_blown_115 ?_
      obtain ⟨r30, hq29, hf⟩ := bnd_some hf
      refine g_callSI (pc := 116) (As := [.long ((m.1 q21 ((((40 : Int32) * v1) + v2) + v4).toNatClampNeg).toInt64), .long (0 : Int64), .long (((m.1 q25 (0 : Int32).toNatClampNeg) - (1 : Int32)).toInt64)]) (rest := []) X mi_X12_in sm_X12_in ml_X12_71 (cX12_in_ct z ad ((m.1 q21 ((((40 : Int32) * v1) + v2) + v4).toNatClampNeg).toInt64) (0 : Int64) (((m.1 q25 (0 : Int32).toNatClampNeg) - (1 : Int32)).toInt64) m r30 hq29) rfl rfl (Nat.le_of_ble_eq_true rfl) ⟨rfl, rfl, by decide, by decide, Nat.le_refl _, Nat.le_refl _⟩ dX12_blown_116 ?_
      refine g_if_ne (pc := 119) (tgt := 126) X dX12_blown_119 (by decide) (fun hc => ?_) (fun hc => ?_)
      · have hf := itn hc hf
        obtain ⟨v4_31, e32, hf⟩ := lt1_some hf
        refine g_iinc (v2 := v4_31) (lv2 := [(0, .ref (ad v0)), (1, .int v1), (2, .int v2), (3, .int v3), (4, .int v4_31)]) (pc := 126) X dX12_blown_126 4 rfl (by rw [e32]; rfl) (by decide) [1, 2, 3, 4, 0] rfl ?_
        refine g_goto (pc := 129) (tgt := 85) X dX12_blown_129 (by decide) ?_
        exact hs85 (v4_31) (Option.some.inj hf).symm
      · have hf := itp hc hf
        have he85 := he85 _ (Option.some.inj hf).symm
        subst he85
        have hf : some ((-9000000000000000001 : Int64), m) = some (r, m2) := hrest85
        refine g_ldc2 (pc := 122) X dX12_blown_122 kl_X12_81 ?_
        obtain ⟨rfl, rfl⟩ := som2 hf
        exact hret _ _ dX12_blown_125
  have hL76 : ∀ (v0 : Nat) (m : Mem), fX12_blown_76 v0 m = some (r, m2) → G z wM x 5 0 0 ad 17 m 76 [(0, .ref (ad v0))] [] := by
    intro v0 m hf
    unfold fX12_blown_76 at hf
    refine g_aload_n (pc := 76) X dX12_blown_76 rfl 0 rfl ?_
    refine g_iconst (v := (2 : Int32)) (pc := 77) X dX12_blown_77 (by decide) ?_
    obtain ⟨hk36, hf⟩ := gp_some hf
    obtain ⟨r34, m35, hq33, hf⟩ := bnd2_some hf
    refine g_callVL (pc := 78) (As := [.int (2 : Int32)]) (rest := []) X mi_X12_finding im_X12_finding se_X12_finding (KMlt hk36 (by decide)) hk36 clX12 ml_X12_83 (cX12_finding_ct z ad v0 (2 : Int32) m m35 r34 hq33) rfl rfl (Nat.le_of_ble_eq_true rfl) ⟨rfl, rfl, by decide, by decide, Nat.le_refl _, Nat.le_refl _⟩ dX12_blown_78 ?_
    obtain ⟨rfl, rfl⟩ := som2 hf
    exact hret _ _ dX12_blown_81
  unfold fX12_blown at hf
  refine g_aload_n (pc := 0) X dX12_blown_0 rfl 0 rfl ?_
  refine g_iconst (v := (0 : Int32)) (pc := 1) X dX12_blown_1 (by decide) ?_
  obtain ⟨hk37, hf⟩ := gp_some hf
  refine g_putI (pc := 2) X fl_X12_60 (KMlt hk37 (by decide)) hk37 rfl rfl dX12_blown_2 ?_
  obtain ⟨m38, e39, hf⟩ := lt1_some hf
  refine g_mem e39 ?_
  refine g_aload_n (pc := 5) X dX12_blown_5 rfl 0 rfl ?_
  obtain ⟨q40, hr41, hf⟩ := bnd_some hf
  refine g_getR (pc := 6) X fl_X12_25 (KMlt hk37 (by decide)) hk37 hr41 dX12_blown_6 ?_
  refine g_iconst (v := (0 : Int32)) (pc := 9) X dX12_blown_9 (by decide) ?_
  obtain ⟨hk42, hf⟩ := gp_some hf
  obtain ⟨hi43, hf⟩ := gp_some hf
  refine g_iald (pc := 10) X (KMlt hk42 (by decide)) hk42 hi43 dX12_blown_10 ?_
  refine g_if_ne (pc := 11) (tgt := 18) X dX12_blown_11 (by decide) (fun hc => ?_) (fun hc => ?_)
  · have hf := itn hc hf
    refine g_iload_n (pc := 18) X dX12_blown_18 rfl 1 rfl ?_
    obtain ⟨r45, hq44, hf⟩ := bnd_some hf
    refine g_callSI (pc := 19) (As := [.int v1]) (rest := []) X mi_X12_isRow sm_X12_isRow ml_X12_75 (cX12_isRow_ct z ad v1 m38 r45 hq44) rfl rfl (Nat.le_of_ble_eq_true rfl) ⟨rfl, rfl, by decide, by decide, Nat.le_refl _, Nat.le_refl _⟩ dX12_blown_19 ?_
    refine g_if_eq (pc := 22) (tgt := 37) X dX12_blown_22 (by decide) (fun hc => ?_) (fun hc => ?_)
    · have hf := itp hc hf
      refine g_ldc2 (pc := 37) X dX12_blown_37 kl_X12_81 ?_
      obtain ⟨rfl, rfl⟩ := som2 hf
      exact hret _ _ dX12_blown_40
    · have hf := itn hc hf
      refine g_iload_n (pc := 25) X dX12_blown_25 rfl 3 rfl ?_
      refine g_i2l (pc := 26) X dX12_blown_26 ?_
      refine g_lconst (v := (1 : Int64)) (pc := 27) X dX12_blown_27 (by decide) ?_
      refine g_ldc2 (pc := 28) X dX12_blown_28 kl_X12_292 ?_
      obtain ⟨r47, hq46, hf⟩ := bnd_some hf
      refine g_callSI (pc := 31) (As := [.long v3.toInt64, .long (1 : Int64), .long (40 : Int64)]) (rest := []) X mi_X12_in sm_X12_in ml_X12_71 (cX12_in_ct z ad v3.toInt64 (1 : Int64) (40 : Int64) m38 r47 hq46) rfl rfl (Nat.le_of_ble_eq_true rfl) ⟨rfl, rfl, by decide, by decide, Nat.le_refl _, Nat.le_refl _⟩ dX12_blown_31 ?_
      refine g_if_ne (pc := 34) (tgt := 41) X dX12_blown_34 (by decide) (fun hc => ?_) (fun hc => ?_)
      · have hf := itn hc hf
        refine g_aload_n (pc := 41) X dX12_blown_41 rfl 0 rfl ?_
        obtain ⟨q48, hr49, hf⟩ := bnd_some hf
        refine g_getR (pc := 42) X fl_X12_9 (KMlt hk37 (by decide)) hk37 hr49 dX12_blown_42 ?_
        refine g_iload_n (pc := 45) X dX12_blown_45 rfl 1 rfl ?_
        obtain ⟨hk50, hf⟩ := gp_some hf
        obtain ⟨hi51, hf⟩ := gp_some hf
        refine g_iald (pc := 46) X (KMlt hk50 (by decide)) hk50 hi51 dX12_blown_46 ?_
        refine g_if_ge (pc := 47) (tgt := 56) X dX12_blown_47 (by decide) (fun hc => ?_) (fun hc => ?_)
        · have hf := itp hc hf
          refine g_iload_n (pc := 56) X dX12_blown_56 rfl 2 rfl ?_
          refine g_if_lt (pc := 57) (tgt := 76) X dX12_blown_57 (by decide) (fun hc => ?_) (fun hc => ?_)
          · have hf := itp hc hf
            refine g_lv [(0, .ref (ad v0))] [0] rfl ?_
            exact hL76 _ _ hf
          · have hf := itn hc hf
            refine g_iload_n (pc := 60) X dX12_blown_60 rfl 2 rfl ?_
            refine g_i2l (pc := 61) X dX12_blown_61 ?_
            refine g_iload_n (pc := 62) X dX12_blown_62 rfl 3 rfl ?_
            refine g_i2l (pc := 63) X dX12_blown_63 ?_
            refine g_ladd (pc := 64) X dX12_blown_64 ?_
            refine g_aload_n (pc := 65) X dX12_blown_65 rfl 0 rfl ?_
            obtain ⟨q52, hr53, hf⟩ := bnd_some hf
            refine g_getR (pc := 66) X fl_X12_13 (KMlt hk37 (by decide)) hk37 hr53 dX12_blown_66 ?_
            refine g_iload_n (pc := 69) X dX12_blown_69 rfl 1 rfl ?_
            obtain ⟨hk54, hf⟩ := gp_some hf
            obtain ⟨hi55, hf⟩ := gp_some hf
            refine g_iald (pc := 70) X (KMlt hk54 (by decide)) hk54 hi55 dX12_blown_70 ?_
            refine g_i2l (pc := 71) X dX12_blown_71 ?_
            refine g_lcmp_le (pc := 72) (tgt := 82) X dX12_blown_72 dX12_blown_73 (by decide) (fun hc => ?_) (fun hc => ?_)
            · have hf := itp hc hf
              refine g_iconst (v := (0 : Int32)) (pc := 82) X dX12_blown_82 (by decide) ?_
              obtain ⟨v4_56, e57, hf⟩ := lt1_some hf
              refine g_topi e57 ?_
              refine g_istore (lv2 := [(0, .ref (ad v0)), (1, .int v1), (2, .int v2), (3, .int v3), (4, .int v4_56)]) (pc := 83) X dX12_blown_83 (by decide) [1, 2, 3, 4, 0] rfl ?_
              exact hL85 _ _ _ _ _ _ hf
            · have hf := itn hc hf
              refine g_lv [(0, .ref (ad v0))] [0] rfl ?_
              exact hL76 _ _ hf
        · have hf := itn hc hf
          refine g_aload_n (pc := 50) X dX12_blown_50 rfl 0 rfl ?_
          refine g_iconst (v := (1 : Int32)) (pc := 51) X dX12_blown_51 (by decide) ?_
          obtain ⟨r59, m60, hq58, hf⟩ := bnd2_some hf
          refine g_callVL (pc := 52) (As := [.int (1 : Int32)]) (rest := []) X mi_X12_finding im_X12_finding se_X12_finding (KMlt hk37 (by decide)) hk37 clX12 ml_X12_83 (cX12_finding_ct z ad v0 (1 : Int32) m38 m60 r59 hq58) rfl rfl (Nat.le_of_ble_eq_true rfl) ⟨rfl, rfl, by decide, by decide, Nat.le_refl _, Nat.le_refl _⟩ dX12_blown_52 ?_
          obtain ⟨rfl, rfl⟩ := som2 hf
          exact hret _ _ dX12_blown_55
      · have hf := itp hc hf
        refine g_ldc2 (pc := 37) X dX12_blown_37 kl_X12_81 ?_
        obtain ⟨rfl, rfl⟩ := som2 hf
        exact hret _ _ dX12_blown_40
  · have hf := itp hc hf
    refine g_ldc2 (pc := 14) X dX12_blown_14 kl_X12_259 ?_
    obtain ⟨rfl, rfl⟩ := som2 hf
    exact hret _ _ dX12_blown_17

noncomputable def fX12_ship (v0 : Nat) (v1 : Int32) (m : Mem) : Option (Int64 × Mem) := gp (KM v0 = 12) (lt1 (uI m v0 0 (0 : Int32)) (fun m2 => bnd (m2.2.2 v0 8) (fun q4 => gp (KM q4 = 14) (gp (inb (0 : Int32) (NM q4) = true) (if (m2.1 q4 (0 : Int32).toNatClampNeg) = 0 then (some ((-9000000000000000002 : Int64), m2)) else (bnd (fX12_in v1.toInt64 (0 : Int64) (6 : Int64)) (fun r9 => if r9 = 0 then (some ((-9000000000000000001 : Int64), m2)) else (gp (inb ((1 : Int32) + v1) (NM q4) = true) (some ((m2.1 q4 ((1 : Int32) + v1).toNatClampNeg).toInt64, m2))))))))))
set_option maxHeartbeats 4000000 in
set_option maxRecDepth 100000 in
theorem cX12_ship_ct (z : Zx) (ad : Nat → Nat) (v0 : Nat) (v1 : Int32) (m m2 : Mem) (r : Int64) (hf : fX12_ship v0 v1 m = some (r, m2)) : CtL z wM yX12_ship cX12_ship 2 (some .long) (Rm 3) ad 17 [.ref (ad v0), .int v1] m m2 r := by
  refine ct_ofL mi_X12_ship rfl (Nat.le_of_ble_eq_true rfl) (fun x X hret => ?_)
  refine g_lv [(0, .ref (ad v0)), (1, .int v1)] [0, 1] rfl ?_
  unfold fX12_ship at hf
  refine g_aload_n (pc := 0) X dX12_ship_0 rfl 0 rfl ?_
  refine g_iconst (v := (0 : Int32)) (pc := 1) X dX12_ship_1 (by decide) ?_
  obtain ⟨hk1, hf⟩ := gp_some hf
  refine g_putI (pc := 2) X fl_X12_60 (KMlt hk1 (by decide)) hk1 rfl rfl dX12_ship_2 ?_
  obtain ⟨m2, e3, hf⟩ := lt1_some hf
  refine g_mem e3 ?_
  refine g_aload_n (pc := 5) X dX12_ship_5 rfl 0 rfl ?_
  obtain ⟨q4, hr5, hf⟩ := bnd_some hf
  refine g_getR (pc := 6) X fl_X12_25 (KMlt hk1 (by decide)) hk1 hr5 dX12_ship_6 ?_
  refine g_iconst (v := (0 : Int32)) (pc := 9) X dX12_ship_9 (by decide) ?_
  obtain ⟨hk6, hf⟩ := gp_some hf
  obtain ⟨hi7, hf⟩ := gp_some hf
  refine g_iald (pc := 10) X (KMlt hk6 (by decide)) hk6 hi7 dX12_ship_10 ?_
  refine g_if_ne (pc := 11) (tgt := 18) X dX12_ship_11 (by decide) (fun hc => ?_) (fun hc => ?_)
  · have hf := itn hc hf
    refine g_iload_n (pc := 18) X dX12_ship_18 rfl 1 rfl ?_
    refine g_i2l (pc := 19) X dX12_ship_19 ?_
    refine g_lconst (v := (0 : Int64)) (pc := 20) X dX12_ship_20 (by decide) ?_
    refine g_ldc2 (pc := 21) X dX12_ship_21 kl_X12_294 ?_
    obtain ⟨r9, hq8, hf⟩ := bnd_some hf
    refine g_callSI (pc := 24) (As := [.long v1.toInt64, .long (0 : Int64), .long (6 : Int64)]) (rest := []) X mi_X12_in sm_X12_in ml_X12_71 (cX12_in_ct z ad v1.toInt64 (0 : Int64) (6 : Int64) m2 r9 hq8) rfl rfl (Nat.le_of_ble_eq_true rfl) ⟨rfl, rfl, by decide, by decide, Nat.le_refl _, Nat.le_refl _⟩ dX12_ship_24 ?_
    refine g_if_eq (pc := 27) (tgt := 42) X dX12_ship_27 (by decide) (fun hc => ?_) (fun hc => ?_)
    · have hf := itp hc hf
      refine g_ldc2 (pc := 42) X dX12_ship_42 kl_X12_81 ?_
      obtain ⟨rfl, rfl⟩ := som2 hf
      exact hret _ _ dX12_ship_45
    · have hf := itn hc hf
      refine g_aload_n (pc := 30) X dX12_ship_30 rfl 0 rfl ?_
      refine g_getR (pc := 31) X fl_X12_25 (KMlt hk1 (by decide)) hk1 hr5 dX12_ship_31 ?_
      refine g_iconst (v := (1 : Int32)) (pc := 34) X dX12_ship_34 (by decide) ?_
      refine g_iload_n (pc := 35) X dX12_ship_35 rfl 1 rfl ?_
      refine g_iadd (pc := 36) X dX12_ship_36 ?_
      obtain ⟨hi10, hf⟩ := gp_some hf
      refine g_iald (pc := 37) X (KMlt hk6 (by decide)) hk6 hi10 dX12_ship_37 ?_
      refine g_i2l (pc := 38) X dX12_ship_38 ?_
      refine g_goto (pc := 39) (tgt := 45) X dX12_ship_39 (by decide) ?_
      obtain ⟨rfl, rfl⟩ := som2 hf
      exact hret _ _ dX12_ship_45
  · have hf := itp hc hf
    refine g_ldc2 (pc := 14) X dX12_ship_14 kl_X12_259 ?_
    obtain ⟨rfl, rfl⟩ := som2 hf
    exact hret _ _ dX12_ship_17

noncomputable def fX12_layOne_24 (v0 : Nat) (v1 : Int32) (v2 : Int32) (s0 : Nat) (s1 : Int32) (s2 : Int64) (m : Mem) : Option ((Int32 × Mem) ⊕ (Mem)) := gp (KM s0 = 15) (gp (inb s1 (NM s0) = true) (lt1 (uJ m s0 s1.toNatClampNeg s2) (fun m3 => gp (KM v0 = 12) (bnd (m3.2.2 v0 20) (fun q6 => bnd (m3.2.2 v0 19) (fun q8 => gp (KM q8 = 15) (gp (inb v2 (NM q8) = true) (gp (KM q6 = 15) (gp (inb v2 (NM q6) = true) (lt1 (uJ m3 q6 v2.toNatClampNeg (m3.2.1 q8 v2.toNatClampNeg)) (fun m14 => lt1 (v2 + 1) (fun v2_16 => some (.inl (v2_16, m14))))))))))))))
noncomputable def fX12_layOne_2b (v0 : Nat) (v1 : Int32) (v2 : Int32) (m : Mem) : Option ((Int32 × Mem) ⊕ (Mem)) := if (128 : Int32) ≤ v2 then (some (.inr (m))) else (gp (KM v0 = 12) (bnd (m.2.2 v0 19) (fun q19 => if v2 = v1 then (fX12_layOne_24 v0 v1 v2 q19 v2 (1 : Int64) m) else (fX12_layOne_24 v0 v1 v2 q19 v2 (0 : Int64) m))))
noncomputable def fX12_layOne_2 (v0 : Nat) (v1 : Int32) (v2 : Int32) (m : Mem) : Option Mem := bnd (iter (fun s => fX12_layOne_2b v0 v1 s.1 s.2) FU (v2, m)) (fun e => some e)
noncomputable def fX12_layOne (v0 : Nat) (v1 : Int32) (m : Mem) : Option Mem := lt1 ((0 : Int32)) (fun v2_21 => fX12_layOne_2 v0 v1 v2_21 m)
set_option maxHeartbeats 4000000 in
set_option maxRecDepth 100000 in
theorem cX12_layOne_ct (z : Zx) (ad : Nat → Nat) (v0 : Nat) (v1 : Int32) (m m2 : Mem) (hf : fX12_layOne v0 v1 m = some m2) : CtV z wM yX12_layOne cX12_layOne 3 none (Rm 2) ad 17 [.ref (ad v0), .int v1] m m2 := by
  refine ct_ofV mi_X12_layOne rfl (Nat.le_of_ble_eq_true rfl) (fun x X hret => ?_)
  refine g_lv [(0, .ref (ad v0)), (1, .int v1)] [0, 1] rfl ?_
  have hL2 : ∀ (v0 : Nat) (v1 : Int32) (v2 : Int32) (m : Mem), fX12_layOne_2 v0 v1 v2 m = some m2 → G z wM x 3 0 0 ad 17 m 2 [(0, .ref (ad v0)), (1, .int v1), (2, .int v2)] [] := by
    intro v0 v1 v2 m hf
    unfold fX12_layOne_2 at hf
    obtain ⟨e2, hit2, hrest2⟩ := bnd_some hf
    refine iter_ok (Hd := fun (s : (Int32 × Mem)) => G z wM x 3 0 0 ad 17 s.2 2 [(0, .ref (ad v0)), (1, .int v1), (2, .int s.1)] []) ?_ FU (v2, m) hit2
    intro s ob2 hf hs2 he2
    obtain ⟨v2, m⟩ := s
    have hf : fX12_layOne_2b v0 v1 v2 m = some ob2 := hf
    have hL24 : ∀ (v2 : Int32) (s0 : Nat) (s1 : Int32) (s2 : Int64) (m : Mem), fX12_layOne_24 v0 v1 v2 s0 s1 s2 m = some ob2 → G z wM x 3 0 0 ad 17 m 24 [(0, .ref (ad v0)), (1, .int v1), (2, .int v2)] [.long s2, .int s1, .ref (ad s0)] := by
      intro v2 s0 s1 s2 m hf
      unfold fX12_layOne_24 at hf
      obtain ⟨hk1, hf⟩ := gp_some hf
      obtain ⟨hi2, hf⟩ := gp_some hf
      refine g_last (pc := 24) X (KMlt hk1 (by decide)) hk1 hi2 dX12_layOne_24 ?_
      obtain ⟨m3, e4, hf⟩ := lt1_some hf
      refine g_mem e4 ?_
      refine g_aload_n (pc := 25) X dX12_layOne_25 rfl 0 rfl ?_
      obtain ⟨hk5, hf⟩ := gp_some hf
      obtain ⟨q6, hr7, hf⟩ := bnd_some hf
      refine g_getR (pc := 26) X fl_X12_35 (KMlt hk5 (by decide)) hk5 hr7 dX12_layOne_26 ?_
      refine g_iload_n (pc := 29) X dX12_layOne_29 rfl 2 rfl ?_
      refine g_aload_n (pc := 30) X dX12_layOne_30 rfl 0 rfl ?_
      obtain ⟨q8, hr9, hf⟩ := bnd_some hf
      refine g_getR (pc := 31) X fl_X12_31 (KMlt hk5 (by decide)) hk5 hr9 dX12_layOne_31 ?_
      refine g_iload_n (pc := 34) X dX12_layOne_34 rfl 2 rfl ?_
      obtain ⟨hk10, hf⟩ := gp_some hf
      obtain ⟨hi11, hf⟩ := gp_some hf
      refine g_lald (pc := 35) X (KMlt hk10 (by decide)) hk10 hi11 dX12_layOne_35 ?_
      obtain ⟨hk12, hf⟩ := gp_some hf
      obtain ⟨hi13, hf⟩ := gp_some hf
      refine g_last (pc := 36) X (KMlt hk12 (by decide)) hk12 hi13 dX12_layOne_36 ?_
      obtain ⟨m14, e15, hf⟩ := lt1_some hf
      refine g_mem e15 ?_
      obtain ⟨v2_16, e17, hf⟩ := lt1_some hf
      refine g_iinc (v2 := v2_16) (lv2 := [(0, .ref (ad v0)), (1, .int v1), (2, .int v2_16)]) (pc := 37) X dX12_layOne_37 2 rfl (by rw [e17]; rfl) (by decide) [1, 2, 0] rfl ?_
      refine g_goto (pc := 40) (tgt := 2) X dX12_layOne_40 (by decide) ?_
      exact hs2 (v2_16, m14) (Option.some.inj hf).symm
    unfold fX12_layOne_2b at hf
    refine g_iload_n (pc := 2) X dX12_layOne_2 rfl 2 rfl ?_
    refine g_sipush (v := (128 : Int32)) (pc := 3) X dX12_layOne_3 (by decide) ?_
    refine g_icmp_ge (pc := 6) (tgt := 43) X dX12_layOne_6 (by decide) (fun hc => ?_) (fun hc => ?_)
    · have hf := itp hc hf
      have he2 := he2 _ (Option.some.inj hf).symm
      subst he2
      have hf : some m = some m2 := hrest2
      obtain rfl := Option.some.inj hf
      exact hret _ _ dX12_layOne_43
    · have hf := itn hc hf
      refine g_aload_n (pc := 9) X dX12_layOne_9 rfl 0 rfl ?_
      obtain ⟨hk18, hf⟩ := gp_some hf
      obtain ⟨q19, hr20, hf⟩ := bnd_some hf
      refine g_getR (pc := 10) X fl_X12_31 (KMlt hk18 (by decide)) hk18 hr20 dX12_layOne_10 ?_
      refine g_iload_n (pc := 13) X dX12_layOne_13 rfl 2 rfl ?_
      refine g_iload_n (pc := 14) X dX12_layOne_14 rfl 2 rfl ?_
      refine g_iload_n (pc := 15) X dX12_layOne_15 rfl 1 rfl ?_
      refine g_icmp_ne (pc := 16) (tgt := 23) X dX12_layOne_16 (by decide) (fun hc => ?_) (fun hc => ?_)
      · have hf := itn hc hf
        refine g_lconst (v := (0 : Int64)) (pc := 23) X dX12_layOne_23 (by decide) ?_
        exact hL24 _ _ _ _ _ hf
      · have hf := itp hc hf
        refine g_lconst (v := (1 : Int64)) (pc := 19) X dX12_layOne_19 (by decide) ?_
        refine g_goto (pc := 20) (tgt := 24) X dX12_layOne_20 (by decide) ?_
        exact hL24 _ _ _ _ _ hf
  unfold fX12_layOne at hf
  refine g_iconst (v := (0 : Int32)) (pc := 0) X dX12_layOne_0 (by decide) ?_
  obtain ⟨v2_21, e22, hf⟩ := lt1_some hf
  refine g_topi e22 ?_
  refine g_istore_n (lv2 := [(0, .ref (ad v0)), (1, .int v1), (2, .int v2_21)]) (pc := 1) X dX12_layOne_1 rfl (by decide) [1, 2, 0] rfl ?_
  exact hL2 _ _ _ _ hf

noncomputable def fX12_goHour_139b (v0 : Nat) (v2 : Int32) (m : Mem) : Option ((Int32 × Mem) ⊕ (Mem)) := if (128 : Int32) ≤ v2 then (some (.inr (m))) else (gp (KM v0 = 12) (bnd (m.2.2 v0 19) (fun q2 => bnd (m.2.2 v0 21) (fun q4 => gp (KM q4 = 15) (gp (inb v2 (NM q4) = true) (gp (KM q2 = 15) (gp (inb v2 (NM q2) = true) (lt1 (uJ m q2 v2.toNatClampNeg (m.2.1 q4 v2.toNatClampNeg)) (fun m10 => bnd (m10.2.2 v0 20) (fun q12 => bnd (m10.2.2 v0 22) (fun q14 => gp (KM q14 = 15) (gp (inb v2 (NM q14) = true) (gp (KM q12 = 15) (gp (inb v2 (NM q12) = true) (lt1 (uJ m10 q12 v2.toNatClampNeg (m10.2.1 q14 v2.toNatClampNeg)) (fun m20 => lt1 (v2 + 1) (fun v2_22 => some (.inl (v2_22, m20)))))))))))))))))))
noncomputable def fX12_goHour_139 (v0 : Nat) (v2 : Int32) (m : Mem) : Option Mem := bnd (iter (fun s => fX12_goHour_139b v0 s.1 s.2) FU (v2, m)) (fun e => some e)
noncomputable def fX12_goHour_137 (v0 : Nat) (m : Mem) : Option Mem := lt1 ((0 : Int32)) (fun v2_24 => fX12_goHour_139 v0 v2_24 m)
noncomputable def fX12_goHour_131 (v0 : Nat) (v1 : Int32) (v2 : Int32) (m : Mem) : Option ((Int32 × Mem) ⊕ (Mem)) := lt1 (v2 + 1) (fun v2_26 => some (.inl (v2_26, m)))
noncomputable def fX12_goHour_84 (v0 : Nat) (v1 : Int32) (v2 : Int32) (v3 : Int32) (s0 : Int32) (m : Mem) : Option ((Int32 × Mem) ⊕ (Mem)) := gp (KM v0 = 12) (bnd (m.2.2 v0 21) (fun q29 => gp (KM q29 = 15) (gp (inb s0 (NM q29) = true) (bnd (m.2.2 v0 19) (fun q33 => gp (KM q33 = 15) (gp (inb v2 (NM q33) = true) (bnd (fX12_oddsOf v0 v3 m) (fun r38 => gp (inb s0 (NM q29) = true) (lt1 (uJ m q29 s0.toNatClampNeg ((m.2.1 q29 s0.toNatClampNeg) + ((m.2.1 q33 v2.toNatClampNeg) * r38.toInt64))) (fun m40 => bnd (m40.2.2 v0 22) (fun q42 => gp (KM q42 = 15) (gp (inb s0 (NM q42) = true) (bnd (m40.2.2 v0 20) (fun q46 => gp (KM q46 = 15) (gp (inb v2 (NM q46) = true) (gp (inb s0 (NM q42) = true) (lt1 (uJ m40 q42 s0.toNatClampNeg ((m40.2.1 q42 s0.toNatClampNeg) + (m40.2.1 q46 v2.toNatClampNeg))) (fun m51 => lt1 (v3 + 1) (fun v3_53 => some (.inl (v3_53, m51)))))))))))))))))))))
noncomputable def fX12_goHour_40b (v0 : Nat) (v1 : Int32) (v2 : Int32) (v3 : Int32) (m : Mem) : Option ((Int32 × Mem) ⊕ (Mem)) := gp (KM v0 = 12) (bnd (m.2.2 v0 5) (fun q56 => gp (KM q56 = 14) (gp (inb (0 : Int32) (NM q56) = true) (if (m.1 q56 (0 : Int32).toNatClampNeg) ≤ v3 then (some (.inr (m))) else (bnd (m.2.2 v0 20) (fun q60 => gp (KM q60 = 15) (gp (inb v2 (NM q60) = true) (if (m.2.1 q60 v2.toNatClampNeg) ≤ (0 : Int64) then (some (.inr (m))) else (bnd (fX12_isLand v0 v2 m) (fun r65 => if r65 = 0 then (bnd (fX12_wayBy v0 v3 v1 m) (fun r67 => bnd (fX12_goneTo v0 v2 r67 m) (fun r69 => fX12_goHour_84 v0 v1 v2 v3 r69 m))) else (fX12_goHour_84 v0 v1 v2 v3 v2 m)))))))))))
noncomputable def fX12_goHour_40 (v0 : Nat) (v1 : Int32) (v2 : Int32) (v3 : Int32) (m : Mem) : Option ((Int32 × Mem) ⊕ (Mem)) := bnd (iter (fun s => fX12_goHour_40b v0 v1 v2 s.1 s.2) FU (v3, m)) (fun e => fX12_goHour_131 v0 v1 v2 e)
noncomputable def fX12_goHour_31b (v0 : Nat) (v1 : Int32) (v2 : Int32) (m : Mem) : Option ((Int32 × Mem) ⊕ (Mem)) := if (128 : Int32) ≤ v2 then (some (.inr (m))) else (lt1 ((0 : Int32)) (fun v3_70 => fX12_goHour_40 v0 v1 v2 v3_70 m))
noncomputable def fX12_goHour_31 (v0 : Nat) (v1 : Int32) (v2 : Int32) (m : Mem) : Option Mem := bnd (iter (fun s => fX12_goHour_31b v0 v1 s.1 s.2) FU (v2, m)) (fun e => fX12_goHour_137 v0 e)
noncomputable def fX12_goHour_29 (v0 : Nat) (v1 : Int32) (m : Mem) : Option Mem := lt1 ((0 : Int32)) (fun v2_72 => fX12_goHour_31 v0 v1 v2_72 m)
noncomputable def fX12_goHour_2b (v0 : Nat) (v1 : Int32) (v2 : Int32) (m : Mem) : Option ((Int32 × Mem) ⊕ (Mem)) := if (128 : Int32) ≤ v2 then (some (.inr (m))) else (gp (KM v0 = 12) (bnd (m.2.2 v0 21) (fun q75 => gp (KM q75 = 15) (gp (inb v2 (NM q75) = true) (lt1 (uJ m q75 v2.toNatClampNeg (0 : Int64)) (fun m79 => bnd (m79.2.2 v0 22) (fun q81 => gp (KM q81 = 15) (gp (inb v2 (NM q81) = true) (lt1 (uJ m79 q81 v2.toNatClampNeg (0 : Int64)) (fun m85 => lt1 (v2 + 1) (fun v2_87 => some (.inl (v2_87, m85)))))))))))))
noncomputable def fX12_goHour_2 (v0 : Nat) (v1 : Int32) (v2 : Int32) (m : Mem) : Option Mem := bnd (iter (fun s => fX12_goHour_2b v0 v1 s.1 s.2) FU (v2, m)) (fun e => fX12_goHour_29 v0 v1 e)
noncomputable def fX12_goHour (v0 : Nat) (v1 : Int32) (m : Mem) : Option Mem := lt1 ((0 : Int32)) (fun v2_89 => fX12_goHour_2 v0 v1 v2_89 m)
set_option maxHeartbeats 4000000 in
set_option maxRecDepth 100000 in
theorem cX12_goHour_ct (z : Zx) (ad : Nat → Nat) (v0 : Nat) (v1 : Int32) (m m2 : Mem) (hf : fX12_goHour v0 v1 m = some m2) : CtV z wM yX12_goHour cX12_goHour 5 none (Rm 5) ad 17 [.ref (ad v0), .int v1] m m2 := by
  refine ct_ofV mi_X12_goHour rfl (Nat.le_of_ble_eq_true rfl) (fun x X hret => ?_)
  refine g_lv [(0, .ref (ad v0)), (1, .int v1)] [0, 1] rfl ?_
  have hL139 : ∀ (v0 : Nat) (v2 : Int32) (m : Mem), fX12_goHour_139 v0 v2 m = some m2 → G z wM x 5 0 0 ad 17 m 139 [(0, .ref (ad v0)), (2, .int v2)] [] := by
    intro v0 v2 m hf
    unfold fX12_goHour_139 at hf
    obtain ⟨e139, hit139, hrest139⟩ := bnd_some hf
    refine iter_ok (Hd := fun (s : (Int32 × Mem)) => G z wM x 5 0 0 ad 17 s.2 139 [(0, .ref (ad v0)), (2, .int s.1)] []) ?_ FU (v2, m) hit139
    intro s ob139 hf hs139 he139
    obtain ⟨v2, m⟩ := s
    have hf : fX12_goHour_139b v0 v2 m = some ob139 := hf
    unfold fX12_goHour_139b at hf
    refine g_iload_n (pc := 139) X dX12_goHour_139 rfl 1 rfl ?_
    refine g_sipush (v := (128 : Int32)) (pc := 140) X dX12_goHour_140 (by decide) ?_
    refine g_icmp_ge (pc := 143) (tgt := 176) X dX12_goHour_143 (by decide) (fun hc => ?_) (fun hc => ?_)
    · have hf := itp hc hf
      have he139 := he139 _ (Option.some.inj hf).symm
      subst he139
      have hf : some m = some m2 := hrest139
      obtain rfl := Option.some.inj hf
      exact hret _ _ dX12_goHour_176
    · have hf := itn hc hf
      refine g_aload_n (pc := 146) X dX12_goHour_146 rfl 0 rfl ?_
      obtain ⟨hk1, hf⟩ := gp_some hf
      obtain ⟨q2, hr3, hf⟩ := bnd_some hf
      refine g_getR (pc := 147) X fl_X12_31 (KMlt hk1 (by decide)) hk1 hr3 dX12_goHour_147 ?_
      refine g_iload_n (pc := 150) X dX12_goHour_150 rfl 1 rfl ?_
      refine g_aload_n (pc := 151) X dX12_goHour_151 rfl 0 rfl ?_
      obtain ⟨q4, hr5, hf⟩ := bnd_some hf
      refine g_getR (pc := 152) X fl_X12_38 (KMlt hk1 (by decide)) hk1 hr5 dX12_goHour_152 ?_
      refine g_iload_n (pc := 155) X dX12_goHour_155 rfl 1 rfl ?_
      obtain ⟨hk6, hf⟩ := gp_some hf
      obtain ⟨hi7, hf⟩ := gp_some hf
      refine g_lald (pc := 156) X (KMlt hk6 (by decide)) hk6 hi7 dX12_goHour_156 ?_
      obtain ⟨hk8, hf⟩ := gp_some hf
      obtain ⟨hi9, hf⟩ := gp_some hf
      refine g_last (pc := 157) X (KMlt hk8 (by decide)) hk8 hi9 dX12_goHour_157 ?_
      obtain ⟨m10, e11, hf⟩ := lt1_some hf
      refine g_mem e11 ?_
      refine g_aload_n (pc := 158) X dX12_goHour_158 rfl 0 rfl ?_
      obtain ⟨q12, hr13, hf⟩ := bnd_some hf
      refine g_getR (pc := 159) X fl_X12_35 (KMlt hk1 (by decide)) hk1 hr13 dX12_goHour_159 ?_
      refine g_iload_n (pc := 162) X dX12_goHour_162 rfl 1 rfl ?_
      refine g_aload_n (pc := 163) X dX12_goHour_163 rfl 0 rfl ?_
      obtain ⟨q14, hr15, hf⟩ := bnd_some hf
      refine g_getR (pc := 164) X fl_X12_41 (KMlt hk1 (by decide)) hk1 hr15 dX12_goHour_164 ?_
      refine g_iload_n (pc := 167) X dX12_goHour_167 rfl 1 rfl ?_
      obtain ⟨hk16, hf⟩ := gp_some hf
      obtain ⟨hi17, hf⟩ := gp_some hf
      refine g_lald (pc := 168) X (KMlt hk16 (by decide)) hk16 hi17 dX12_goHour_168 ?_
      obtain ⟨hk18, hf⟩ := gp_some hf
      obtain ⟨hi19, hf⟩ := gp_some hf
      refine g_last (pc := 169) X (KMlt hk18 (by decide)) hk18 hi19 dX12_goHour_169 ?_
      obtain ⟨m20, e21, hf⟩ := lt1_some hf
      refine g_mem e21 ?_
      obtain ⟨v2_22, e23, hf⟩ := lt1_some hf
      refine g_iinc (v2 := v2_22) (lv2 := [(0, .ref (ad v0)), (2, .int v2_22)]) (pc := 170) X dX12_goHour_170 1 rfl (by rw [e23]; rfl) (by decide) [1, 0] rfl ?_
      refine g_goto (pc := 173) (tgt := 139) X dX12_goHour_173 (by decide) ?_
      exact hs139 (v2_22, m20) (Option.some.inj hf).symm
  have hL137 : ∀ (v0 : Nat) (m : Mem), fX12_goHour_137 v0 m = some m2 → G z wM x 5 0 0 ad 17 m 137 [(0, .ref (ad v0))] [] := by
    intro v0 m hf
    unfold fX12_goHour_137 at hf
    refine g_iconst (v := (0 : Int32)) (pc := 137) X dX12_goHour_137 (by decide) ?_
    obtain ⟨v2_24, e25, hf⟩ := lt1_some hf
    refine g_topi e25 ?_
    refine g_istore_n (lv2 := [(0, .ref (ad v0)), (2, .int v2_24)]) (pc := 138) X dX12_goHour_138 rfl (by decide) [1, 0] rfl ?_
    exact hL139 _ _ _ hf
  have hL31 : ∀ (v0 : Nat) (v1 : Int32) (v2 : Int32) (m : Mem), fX12_goHour_31 v0 v1 v2 m = some m2 → G z wM x 5 0 0 ad 17 m 31 [(0, .ref (ad v0)), (1, .int v1), (2, .int v2)] [] := by
    intro v0 v1 v2 m hf
    unfold fX12_goHour_31 at hf
    obtain ⟨e31, hit31, hrest31⟩ := bnd_some hf
    refine iter_ok (Hd := fun (s : (Int32 × Mem)) => G z wM x 5 0 0 ad 17 s.2 31 [(0, .ref (ad v0)), (1, .int v1), (2, .int s.1)] []) ?_ FU (v2, m) hit31
    intro s ob31 hf hs31 he31
    obtain ⟨v2, m⟩ := s
    have hf : fX12_goHour_31b v0 v1 v2 m = some ob31 := hf
    have hL131 : ∀ (v2 : Int32) (m : Mem), fX12_goHour_131 v0 v1 v2 m = some ob31 → G z wM x 5 0 0 ad 17 m 131 [(0, .ref (ad v0)), (1, .int v1), (2, .int v2)] [] := by
      intro v2 m hf
      unfold fX12_goHour_131 at hf
      obtain ⟨v2_26, e27, hf⟩ := lt1_some hf
      refine g_iinc (v2 := v2_26) (lv2 := [(0, .ref (ad v0)), (1, .int v1), (2, .int v2_26)]) (pc := 131) X dX12_goHour_131 2 rfl (by rw [e27]; rfl) (by decide) [1, 2, 0] rfl ?_
      refine g_goto (pc := 134) (tgt := 31) X dX12_goHour_134 (by decide) ?_
      exact hs31 (v2_26, m) (Option.some.inj hf).symm
    have hL40 : ∀ (v2 : Int32) (v3 : Int32) (m : Mem), fX12_goHour_40 v0 v1 v2 v3 m = some ob31 → G z wM x 5 0 0 ad 17 m 40 [(0, .ref (ad v0)), (1, .int v1), (2, .int v2), (3, .int v3)] [] := by
      intro v2 v3 m hf
      unfold fX12_goHour_40 at hf
      obtain ⟨e40, hit40, hrest40⟩ := bnd_some hf
      refine iter_ok (Hd := fun (s : (Int32 × Mem)) => G z wM x 5 0 0 ad 17 s.2 40 [(0, .ref (ad v0)), (1, .int v1), (2, .int v2), (3, .int s.1)] []) ?_ FU (v3, m) hit40
      intro s ob40 hf hs40 he40
      obtain ⟨v3, m⟩ := s
      have hf : fX12_goHour_40b v0 v1 v2 v3 m = some ob40 := hf
      have hL84 : ∀ (v3 : Int32) (s0 : Int32) (m : Mem), fX12_goHour_84 v0 v1 v2 v3 s0 m = some ob40 → G z wM x 5 0 0 ad 17 m 84 [(0, .ref (ad v0)), (1, .int v1), (2, .int v2), (3, .int v3)] [.int s0] := by
        intro v3 s0 m hf
        unfold fX12_goHour_84 at hf
        refine g_istore (lv2 := [(0, .ref (ad v0)), (1, .int v1), (2, .int v2), (3, .int v3), (4, .int s0)]) (pc := 84) X dX12_goHour_84 (by decide) [1, 2, 3, 4, 0] rfl ?_
        refine g_aload_n (pc := 86) X dX12_goHour_86 rfl 0 rfl ?_
        obtain ⟨hk28, hf⟩ := gp_some hf
        obtain ⟨q29, hr30, hf⟩ := bnd_some hf
        refine g_getR (pc := 87) X fl_X12_38 (KMlt hk28 (by decide)) hk28 hr30 dX12_goHour_87 ?_
        refine g_iload (pc := 90) X dX12_goHour_90 4 rfl ?_
        refine g_dup2_11 (pc := 92) X dX12_goHour_92 rfl rfl ?_
        obtain ⟨hk31, hf⟩ := gp_some hf
        obtain ⟨hi32, hf⟩ := gp_some hf
        refine g_lald (pc := 93) X (KMlt hk31 (by decide)) hk31 hi32 dX12_goHour_93 ?_
        refine g_aload_n (pc := 94) X dX12_goHour_94 rfl 0 rfl ?_
        obtain ⟨q33, hr34, hf⟩ := bnd_some hf
        refine g_getR (pc := 95) X fl_X12_31 (KMlt hk28 (by decide)) hk28 hr34 dX12_goHour_95 ?_
        refine g_iload_n (pc := 98) X dX12_goHour_98 rfl 2 rfl ?_
        obtain ⟨hk35, hf⟩ := gp_some hf
        obtain ⟨hi36, hf⟩ := gp_some hf
        refine g_lald (pc := 99) X (KMlt hk35 (by decide)) hk35 hi36 dX12_goHour_99 ?_
        refine g_aload_n (pc := 100) X dX12_goHour_100 rfl 0 rfl ?_
        refine g_iload_n (pc := 101) X dX12_goHour_101 rfl 3 rfl ?_
        obtain ⟨r38, hq37, hf⟩ := bnd_some hf
        refine g_callVI (pc := 102) (As := [.int v3]) (rest := [.long (m.2.1 q33 v2.toNatClampNeg), .long (m.2.1 q29 s0.toNatClampNeg), .int s0, .ref (ad q29)]) X mi_X12_oddsOf im_X12_oddsOf se_X12_oddsOf (KMlt hk28 (by decide)) hk28 clX12 ml_X12_256 (cX12_oddsOf_ct z ad v0 v3 m r38 hq37) rfl rfl (Nat.le_of_ble_eq_true rfl) ⟨rfl, rfl, by decide, by decide, Nat.le_refl _, Nat.le_refl _⟩ dX12_goHour_102 ?_
        refine g_i2l (pc := 105) X dX12_goHour_105 ?_
        refine g_lmul (pc := 106) X dX12_goHour_106 ?_
        refine g_ladd (pc := 107) X dX12_goHour_107 ?_
        obtain ⟨hi39, hf⟩ := gp_some hf
        refine g_last (pc := 108) X (KMlt hk31 (by decide)) hk31 hi39 dX12_goHour_108 ?_
        obtain ⟨m40, e41, hf⟩ := lt1_some hf
        refine g_mem e41 ?_
        refine g_aload_n (pc := 109) X dX12_goHour_109 rfl 0 rfl ?_
        obtain ⟨q42, hr43, hf⟩ := bnd_some hf
        refine g_getR (pc := 110) X fl_X12_41 (KMlt hk28 (by decide)) hk28 hr43 dX12_goHour_110 ?_
        refine g_iload (pc := 113) X dX12_goHour_113 4 rfl ?_
        refine g_dup2_11 (pc := 115) X dX12_goHour_115 rfl rfl ?_
        obtain ⟨hk44, hf⟩ := gp_some hf
        obtain ⟨hi45, hf⟩ := gp_some hf
        refine g_lald (pc := 116) X (KMlt hk44 (by decide)) hk44 hi45 dX12_goHour_116 ?_
        refine g_aload_n (pc := 117) X dX12_goHour_117 rfl 0 rfl ?_
        obtain ⟨q46, hr47, hf⟩ := bnd_some hf
        refine g_getR (pc := 118) X fl_X12_35 (KMlt hk28 (by decide)) hk28 hr47 dX12_goHour_118 ?_
        refine g_iload_n (pc := 121) X dX12_goHour_121 rfl 2 rfl ?_
        obtain ⟨hk48, hf⟩ := gp_some hf
        obtain ⟨hi49, hf⟩ := gp_some hf
        refine g_lald (pc := 122) X (KMlt hk48 (by decide)) hk48 hi49 dX12_goHour_122 ?_
        refine g_ladd (pc := 123) X dX12_goHour_123 ?_
        obtain ⟨hi50, hf⟩ := gp_some hf
        refine g_last (pc := 124) X (KMlt hk44 (by decide)) hk44 hi50 dX12_goHour_124 ?_
        obtain ⟨m51, e52, hf⟩ := lt1_some hf
        refine g_mem e52 ?_
        obtain ⟨v3_53, e54, hf⟩ := lt1_some hf
        refine g_iinc (v2 := v3_53) (lv2 := [(0, .ref (ad v0)), (1, .int v1), (2, .int v2), (3, .int v3_53), (4, .int s0)]) (pc := 125) X dX12_goHour_125 3 rfl (by rw [e54]; rfl) (by decide) [1, 2, 3, 0, 4] rfl ?_
        refine g_goto (pc := 128) (tgt := 40) X dX12_goHour_128 (by decide) ?_
        refine g_lv [(0, .ref (ad v0)), (1, .int v1), (2, .int v2), (3, .int v3_53)] [0, 1, 2, 3] rfl ?_
        exact hs40 (v3_53, m51) (Option.some.inj hf).symm
      unfold fX12_goHour_40b at hf
      refine g_iload_n (pc := 40) X dX12_goHour_40 rfl 3 rfl ?_
      refine g_aload_n (pc := 41) X dX12_goHour_41 rfl 0 rfl ?_
      obtain ⟨hk55, hf⟩ := gp_some hf
      obtain ⟨q56, hr57, hf⟩ := bnd_some hf
      refine g_getR (pc := 42) X fl_X12_19 (KMlt hk55 (by decide)) hk55 hr57 dX12_goHour_42 ?_
      refine g_iconst (v := (0 : Int32)) (pc := 45) X dX12_goHour_45 (by decide) ?_
      obtain ⟨hk58, hf⟩ := gp_some hf
      obtain ⟨hi59, hf⟩ := gp_some hf
      refine g_iald (pc := 46) X (KMlt hk58 (by decide)) hk58 hi59 dX12_goHour_46 ?_
      refine g_icmp_ge (pc := 47) (tgt := 131) X dX12_goHour_47 (by decide) (fun hc => ?_) (fun hc => ?_)
      · have hf := itp hc hf
        have he40 := he40 _ (Option.some.inj hf).symm
        subst he40
        have hf : fX12_goHour_131 v0 v1 v2 m = some ob31 := hrest40
        refine g_lv [(0, .ref (ad v0)), (1, .int v1), (2, .int v2)] [0, 1, 2] rfl ?_
        exact hL131 _ _ hf
      · have hf := itn hc hf
        refine g_aload_n (pc := 50) X dX12_goHour_50 rfl 0 rfl ?_
        obtain ⟨q60, hr61, hf⟩ := bnd_some hf
        refine g_getR (pc := 51) X fl_X12_35 (KMlt hk55 (by decide)) hk55 hr61 dX12_goHour_51 ?_
        refine g_iload_n (pc := 54) X dX12_goHour_54 rfl 2 rfl ?_
        obtain ⟨hk62, hf⟩ := gp_some hf
        obtain ⟨hi63, hf⟩ := gp_some hf
        refine g_lald (pc := 55) X (KMlt hk62 (by decide)) hk62 hi63 dX12_goHour_55 ?_
        refine g_lconst (v := (0 : Int64)) (pc := 56) X dX12_goHour_56 (by decide) ?_
        refine g_lcmp_le (pc := 57) (tgt := 131) X dX12_goHour_57 dX12_goHour_58 (by decide) (fun hc => ?_) (fun hc => ?_)
        · have hf := itp hc hf
          have he40 := he40 _ (Option.some.inj hf).symm
          subst he40
          have hf : fX12_goHour_131 v0 v1 v2 m = some ob31 := hrest40
          refine g_lv [(0, .ref (ad v0)), (1, .int v1), (2, .int v2)] [0, 1, 2] rfl ?_
          exact hL131 _ _ hf
        · have hf := itn hc hf
          refine g_aload_n (pc := 61) X dX12_goHour_61 rfl 0 rfl ?_
          refine g_iload_n (pc := 62) X dX12_goHour_62 rfl 2 rfl ?_
          obtain ⟨r65, hq64, hf⟩ := bnd_some hf
          refine g_callVI (pc := 63) (As := [.int v2]) (rest := []) X mi_X12_isLand im_X12_isLand se_X12_isLand (KMlt hk55 (by decide)) hk55 clX12 ml_X12_246 (cX12_isLand_ct z ad v0 v2 m r65 hq64) rfl rfl (Nat.le_of_ble_eq_true rfl) ⟨rfl, rfl, by decide, by decide, Nat.le_refl _, Nat.le_refl _⟩ dX12_goHour_63 ?_
          refine g_if_eq (pc := 66) (tgt := 73) X dX12_goHour_66 (by decide) (fun hc => ?_) (fun hc => ?_)
          · have hf := itp hc hf
            refine g_aload_n (pc := 73) X dX12_goHour_73 rfl 0 rfl ?_
            refine g_iload_n (pc := 74) X dX12_goHour_74 rfl 2 rfl ?_
            refine g_aload_n (pc := 75) X dX12_goHour_75 rfl 0 rfl ?_
            refine g_iload_n (pc := 76) X dX12_goHour_76 rfl 3 rfl ?_
            refine g_iload_n (pc := 77) X dX12_goHour_77 rfl 1 rfl ?_
            obtain ⟨r67, hq66, hf⟩ := bnd_some hf
            refine g_callVI (pc := 78) (As := [.int v3, .int v1]) (rest := [.int v2, .ref (ad v0)]) X mi_X12_wayBy im_X12_wayBy se_X12_wayBy (KMlt hk55 (by decide)) hk55 clX12 ml_X12_267 (cX12_wayBy_ct z ad v0 v3 v1 m r67 hq66) rfl rfl (Nat.le_of_ble_eq_true rfl) ⟨rfl, rfl, by decide, by decide, Nat.le_refl _, Nat.le_refl _⟩ dX12_goHour_78 ?_
            obtain ⟨r69, hq68, hf⟩ := bnd_some hf
            refine g_callVI (pc := 81) (As := [.int v2, .int r67]) (rest := []) X mi_X12_goneTo im_X12_goneTo se_X12_goneTo (KMlt hk55 (by decide)) hk55 clX12 ml_X12_270 (cX12_goneTo_ct z ad v0 v2 r67 m r69 hq68) rfl rfl (Nat.le_of_ble_eq_true rfl) ⟨rfl, rfl, by decide, by decide, Nat.le_refl _, Nat.le_refl _⟩ dX12_goHour_81 ?_
            exact hL84 _ _ _ hf
          · have hf := itn hc hf
            refine g_iload_n (pc := 69) X dX12_goHour_69 rfl 2 rfl ?_
            refine g_goto (pc := 70) (tgt := 84) X dX12_goHour_70 (by decide) ?_
            exact hL84 _ _ _ hf
    unfold fX12_goHour_31b at hf
    refine g_iload_n (pc := 31) X dX12_goHour_31 rfl 2 rfl ?_
    refine g_sipush (v := (128 : Int32)) (pc := 32) X dX12_goHour_32 (by decide) ?_
    refine g_icmp_ge (pc := 35) (tgt := 137) X dX12_goHour_35 (by decide) (fun hc => ?_) (fun hc => ?_)
    · have hf := itp hc hf
      have he31 := he31 _ (Option.some.inj hf).symm
      subst he31
      have hf : fX12_goHour_137 v0 m = some m2 := hrest31
      refine g_lv [(0, .ref (ad v0))] [0] rfl ?_
      exact hL137 _ _ hf
    · have hf := itn hc hf
      refine g_iconst (v := (0 : Int32)) (pc := 38) X dX12_goHour_38 (by decide) ?_
      obtain ⟨v3_70, e71, hf⟩ := lt1_some hf
      refine g_topi e71 ?_
      refine g_istore_n (lv2 := [(0, .ref (ad v0)), (1, .int v1), (2, .int v2), (3, .int v3_70)]) (pc := 39) X dX12_goHour_39 rfl (by decide) [1, 2, 3, 0] rfl ?_
      exact hL40 _ _ _ hf
  have hL29 : ∀ (v0 : Nat) (v1 : Int32) (m : Mem), fX12_goHour_29 v0 v1 m = some m2 → G z wM x 5 0 0 ad 17 m 29 [(0, .ref (ad v0)), (1, .int v1)] [] := by
    intro v0 v1 m hf
    unfold fX12_goHour_29 at hf
    refine g_iconst (v := (0 : Int32)) (pc := 29) X dX12_goHour_29 (by decide) ?_
    obtain ⟨v2_72, e73, hf⟩ := lt1_some hf
    refine g_topi e73 ?_
    refine g_istore_n (lv2 := [(0, .ref (ad v0)), (1, .int v1), (2, .int v2_72)]) (pc := 30) X dX12_goHour_30 rfl (by decide) [1, 2, 0] rfl ?_
    exact hL31 _ _ _ _ hf
  have hL2 : ∀ (v0 : Nat) (v1 : Int32) (v2 : Int32) (m : Mem), fX12_goHour_2 v0 v1 v2 m = some m2 → G z wM x 5 0 0 ad 17 m 2 [(0, .ref (ad v0)), (1, .int v1), (2, .int v2)] [] := by
    intro v0 v1 v2 m hf
    unfold fX12_goHour_2 at hf
    obtain ⟨e2, hit2, hrest2⟩ := bnd_some hf
    refine iter_ok (Hd := fun (s : (Int32 × Mem)) => G z wM x 5 0 0 ad 17 s.2 2 [(0, .ref (ad v0)), (1, .int v1), (2, .int s.1)] []) ?_ FU (v2, m) hit2
    intro s ob2 hf hs2 he2
    obtain ⟨v2, m⟩ := s
    have hf : fX12_goHour_2b v0 v1 v2 m = some ob2 := hf
    unfold fX12_goHour_2b at hf
    refine g_iload_n (pc := 2) X dX12_goHour_2 rfl 2 rfl ?_
    refine g_sipush (v := (128 : Int32)) (pc := 3) X dX12_goHour_3 (by decide) ?_
    refine g_icmp_ge (pc := 6) (tgt := 29) X dX12_goHour_6 (by decide) (fun hc => ?_) (fun hc => ?_)
    · have hf := itp hc hf
      have he2 := he2 _ (Option.some.inj hf).symm
      subst he2
      have hf : fX12_goHour_29 v0 v1 m = some m2 := hrest2
      refine g_lv [(0, .ref (ad v0)), (1, .int v1)] [0, 1] rfl ?_
      exact hL29 _ _ _ hf
    · have hf := itn hc hf
      refine g_aload_n (pc := 9) X dX12_goHour_9 rfl 0 rfl ?_
      obtain ⟨hk74, hf⟩ := gp_some hf
      obtain ⟨q75, hr76, hf⟩ := bnd_some hf
      refine g_getR (pc := 10) X fl_X12_38 (KMlt hk74 (by decide)) hk74 hr76 dX12_goHour_10 ?_
      refine g_iload_n (pc := 13) X dX12_goHour_13 rfl 2 rfl ?_
      refine g_lconst (v := (0 : Int64)) (pc := 14) X dX12_goHour_14 (by decide) ?_
      obtain ⟨hk77, hf⟩ := gp_some hf
      obtain ⟨hi78, hf⟩ := gp_some hf
      refine g_last (pc := 15) X (KMlt hk77 (by decide)) hk77 hi78 dX12_goHour_15 ?_
      obtain ⟨m79, e80, hf⟩ := lt1_some hf
      refine g_mem e80 ?_
      refine g_aload_n (pc := 16) X dX12_goHour_16 rfl 0 rfl ?_
      obtain ⟨q81, hr82, hf⟩ := bnd_some hf
      refine g_getR (pc := 17) X fl_X12_41 (KMlt hk74 (by decide)) hk74 hr82 dX12_goHour_17 ?_
      refine g_iload_n (pc := 20) X dX12_goHour_20 rfl 2 rfl ?_
      refine g_lconst (v := (0 : Int64)) (pc := 21) X dX12_goHour_21 (by decide) ?_
      obtain ⟨hk83, hf⟩ := gp_some hf
      obtain ⟨hi84, hf⟩ := gp_some hf
      refine g_last (pc := 22) X (KMlt hk83 (by decide)) hk83 hi84 dX12_goHour_22 ?_
      obtain ⟨m85, e86, hf⟩ := lt1_some hf
      refine g_mem e86 ?_
      obtain ⟨v2_87, e88, hf⟩ := lt1_some hf
      refine g_iinc (v2 := v2_87) (lv2 := [(0, .ref (ad v0)), (1, .int v1), (2, .int v2_87)]) (pc := 23) X dX12_goHour_23 2 rfl (by rw [e88]; rfl) (by decide) [1, 2, 0] rfl ?_
      refine g_goto (pc := 26) (tgt := 2) X dX12_goHour_26 (by decide) ?_
      exact hs2 (v2_87, m85) (Option.some.inj hf).symm
  unfold fX12_goHour at hf
  refine g_iconst (v := (0 : Int32)) (pc := 0) X dX12_goHour_0 (by decide) ?_
  obtain ⟨v2_89, e90, hf⟩ := lt1_some hf
  refine g_topi e90 ?_
  refine g_istore_n (lv2 := [(0, .ref (ad v0)), (1, .int v1), (2, .int v2_89)]) (pc := 1) X dX12_goHour_1 rfl (by decide) [1, 2, 0] rfl ?_
  exact hL2 _ _ _ _ hf

noncomputable def fX12_goHours_8b (v0 : Nat) (v2 : Int32) (v3 : Int32) (v4 : Int32) (m : Mem) : Option ((Int32 × Mem) ⊕ (Mem)) := if v3 ≤ v4 then (some (.inr (m))) else (gp (KM v0 = 12) (bnd (fX12_goHour v0 v2 m) (fun m2 => lt1 (v4 + 1) (fun v4_4 => some (.inl (v4_4, m2))))))
noncomputable def fX12_goHours_8 (v0 : Nat) (v2 : Int32) (v3 : Int32) (v4 : Int32) (m : Mem) : Option Mem := bnd (iter (fun s => fX12_goHours_8b v0 v2 v3 s.1 s.2) FU (v4, m)) (fun e => some e)
noncomputable def fX12_goHours (v0 : Nat) (v1 : Int32) (v2 : Int32) (v3 : Int32) (m : Mem) : Option Mem := gp (KM v0 = 12) (bnd (fX12_layOne v0 v1 m) (fun m7 => lt1 ((0 : Int32)) (fun v4_9 => fX12_goHours_8 v0 v2 v3 v4_9 m7)))
set_option maxHeartbeats 4000000 in
set_option maxRecDepth 100000 in
theorem cX12_goHours_ct (z : Zx) (ad : Nat → Nat) (v0 : Nat) (v1 : Int32) (v2 : Int32) (v3 : Int32) (m m2 : Mem) (hf : fX12_goHours v0 v1 v2 v3 m = some m2) : CtV z wM yX12_goHours cX12_goHours 5 none (Rm 6) ad 17 [.ref (ad v0), .int v1, .int v2, .int v3] m m2 := by
  refine ct_ofV mi_X12_goHours rfl (Nat.le_of_ble_eq_true rfl) (fun x X hret => ?_)
  refine g_lv [(0, .ref (ad v0)), (1, .int v1), (2, .int v2), (3, .int v3)] [0, 1, 2, 3] rfl ?_
  have hL8 : ∀ (v0 : Nat) (v2 : Int32) (v3 : Int32) (v4 : Int32) (m : Mem), fX12_goHours_8 v0 v2 v3 v4 m = some m2 → G z wM x 5 0 0 ad 17 m 8 [(0, .ref (ad v0)), (2, .int v2), (3, .int v3), (4, .int v4)] [] := by
    intro v0 v2 v3 v4 m hf
    unfold fX12_goHours_8 at hf
    obtain ⟨e8, hit8, hrest8⟩ := bnd_some hf
    refine iter_ok (Hd := fun (s : (Int32 × Mem)) => G z wM x 5 0 0 ad 17 s.2 8 [(0, .ref (ad v0)), (2, .int v2), (3, .int v3), (4, .int s.1)] []) ?_ FU (v4, m) hit8
    intro s ob8 hf hs8 he8
    obtain ⟨v4, m⟩ := s
    have hf : fX12_goHours_8b v0 v2 v3 v4 m = some ob8 := hf
    unfold fX12_goHours_8b at hf
    refine g_iload (pc := 8) X dX12_goHours_8 3 rfl ?_
    refine g_iload_n (pc := 10) X dX12_goHours_10 rfl 2 rfl ?_
    refine g_icmp_ge (pc := 11) (tgt := 25) X dX12_goHours_11 (by decide) (fun hc => ?_) (fun hc => ?_)
    · have hf := itp hc hf
      have he8 := he8 _ (Option.some.inj hf).symm
      subst he8
      have hf : some m = some m2 := hrest8
      obtain rfl := Option.some.inj hf
      exact hret _ _ dX12_goHours_25
    · have hf := itn hc hf
      refine g_aload_n (pc := 14) X dX12_goHours_14 rfl 0 rfl ?_
      refine g_iload_n (pc := 15) X dX12_goHours_15 rfl 1 rfl ?_
      obtain ⟨hk3, hf⟩ := gp_some hf
      obtain ⟨m2, hq1, hf⟩ := bnd_some hf
      refine g_callVV (pc := 16) (As := [.int v2]) (rest := []) X mi_X12_goHour im_X12_goHour se_X12_goHour (KMlt hk3 (by decide)) hk3 clX12 ml_X12_299 (cX12_goHour_ct z ad v0 v2 m m2 hq1) rfl rfl (Nat.le_of_ble_eq_true rfl) ⟨rfl, rfl, by decide, by decide, Nat.le_refl _, Nat.le_refl _⟩ dX12_goHours_16 ?_
      obtain ⟨v4_4, e5, hf⟩ := lt1_some hf
      refine g_iinc (v2 := v4_4) (lv2 := [(0, .ref (ad v0)), (2, .int v2), (3, .int v3), (4, .int v4_4)]) (pc := 19) X dX12_goHours_19 3 rfl (by rw [e5]; rfl) (by decide) [1, 2, 3, 0] rfl ?_
      refine g_goto (pc := 22) (tgt := 8) X dX12_goHours_22 (by decide) ?_
      exact hs8 (v4_4, m2) (Option.some.inj hf).symm
  unfold fX12_goHours at hf
  refine g_aload_n (pc := 0) X dX12_goHours_0 rfl 0 rfl ?_
  refine g_iload_n (pc := 1) X dX12_goHours_1 rfl 1 rfl ?_
  obtain ⟨hk8, hf⟩ := gp_some hf
  obtain ⟨m7, hq6, hf⟩ := bnd_some hf
  refine g_callVV (pc := 2) (As := [.int v1]) (rest := []) X mi_X12_layOne im_X12_layOne se_X12_layOne (KMlt hk8 (by decide)) hk8 clX12 ml_X12_296 (cX12_layOne_ct z ad v0 v1 m m7 hq6) rfl rfl (Nat.le_of_ble_eq_true rfl) ⟨rfl, rfl, by decide, by decide, Nat.le_refl _, Nat.le_refl _⟩ dX12_goHours_2 ?_
  refine g_iconst (v := (0 : Int32)) (pc := 5) X dX12_goHours_5 (by decide) ?_
  obtain ⟨v4_9, e10, hf⟩ := lt1_some hf
  refine g_topi e10 ?_
  refine g_istore (lv2 := [(0, .ref (ad v0)), (1, .int v1), (2, .int v2), (3, .int v3), (4, .int v4_9)]) (pc := 6) X dX12_goHours_6 (by decide) [1, 2, 3, 4, 0] rfl ?_
  refine g_lv [(0, .ref (ad v0)), (2, .int v2), (3, .int v3), (4, .int v4_9)] [0, 2, 3, 4] rfl ?_
  exact hL8 _ _ _ _ _ hf

noncomputable def fX12_allTo_5b (v0 : Nat) (v1 : Int32) (v2 : Int64) (v4 : Int32) (m : Mem) : Option ((Int64 × Int32) ⊕ (Int64)) := if v1 ≤ v4 then (some (.inr (v2))) else (gp (KM v0 = 12) (bnd (fX12_allOdds v0 m) (fun r2 => lt1 (v2 * r2.toInt64) (fun v2_4 => lt1 (v4 + 1) (fun v4_6 => some (.inl (v2_4, v4_6)))))))
noncomputable def fX12_allTo_5 (v0 : Nat) (v1 : Int32) (v2 : Int64) (v4 : Int32) (m : Mem) : Option Int64 := bnd (iter (fun s => fX12_allTo_5b v0 v1 s.1 s.2 m) FU (v2, v4)) (fun e => some e)
noncomputable def fX12_allTo (v0 : Nat) (v1 : Int32) (m : Mem) : Option Int64 := lt1 ((1 : Int64)) (fun v2_8 => lt1 ((0 : Int32)) (fun v4_10 => fX12_allTo_5 v0 v1 v2_8 v4_10 m))
set_option maxHeartbeats 4000000 in
set_option maxRecDepth 100000 in
theorem cX12_allTo_ct (z : Zx) (ad : Nat → Nat) (v0 : Nat) (v1 : Int32) (m : Mem) (r : Int64) (hf : fX12_allTo v0 v1 m = some r) : CtL z wM yX12_allTo cX12_allTo 5 (some .long) (Rm 4) ad 17 [.ref (ad v0), .int v1] m m r := by
  refine ct_ofL mi_X12_allTo rfl (Nat.le_of_ble_eq_true rfl) (fun x X hret => ?_)
  refine g_lv [(0, .ref (ad v0)), (1, .int v1)] [0, 1] rfl ?_
  have hL5 : ∀ (v0 : Nat) (v1 : Int32) (v2 : Int64) (v4 : Int32), fX12_allTo_5 v0 v1 v2 v4 m = some r → G z wM x 5 0 0 ad 17 m 5 [(0, .ref (ad v0)), (1, .int v1), (2, .long v2), (4, .int v4)] [] := by
    intro v0 v1 v2 v4 hf
    unfold fX12_allTo_5 at hf
    obtain ⟨e5, hit5, hrest5⟩ := bnd_some hf
    refine iter_ok (Hd := fun (s : (Int64 × Int32)) => G z wM x 5 0 0 ad 17 m 5 [(0, .ref (ad v0)), (1, .int v1), (2, .long s.1), (4, .int s.2)] []) ?_ FU (v2, v4) hit5
    intro s ob5 hf hs5 he5
    obtain ⟨v2, v4⟩ := s
    have hf : fX12_allTo_5b v0 v1 v2 v4 m = some ob5 := hf
    unfold fX12_allTo_5b at hf
    refine g_iload (pc := 5) X dX12_allTo_5 3 rfl ?_
    refine g_iload_n (pc := 7) X dX12_allTo_7 rfl 1 rfl ?_
    refine g_icmp_ge (pc := 8) (tgt := 25) X dX12_allTo_8 (by decide) (fun hc => ?_) (fun hc => ?_)
    · have hf := itp hc hf
      have he5 := he5 _ (Option.some.inj hf).symm
      subst he5
      have hf : some v2 = some r := hrest5
      refine g_lload_n (pc := 25) X dX12_allTo_25 rfl 2 rfl ?_
      obtain rfl := Option.some.inj hf
      exact hret _ _ dX12_allTo_26
    · have hf := itn hc hf
      refine g_lload_n (pc := 11) X dX12_allTo_11 rfl 2 rfl ?_
      refine g_aload_n (pc := 12) X dX12_allTo_12 rfl 0 rfl ?_
      obtain ⟨hk3, hf⟩ := gp_some hf
      obtain ⟨r2, hq1, hf⟩ := bnd_some hf
      refine g_callVI (pc := 13) (As := []) (rest := [.long v2]) X mi_X12_allOdds im_X12_allOdds se_X12_allOdds (KMlt hk3 (by decide)) hk3 clX12 ml_X12_281 (cX12_allOdds_ct z ad v0 m r2 hq1) rfl rfl (Nat.le_of_ble_eq_true rfl) ⟨rfl, rfl, by decide, by decide, Nat.le_refl _, Nat.le_refl _⟩ dX12_allTo_13 ?_
      refine g_i2l (pc := 16) X dX12_allTo_16 ?_
      refine g_lmul (pc := 17) X dX12_allTo_17 ?_
      obtain ⟨v2_4, e5, hf⟩ := lt1_some hf
      refine g_topl e5 ?_
      refine g_lstore_n (lv2 := [(0, .ref (ad v0)), (1, .int v1), (2, .long v2_4), (4, .int v4)]) (pc := 18) X dX12_allTo_18 rfl (by decide) [1, 2, 0, 3] rfl ?_
      obtain ⟨v4_6, e7, hf⟩ := lt1_some hf
      refine g_iinc (v2 := v4_6) (lv2 := [(0, .ref (ad v0)), (1, .int v1), (2, .long v2_4), (4, .int v4_6)]) (pc := 19) X dX12_allTo_19 3 rfl (by rw [e7]; rfl) (by decide) [1, 2, 3, 0] rfl ?_
      refine g_goto (pc := 22) (tgt := 5) X dX12_allTo_22 (by decide) ?_
      exact hs5 (v2_4, v4_6) (Option.some.inj hf).symm
  unfold fX12_allTo at hf
  refine g_lconst (v := (1 : Int64)) (pc := 0) X dX12_allTo_0 (by decide) ?_
  obtain ⟨v2_8, e9, hf⟩ := lt1_some hf
  refine g_topl e9 ?_
  refine g_lstore_n (lv2 := [(0, .ref (ad v0)), (1, .int v1), (2, .long v2_8)]) (pc := 1) X dX12_allTo_1 rfl (by decide) [1, 2, 0] rfl ?_
  refine g_iconst (v := (0 : Int32)) (pc := 2) X dX12_allTo_2 (by decide) ?_
  obtain ⟨v4_10, e11, hf⟩ := lt1_some hf
  refine g_topi e11 ?_
  refine g_istore (lv2 := [(0, .ref (ad v0)), (1, .int v1), (2, .long v2_8), (4, .int v4_10)]) (pc := 3) X dX12_allTo_3 (by decide) [1, 2, 3, 0] rfl ?_
  exact hL5 _ _ _ _ hf

noncomputable def fX12_partOf_42 (v0 : Int64) (v2 : Int64) (v4 : Int32) (v5 : Int64) : Option Int64 := if v4 = 0 then (gp (¬ v5 = 0) (some (v0 / v5))) else (gp (¬ v5 = 0) (some (v2 / v5)))
noncomputable def fX12_partOf_17b (v0 : Int64) (v2 : Int64) (v4 : Int32) (v5 : Int64) (v7 : Int64) : Option ((Int64 × Int64) ⊕ (Int64)) := if v7 = (0 : Int64) then (some (.inr (v5))) else (gp (¬ v7 = 0) (lt1 (v5 - v5 / v7 * v7) (fun v9_4 => some (.inl (v7, v9_4)))))
noncomputable def fX12_partOf_17 (v0 : Int64) (v2 : Int64) (v4 : Int32) (v5 : Int64) (v7 : Int64) : Option Int64 := bnd (iter (fun s => fX12_partOf_17b v0 v2 v4 s.1 s.2) FU (v5, v7)) (fun e => fX12_partOf_42 v0 v2 v4 e)
noncomputable def fX12_partOf_12 (v0 : Int64) (v2 : Int64) (v4 : Int32) (s0 : Int64) : Option Int64 := fX12_partOf_17 v0 v2 v4 s0 v2
noncomputable def fX12_partOf (v0 : Int64) (v2 : Int64) (v4 : Int32) : Option Int64 := if (0 : Int64) ≤ v0 then (fX12_partOf_12 v0 v2 v4 v0) else (fX12_partOf_12 v0 v2 v4 (-v0))
set_option maxHeartbeats 4000000 in
set_option maxRecDepth 100000 in
theorem cX12_partOf_ct (z : Zx) (ad : Nat → Nat) (v0 : Int64) (v2 : Int64) (v4 : Int32) (m : Mem) (r : Int64) (hf : fX12_partOf v0 v2 v4 = some r) : CtL z wM yX12_partOf cX12_partOf 11 (some .long) (Rm 2) ad 17 [.long v0, .long v2, .int v4] m m r := by
  refine ct_ofL mi_X12_partOf rfl (Nat.le_of_ble_eq_true rfl) (fun x X hret => ?_)
  refine g_lv [(0, .long v0), (2, .long v2), (4, .int v4)] [0, 1, 2] rfl ?_
  have hL42 : ∀ (v0 : Int64) (v2 : Int64) (v4 : Int32) (v5 : Int64), fX12_partOf_42 v0 v2 v4 v5 = some r → G z wM x 11 0 0 ad 17 m 42 [(0, .long v0), (2, .long v2), (4, .int v4), (5, .long v5)] [] := by
    intro v0 v2 v4 v5 hf
    unfold fX12_partOf_42 at hf
    refine g_iload (pc := 42) X dX12_partOf_42 2 rfl ?_
    refine g_if_ne (pc := 44) (tgt := 51) X dX12_partOf_44 (by decide) (fun hc => ?_) (fun hc => ?_)
    · have hf := itn hc hf
      refine g_lload_n (pc := 51) X dX12_partOf_51 rfl 1 rfl ?_
      refine g_lload (pc := 52) X dX12_partOf_52 3 rfl ?_
      obtain ⟨hz1, hf⟩ := gp_some hf
      refine g_ldiv (pc := 54) X dX12_partOf_54 hz1 ?_
      obtain rfl := Option.some.inj hf
      exact hret _ _ dX12_partOf_55
    · have hf := itp hc hf
      refine g_lload_n (pc := 47) X dX12_partOf_47 rfl 0 rfl ?_
      refine g_goto (pc := 48) (tgt := 52) X dX12_partOf_48 (by decide) ?_
      refine g_lload (pc := 52) X dX12_partOf_52 3 rfl ?_
      obtain ⟨hz2, hf⟩ := gp_some hf
      refine g_ldiv (pc := 54) X dX12_partOf_54 hz2 ?_
      obtain rfl := Option.some.inj hf
      exact hret _ _ dX12_partOf_55
  have hL17 : ∀ (v0 : Int64) (v2 : Int64) (v4 : Int32) (v5 : Int64) (v7 : Int64), fX12_partOf_17 v0 v2 v4 v5 v7 = some r → G z wM x 11 0 0 ad 17 m 17 [(0, .long v0), (2, .long v2), (4, .int v4), (5, .long v5), (7, .long v7)] [] := by
    intro v0 v2 v4 v5 v7 hf
    unfold fX12_partOf_17 at hf
    obtain ⟨e17, hit17, hrest17⟩ := bnd_some hf
    refine iter_ok (Hd := fun (s : (Int64 × Int64)) => G z wM x 11 0 0 ad 17 m 17 [(0, .long v0), (2, .long v2), (4, .int v4), (5, .long s.1), (7, .long s.2)] []) ?_ FU (v5, v7) hit17
    intro s ob17 hf hs17 he17
    obtain ⟨v5, v7⟩ := s
    have hf : fX12_partOf_17b v0 v2 v4 v5 v7 = some ob17 := hf
    unfold fX12_partOf_17b at hf
    refine g_lload (pc := 17) X dX12_partOf_17 4 rfl ?_
    refine g_lconst (v := (0 : Int64)) (pc := 19) X dX12_partOf_19 (by decide) ?_
    refine g_lcmp_eq (pc := 20) (tgt := 42) X dX12_partOf_20 dX12_partOf_21 (by decide) (fun hc => ?_) (fun hc => ?_)
    · have hf := itp hc hf
      have he17 := he17 _ (Option.some.inj hf).symm
      subst he17
      have hf : fX12_partOf_42 v0 v2 v4 v5 = some r := hrest17
      refine g_lv [(0, .long v0), (2, .long v2), (4, .int v4), (5, .long v5)] [0, 1, 2, 3] rfl ?_
      exact hL42 _ _ _ _ hf
    · have hf := itn hc hf
      refine g_lload (pc := 24) X dX12_partOf_24 3 rfl ?_
      refine g_lload (pc := 26) X dX12_partOf_26 4 rfl ?_
      obtain ⟨hz3, hf⟩ := gp_some hf
      refine g_lrem (pc := 28) X dX12_partOf_28 hz3 ?_
      obtain ⟨v9_4, e5, hf⟩ := lt1_some hf
      refine g_topl e5 ?_
      refine g_lstore (lv2 := [(0, .long v0), (2, .long v2), (4, .int v4), (5, .long v5), (7, .long v7), (9, .long v9_4)]) (pc := 29) X dX12_partOf_29 (by decide) [1, 2, 3, 4, 5, 0] rfl ?_
      refine g_lload (pc := 31) X dX12_partOf_31 4 rfl ?_
      refine g_lstore (lv2 := [(0, .long v0), (2, .long v2), (4, .int v4), (5, .long v7), (7, .long v7), (9, .long v9_4)]) (pc := 33) X dX12_partOf_33 (by decide) [1, 2, 3, 0, 4, 5] rfl ?_
      refine g_lload (pc := 35) X dX12_partOf_35 5 rfl ?_
      refine g_lstore (lv2 := [(0, .long v0), (2, .long v2), (4, .int v4), (5, .long v7), (7, .long v9_4), (9, .long v9_4)]) (pc := 37) X dX12_partOf_37 (by decide) [1, 2, 3, 4, 0, 5] rfl ?_
      refine g_goto (pc := 39) (tgt := 17) X dX12_partOf_39 (by decide) ?_
      refine g_lv [(0, .long v0), (2, .long v2), (4, .int v4), (5, .long v7), (7, .long v9_4)] [0, 1, 2, 3, 4] rfl ?_
      exact hs17 (v7, v9_4) (Option.some.inj hf).symm
  have hL12 : ∀ (v0 : Int64) (v2 : Int64) (v4 : Int32) (s0 : Int64), fX12_partOf_12 v0 v2 v4 s0 = some r → G z wM x 11 0 0 ad 17 m 12 [(0, .long v0), (2, .long v2), (4, .int v4)] [.long s0] := by
    intro v0 v2 v4 s0 hf
    unfold fX12_partOf_12 at hf
    refine g_lstore (lv2 := [(0, .long v0), (2, .long v2), (4, .int v4), (5, .long s0)]) (pc := 12) X dX12_partOf_12 (by decide) [1, 2, 3, 0] rfl ?_
    refine g_lload_n (pc := 14) X dX12_partOf_14 rfl 1 rfl ?_
    refine g_lstore (lv2 := [(0, .long v0), (2, .long v2), (4, .int v4), (5, .long s0), (7, .long v2)]) (pc := 15) X dX12_partOf_15 (by decide) [1, 2, 3, 4, 0] rfl ?_
    exact hL17 _ _ _ _ _ hf
  unfold fX12_partOf at hf
  refine g_lload_n (pc := 0) X dX12_partOf_0 rfl 0 rfl ?_
  refine g_lconst (v := (0 : Int64)) (pc := 1) X dX12_partOf_1 (by decide) ?_
  refine g_lcmp_ge (pc := 2) (tgt := 11) X dX12_partOf_2 dX12_partOf_3 (by decide) (fun hc => ?_) (fun hc => ?_)
  · have hf := itp hc hf
    refine g_lload_n (pc := 11) X dX12_partOf_11 rfl 0 rfl ?_
    exact hL12 _ _ _ _ hf
  · have hf := itn hc hf
    refine g_lload_n (pc := 6) X dX12_partOf_6 rfl 0 rfl ?_
    refine g_lneg (pc := 7) X dX12_partOf_7 ?_
    refine g_goto (pc := 8) (tgt := 12) X dX12_partOf_8 (by decide) ?_
    exact hL12 _ _ _ _ hf

noncomputable def fX12_herself (v0 : Nat) (v1 : Int32) (v2 : Int32) (v3 : Int32) (v4 : Int32) (v5 : Int32) (m : Mem) : Option (Int64 × Mem) := gp (KM v0 = 12) (lt1 (uI m v0 0 (0 : Int32)) (fun m2 => bnd (fX12_isOpen v0 v1 m2) (fun r5 => if r5 = 0 then (some ((-9000000000000000001 : Int64), m2)) else (bnd (fX12_isAny v0 v2 m2) (fun r7 => if r7 = 0 then (some ((-9000000000000000001 : Int64), m2)) else (bnd (fX12_isHead v3) (fun r9 => if r9 = 0 then (some ((-9000000000000000001 : Int64), m2)) else (bnd (fX12_in v4.toInt64 (0 : Int64) (8 : Int64)) (fun r11 => if r11 = 0 then (some ((-9000000000000000001 : Int64), m2)) else (bnd (fX12_in v5.toInt64 (0 : Int64) (2 : Int64)) (fun r13 => if r13 = 0 then (some ((-9000000000000000001 : Int64), m2)) else (bnd (fX12_goHours v0 v1 v3 v4 m2) (fun m15 => if v5 = (2 : Int32) then (bnd (m15.2.2 v0 20) (fun q24 => gp (KM q24 = 15) (gp (inb v2 (NM q24) = true) (some (m15.2.1 q24 v2.toNatClampNeg, m15))))) else (bnd (m15.2.2 v0 19) (fun q16 => gp (KM q16 = 15) (gp (inb v2 (NM q16) = true) (bnd (fX12_allTo v0 v4 m15) (fun r21 => bnd (fX12_partOf (m15.2.1 q16 v2.toNatClampNeg) r21 v5) (fun r23 => some (r23, m15))))))))))))))))))))
set_option maxHeartbeats 4000000 in
set_option maxRecDepth 100000 in
theorem cX12_herself_ct (z : Zx) (ad : Nat → Nat) (v0 : Nat) (v1 : Int32) (v2 : Int32) (v3 : Int32) (v4 : Int32) (v5 : Int32) (m m2 : Mem) (r : Int64) (hf : fX12_herself v0 v1 v2 v3 v4 v5 m = some (r, m2)) : CtL z wM yX12_herself cX12_herself 6 (some .long) (Rm 7) ad 17 [.ref (ad v0), .int v1, .int v2, .int v3, .int v4, .int v5] m m2 r := by
  refine ct_ofL mi_X12_herself rfl (Nat.le_of_ble_eq_true rfl) (fun x X hret => ?_)
  refine g_lv [(0, .ref (ad v0)), (1, .int v1), (2, .int v2), (3, .int v3), (4, .int v4), (5, .int v5)] [0, 1, 2, 3, 4, 5] rfl ?_
  unfold fX12_herself at hf
  refine g_aload_n (pc := 0) X dX12_herself_0 rfl 0 rfl ?_
  refine g_iconst (v := (0 : Int32)) (pc := 1) X dX12_herself_1 (by decide) ?_
  obtain ⟨hk1, hf⟩ := gp_some hf
  refine g_putI (pc := 2) X fl_X12_60 (KMlt hk1 (by decide)) hk1 rfl rfl dX12_herself_2 ?_
  obtain ⟨m2, e3, hf⟩ := lt1_some hf
  refine g_mem e3 ?_
  refine g_aload_n (pc := 5) X dX12_herself_5 rfl 0 rfl ?_
  refine g_iload_n (pc := 6) X dX12_herself_6 rfl 1 rfl ?_
  obtain ⟨r5, hq4, hf⟩ := bnd_some hf
  refine g_callVI (pc := 7) (As := [.int v1]) (rest := []) X mi_X12_isOpen im_X12_isOpen se_X12_isOpen (KMlt hk1 (by decide)) hk1 clX12 ml_X12_302 (cX12_isOpen_ct z ad v0 v1 m2 r5 hq4) rfl rfl (Nat.le_of_ble_eq_true rfl) ⟨rfl, rfl, by decide, by decide, Nat.le_refl _, Nat.le_refl _⟩ dX12_herself_7 ?_
  refine g_if_eq (pc := 10) (tgt := 54) X dX12_herself_10 (by decide) (fun hc => ?_) (fun hc => ?_)
  · have hf := itp hc hf
    refine g_ldc2 (pc := 54) X dX12_herself_54 kl_X12_81 ?_
    obtain ⟨rfl, rfl⟩ := som2 hf
    exact hret _ _ dX12_herself_57
  · have hf := itn hc hf
    refine g_aload_n (pc := 13) X dX12_herself_13 rfl 0 rfl ?_
    refine g_iload_n (pc := 14) X dX12_herself_14 rfl 2 rfl ?_
    obtain ⟨r7, hq6, hf⟩ := bnd_some hf
    refine g_callVI (pc := 15) (As := [.int v2]) (rest := []) X mi_X12_isAny im_X12_isAny se_X12_isAny (KMlt hk1 (by decide)) hk1 clX12 ml_X12_249 (cX12_isAny_ct z ad v0 v2 m2 r7 hq6) rfl rfl (Nat.le_of_ble_eq_true rfl) ⟨rfl, rfl, by decide, by decide, Nat.le_refl _, Nat.le_refl _⟩ dX12_herself_15 ?_
    refine g_if_eq (pc := 18) (tgt := 54) X dX12_herself_18 (by decide) (fun hc => ?_) (fun hc => ?_)
    · have hf := itp hc hf
      refine g_ldc2 (pc := 54) X dX12_herself_54 kl_X12_81 ?_
      obtain ⟨rfl, rfl⟩ := som2 hf
      exact hret _ _ dX12_herself_57
    · have hf := itn hc hf
      refine g_iload_n (pc := 21) X dX12_herself_21 rfl 3 rfl ?_
      obtain ⟨r9, hq8, hf⟩ := bnd_some hf
      refine g_callSI (pc := 22) (As := [.int v3]) (rest := []) X mi_X12_isHead sm_X12_isHead ml_X12_264 (cX12_isHead_ct z ad v3 m2 r9 hq8) rfl rfl (Nat.le_of_ble_eq_true rfl) ⟨rfl, rfl, by decide, by decide, Nat.le_refl _, Nat.le_refl _⟩ dX12_herself_22 ?_
      refine g_if_eq (pc := 25) (tgt := 54) X dX12_herself_25 (by decide) (fun hc => ?_) (fun hc => ?_)
      · have hf := itp hc hf
        refine g_ldc2 (pc := 54) X dX12_herself_54 kl_X12_81 ?_
        obtain ⟨rfl, rfl⟩ := som2 hf
        exact hret _ _ dX12_herself_57
      · have hf := itn hc hf
        refine g_iload (pc := 28) X dX12_herself_28 4 rfl ?_
        refine g_i2l (pc := 30) X dX12_herself_30 ?_
        refine g_lconst (v := (0 : Int64)) (pc := 31) X dX12_herself_31 (by decide) ?_
        refine g_ldc2 (pc := 32) X dX12_herself_32 kl_X12_87 ?_
        obtain ⟨r11, hq10, hf⟩ := bnd_some hf
        refine g_callSI (pc := 35) (As := [.long v4.toInt64, .long (0 : Int64), .long (8 : Int64)]) (rest := []) X mi_X12_in sm_X12_in ml_X12_71 (cX12_in_ct z ad v4.toInt64 (0 : Int64) (8 : Int64) m2 r11 hq10) rfl rfl (Nat.le_of_ble_eq_true rfl) ⟨rfl, rfl, by decide, by decide, Nat.le_refl _, Nat.le_refl _⟩ dX12_herself_35 ?_
        refine g_if_eq (pc := 38) (tgt := 54) X dX12_herself_38 (by decide) (fun hc => ?_) (fun hc => ?_)
        · have hf := itp hc hf
          refine g_ldc2 (pc := 54) X dX12_herself_54 kl_X12_81 ?_
          obtain ⟨rfl, rfl⟩ := som2 hf
          exact hret _ _ dX12_herself_57
        · have hf := itn hc hf
          refine g_iload (pc := 41) X dX12_herself_41 5 rfl ?_
          refine g_i2l (pc := 43) X dX12_herself_43 ?_
          refine g_lconst (v := (0 : Int64)) (pc := 44) X dX12_herself_44 (by decide) ?_
          refine g_ldc2 (pc := 45) X dX12_herself_45 kl_X12_79 ?_
          obtain ⟨r13, hq12, hf⟩ := bnd_some hf
          refine g_callSI (pc := 48) (As := [.long v5.toInt64, .long (0 : Int64), .long (2 : Int64)]) (rest := []) X mi_X12_in sm_X12_in ml_X12_71 (cX12_in_ct z ad v5.toInt64 (0 : Int64) (2 : Int64) m2 r13 hq12) rfl rfl (Nat.le_of_ble_eq_true rfl) ⟨rfl, rfl, by decide, by decide, Nat.le_refl _, Nat.le_refl _⟩ dX12_herself_48 ?_
          refine g_if_ne (pc := 51) (tgt := 58) X dX12_herself_51 (by decide) (fun hc => ?_) (fun hc => ?_)
          · have hf := itn hc hf
            refine g_aload_n (pc := 58) X dX12_herself_58 rfl 0 rfl ?_
            refine g_iload_n (pc := 59) X dX12_herself_59 rfl 1 rfl ?_
            refine g_iload_n (pc := 60) X dX12_herself_60 rfl 3 rfl ?_
            refine g_iload (pc := 61) X dX12_herself_61 4 rfl ?_
            obtain ⟨m15, hq14, hf⟩ := bnd_some hf
            refine g_callVV (pc := 63) (As := [.int v1, .int v3, .int v4]) (rest := []) X mi_X12_goHours im_X12_goHours se_X12_goHours (KMlt hk1 (by decide)) hk1 clX12 ml_X12_305 (cX12_goHours_ct z ad v0 v1 v3 v4 m2 m15 hq14) rfl rfl (Nat.le_of_ble_eq_true rfl) ⟨rfl, rfl, by decide, by decide, Nat.le_refl _, Nat.le_refl _⟩ dX12_herself_63 ?_
            refine g_iload (pc := 66) X dX12_herself_66 5 rfl ?_
            refine g_iconst (v := (2 : Int32)) (pc := 68) X dX12_herself_68 (by decide) ?_
            refine g_icmp_ne (pc := 69) (tgt := 81) X dX12_herself_69 (by decide) (fun hc => ?_) (fun hc => ?_)
            · have hf := itn hc hf
              refine g_aload_n (pc := 81) X dX12_herself_81 rfl 0 rfl ?_
              obtain ⟨q16, hr17, hf⟩ := bnd_some hf
              refine g_getR (pc := 82) X fl_X12_31 (KMlt hk1 (by decide)) hk1 hr17 dX12_herself_82 ?_
              refine g_iload_n (pc := 85) X dX12_herself_85 rfl 2 rfl ?_
              obtain ⟨hk18, hf⟩ := gp_some hf
              obtain ⟨hi19, hf⟩ := gp_some hf
              refine g_lald (pc := 86) X (KMlt hk18 (by decide)) hk18 hi19 dX12_herself_86 ?_
              refine g_aload_n (pc := 87) X dX12_herself_87 rfl 0 rfl ?_
              refine g_iload (pc := 88) X dX12_herself_88 4 rfl ?_
              obtain ⟨r21, hq20, hf⟩ := bnd_some hf
              refine g_callVL (pc := 90) (As := [.int v4]) (rest := [.long (m15.2.1 q16 v2.toNatClampNeg)]) X mi_X12_allTo im_X12_allTo se_X12_allTo (KMlt hk1 (by decide)) hk1 clX12 ml_X12_309 (cX12_allTo_ct z ad v0 v4 m15 r21 hq20) rfl rfl (Nat.le_of_ble_eq_true rfl) ⟨rfl, rfl, by decide, by decide, Nat.le_refl _, Nat.le_refl _⟩ dX12_herself_90 ?_
              refine g_iload (pc := 93) X dX12_herself_93 5 rfl ?_
              obtain ⟨r23, hq22, hf⟩ := bnd_some hf
              refine g_callSL (pc := 95) (As := [.long (m15.2.1 q16 v2.toNatClampNeg), .long r21, .int v5]) (rest := []) X mi_X12_partOf sm_X12_partOf ml_X12_312 (cX12_partOf_ct z ad (m15.2.1 q16 v2.toNatClampNeg) r21 v5 m15 r23 hq22) rfl rfl (Nat.le_of_ble_eq_true rfl) ⟨rfl, rfl, by decide, by decide, Nat.le_refl _, Nat.le_refl _⟩ dX12_herself_95 ?_
              obtain ⟨rfl, rfl⟩ := som2 hf
              exact hret _ _ dX12_herself_98
            · have hf := itp hc hf
              refine g_aload_n (pc := 72) X dX12_herself_72 rfl 0 rfl ?_
              obtain ⟨q24, hr25, hf⟩ := bnd_some hf
              refine g_getR (pc := 73) X fl_X12_35 (KMlt hk1 (by decide)) hk1 hr25 dX12_herself_73 ?_
              refine g_iload_n (pc := 76) X dX12_herself_76 rfl 2 rfl ?_
              obtain ⟨hk26, hf⟩ := gp_some hf
              obtain ⟨hi27, hf⟩ := gp_some hf
              refine g_lald (pc := 77) X (KMlt hk26 (by decide)) hk26 hi27 dX12_herself_77 ?_
              refine g_goto (pc := 78) (tgt := 98) X dX12_herself_78 (by decide) ?_
              obtain ⟨rfl, rfl⟩ := som2 hf
              exact hret _ _ dX12_herself_98
          · have hf := itp hc hf
            refine g_ldc2 (pc := 54) X dX12_herself_54 kl_X12_81 ?_
            obtain ⟨rfl, rfl⟩ := som2 hf
            exact hret _ _ dX12_herself_57

noncomputable def fX12_could_62 (v0 : Nat) (v2 : Int32) (v4 : Int32) (s0 : Int32) (s1 : Int32) (m : Mem) : Option ((Int32 × Int32 × Mem) ⊕ (Int32 × Mem)) := lt1 (s0 ||| s1) (fun v3_1 => gp (KM v0 = 12) (bnd (m.2.2 v0 8) (fun q4 => gp (KM q4 = 14) (gp (inb (7 : Int32) (NM q4) = true) (bnd (fX12_goHour v0 (m.1 q4 (7 : Int32).toNatClampNeg) m) (fun m9 => lt1 (v4 + 1) (fun v4_10 => some (.inl (v3_1, v4_10, m9)))))))))
noncomputable def fX12_could_35b (v0 : Nat) (v2 : Int32) (v3 : Int32) (v4 : Int32) (m : Mem) : Option ((Int32 × Int32 × Mem) ⊕ (Int32 × Mem)) := if (9 : Int32) ≤ v4 then (some (.inr (v3, m))) else (gp (KM v0 = 12) (bnd (m.2.2 v0 20) (fun q13 => gp (KM q13 = 15) (gp (inb v2 (NM q13) = true) (if (m.2.1 q13 v2.toNatClampNeg) ≤ (0 : Int64) then (fX12_could_62 v0 v2 v4 v3 (0 : Int32) m) else (fX12_could_62 v0 v2 v4 v3 ((1 : Int32) <<< (v4 &&& 31)) m))))))
noncomputable def fX12_could_35 (v0 : Nat) (v2 : Int32) (v3 : Int32) (v4 : Int32) (m : Mem) : Option (Int64 × Mem) := bnd (iter (fun s => fX12_could_35b v0 v2 s.1 s.2.1 s.2.2) FU (v3, v4, m)) (fun e => some (e.1.toInt64, e.2))
noncomputable def fX12_could (v0 : Nat) (v1 : Int32) (v2 : Int32) (m : Mem) : Option (Int64 × Mem) := gp (KM v0 = 12) (lt1 (uI m v0 0 (0 : Int32)) (fun m18 => bnd (fX12_isOpen v0 v1 m18) (fun r21 => if r21 = 0 then (some ((-9000000000000000001 : Int64), m18)) else (bnd (fX12_isAny v0 v2 m18) (fun r23 => if r23 = 0 then (some ((-9000000000000000001 : Int64), m18)) else (lt1 ((0 : Int32)) (fun v3_24 => bnd (fX12_layOne v0 v1 m18) (fun m27 => lt1 ((0 : Int32)) (fun v4_28 => fX12_could_35 v0 v2 v3_24 v4_28 m27)))))))))
set_option maxHeartbeats 4000000 in
set_option maxRecDepth 100000 in
theorem cX12_could_ct (z : Zx) (ad : Nat → Nat) (v0 : Nat) (v1 : Int32) (v2 : Int32) (m m2 : Mem) (r : Int64) (hf : fX12_could v0 v1 v2 m = some (r, m2)) : CtL z wM yX12_could cX12_could 5 (some .long) (Rm 6) ad 17 [.ref (ad v0), .int v1, .int v2] m m2 r := by
  refine ct_ofL mi_X12_could rfl (Nat.le_of_ble_eq_true rfl) (fun x X hret => ?_)
  refine g_lv [(0, .ref (ad v0)), (1, .int v1), (2, .int v2)] [0, 1, 2] rfl ?_
  have hL35 : ∀ (v0 : Nat) (v2 : Int32) (v3 : Int32) (v4 : Int32) (m : Mem), fX12_could_35 v0 v2 v3 v4 m = some (r, m2) → G z wM x 5 0 0 ad 17 m 35 [(0, .ref (ad v0)), (2, .int v2), (3, .int v3), (4, .int v4)] [] := by
    intro v0 v2 v3 v4 m hf
    unfold fX12_could_35 at hf
    obtain ⟨e35, hit35, hrest35⟩ := bnd_some hf
    refine iter_ok (Hd := fun (s : (Int32 × Int32 × Mem)) => G z wM x 5 0 0 ad 17 s.2.2 35 [(0, .ref (ad v0)), (2, .int v2), (3, .int s.1), (4, .int s.2.1)] []) ?_ FU (v3, v4, m) hit35
    intro s ob35 hf hs35 he35
    obtain ⟨v3, v4, m⟩ := s
    have hf : fX12_could_35b v0 v2 v3 v4 m = some ob35 := hf
    have hL62 : ∀ (v4 : Int32) (s0 : Int32) (s1 : Int32) (m : Mem), fX12_could_62 v0 v2 v4 s0 s1 m = some ob35 → G z wM x 5 0 0 ad 17 m 62 [(0, .ref (ad v0)), (2, .int v2), (4, .int v4)] [.int s1, .int s0] := by
      intro v4 s0 s1 m hf
      unfold fX12_could_62 at hf
      refine g_ior (pc := 62) X dX12_could_62 ?_
      obtain ⟨v3_1, e2, hf⟩ := lt1_some hf
      refine g_topi e2 ?_
      refine g_istore_n (lv2 := [(0, .ref (ad v0)), (2, .int v2), (3, .int v3_1), (4, .int v4)]) (pc := 63) X dX12_could_63 rfl (by decide) [1, 2, 0, 3] rfl ?_
      refine g_aload_n (pc := 64) X dX12_could_64 rfl 0 rfl ?_
      refine g_aload_n (pc := 65) X dX12_could_65 rfl 0 rfl ?_
      obtain ⟨hk3, hf⟩ := gp_some hf
      obtain ⟨q4, hr5, hf⟩ := bnd_some hf
      refine g_getR (pc := 66) X fl_X12_25 (KMlt hk3 (by decide)) hk3 hr5 dX12_could_66 ?_
      refine g_bipush (v := (7 : Int32)) (pc := 69) X dX12_could_69 (by decide) ?_
      obtain ⟨hk6, hf⟩ := gp_some hf
      obtain ⟨hi7, hf⟩ := gp_some hf
      refine g_iald (pc := 71) X (KMlt hk6 (by decide)) hk6 hi7 dX12_could_71 ?_
      obtain ⟨m9, hq8, hf⟩ := bnd_some hf
      refine g_callVV (pc := 72) (As := [.int (m.1 q4 (7 : Int32).toNatClampNeg)]) (rest := []) X mi_X12_goHour im_X12_goHour se_X12_goHour (KMlt hk3 (by decide)) hk3 clX12 ml_X12_299 (cX12_goHour_ct z ad v0 (m.1 q4 (7 : Int32).toNatClampNeg) m m9 hq8) rfl rfl (Nat.le_of_ble_eq_true rfl) ⟨rfl, rfl, by decide, by decide, Nat.le_refl _, Nat.le_refl _⟩ dX12_could_72 ?_
      obtain ⟨v4_10, e11, hf⟩ := lt1_some hf
      refine g_iinc (v2 := v4_10) (lv2 := [(0, .ref (ad v0)), (2, .int v2), (3, .int v3_1), (4, .int v4_10)]) (pc := 75) X dX12_could_75 3 rfl (by rw [e11]; rfl) (by decide) [1, 2, 3, 0] rfl ?_
      refine g_goto (pc := 78) (tgt := 35) X dX12_could_78 (by decide) ?_
      exact hs35 (v3_1, v4_10, m9) (Option.some.inj hf).symm
    unfold fX12_could_35b at hf
    refine g_iload (pc := 35) X dX12_could_35 3 rfl ?_
    refine g_bipush (v := (9 : Int32)) (pc := 37) X dX12_could_37 (by decide) ?_
    refine g_icmp_ge (pc := 39) (tgt := 81) X dX12_could_39 (by decide) (fun hc => ?_) (fun hc => ?_)
    · have hf := itp hc hf
      have he35 := he35 _ (Option.some.inj hf).symm
      subst he35
      have hf : some (v3.toInt64, m) = some (r, m2) := hrest35
      refine g_iload_n (pc := 81) X dX12_could_81 rfl 2 rfl ?_
      refine g_i2l (pc := 82) X dX12_could_82 ?_
      obtain ⟨rfl, rfl⟩ := som2 hf
      exact hret _ _ dX12_could_83
    · have hf := itn hc hf
      refine g_iload_n (pc := 42) X dX12_could_42 rfl 2 rfl ?_
      refine g_aload_n (pc := 43) X dX12_could_43 rfl 0 rfl ?_
      obtain ⟨hk12, hf⟩ := gp_some hf
      obtain ⟨q13, hr14, hf⟩ := bnd_some hf
      refine g_getR (pc := 44) X fl_X12_35 (KMlt hk12 (by decide)) hk12 hr14 dX12_could_44 ?_
      refine g_iload_n (pc := 47) X dX12_could_47 rfl 1 rfl ?_
      obtain ⟨hk15, hf⟩ := gp_some hf
      obtain ⟨hi16, hf⟩ := gp_some hf
      refine g_lald (pc := 48) X (KMlt hk15 (by decide)) hk15 hi16 dX12_could_48 ?_
      refine g_lconst (v := (0 : Int64)) (pc := 49) X dX12_could_49 (by decide) ?_
      refine g_lcmp_le (pc := 50) (tgt := 61) X dX12_could_50 dX12_could_51 (by decide) (fun hc => ?_) (fun hc => ?_)
      · have hf := itp hc hf
        refine g_iconst (v := (0 : Int32)) (pc := 61) X dX12_could_61 (by decide) ?_
        refine g_lv [(0, .ref (ad v0)), (2, .int v2), (4, .int v4)] [0, 1, 3] rfl ?_
        exact hL62 _ _ _ _ hf
      · have hf := itn hc hf
        refine g_iconst (v := (1 : Int32)) (pc := 54) X dX12_could_54 (by decide) ?_
        refine g_iload (pc := 55) X dX12_could_55 3 rfl ?_
        refine g_ishl (pc := 57) X dX12_could_57 ?_
        refine g_goto (pc := 58) (tgt := 62) X dX12_could_58 (by decide) ?_
        refine g_lv [(0, .ref (ad v0)), (2, .int v2), (4, .int v4)] [0, 1, 3] rfl ?_
        exact hL62 _ _ _ _ hf
  unfold fX12_could at hf
  refine g_aload_n (pc := 0) X dX12_could_0 rfl 0 rfl ?_
  refine g_iconst (v := (0 : Int32)) (pc := 1) X dX12_could_1 (by decide) ?_
  obtain ⟨hk17, hf⟩ := gp_some hf
  refine g_putI (pc := 2) X fl_X12_60 (KMlt hk17 (by decide)) hk17 rfl rfl dX12_could_2 ?_
  obtain ⟨m18, e19, hf⟩ := lt1_some hf
  refine g_mem e19 ?_
  refine g_aload_n (pc := 5) X dX12_could_5 rfl 0 rfl ?_
  refine g_iload_n (pc := 6) X dX12_could_6 rfl 1 rfl ?_
  obtain ⟨r21, hq20, hf⟩ := bnd_some hf
  refine g_callVI (pc := 7) (As := [.int v1]) (rest := []) X mi_X12_isOpen im_X12_isOpen se_X12_isOpen (KMlt hk17 (by decide)) hk17 clX12 ml_X12_302 (cX12_isOpen_ct z ad v0 v1 m18 r21 hq20) rfl rfl (Nat.le_of_ble_eq_true rfl) ⟨rfl, rfl, by decide, by decide, Nat.le_refl _, Nat.le_refl _⟩ dX12_could_7 ?_
  refine g_if_eq (pc := 10) (tgt := 21) X dX12_could_10 (by decide) (fun hc => ?_) (fun hc => ?_)
  · have hf := itp hc hf
    refine g_ldc2 (pc := 21) X dX12_could_21 kl_X12_81 ?_
    obtain ⟨rfl, rfl⟩ := som2 hf
    exact hret _ _ dX12_could_24
  · have hf := itn hc hf
    refine g_aload_n (pc := 13) X dX12_could_13 rfl 0 rfl ?_
    refine g_iload_n (pc := 14) X dX12_could_14 rfl 2 rfl ?_
    obtain ⟨r23, hq22, hf⟩ := bnd_some hf
    refine g_callVI (pc := 15) (As := [.int v2]) (rest := []) X mi_X12_isAny im_X12_isAny se_X12_isAny (KMlt hk17 (by decide)) hk17 clX12 ml_X12_249 (cX12_isAny_ct z ad v0 v2 m18 r23 hq22) rfl rfl (Nat.le_of_ble_eq_true rfl) ⟨rfl, rfl, by decide, by decide, Nat.le_refl _, Nat.le_refl _⟩ dX12_could_15 ?_
    refine g_if_ne (pc := 18) (tgt := 25) X dX12_could_18 (by decide) (fun hc => ?_) (fun hc => ?_)
    · have hf := itn hc hf
      refine g_iconst (v := (0 : Int32)) (pc := 25) X dX12_could_25 (by decide) ?_
      obtain ⟨v3_24, e25, hf⟩ := lt1_some hf
      refine g_topi e25 ?_
      refine g_istore_n (lv2 := [(0, .ref (ad v0)), (1, .int v1), (2, .int v2), (3, .int v3_24)]) (pc := 26) X dX12_could_26 rfl (by decide) [1, 2, 3, 0] rfl ?_
      refine g_aload_n (pc := 27) X dX12_could_27 rfl 0 rfl ?_
      refine g_iload_n (pc := 28) X dX12_could_28 rfl 1 rfl ?_
      obtain ⟨m27, hq26, hf⟩ := bnd_some hf
      refine g_callVV (pc := 29) (As := [.int v1]) (rest := []) X mi_X12_layOne im_X12_layOne se_X12_layOne (KMlt hk17 (by decide)) hk17 clX12 ml_X12_296 (cX12_layOne_ct z ad v0 v1 m18 m27 hq26) rfl rfl (Nat.le_of_ble_eq_true rfl) ⟨rfl, rfl, by decide, by decide, Nat.le_refl _, Nat.le_refl _⟩ dX12_could_29 ?_
      refine g_iconst (v := (0 : Int32)) (pc := 32) X dX12_could_32 (by decide) ?_
      obtain ⟨v4_28, e29, hf⟩ := lt1_some hf
      refine g_topi e29 ?_
      refine g_istore (lv2 := [(0, .ref (ad v0)), (1, .int v1), (2, .int v2), (3, .int v3_24), (4, .int v4_28)]) (pc := 33) X dX12_could_33 (by decide) [1, 2, 3, 4, 0] rfl ?_
      refine g_lv [(0, .ref (ad v0)), (2, .int v2), (3, .int v3_24), (4, .int v4_28)] [0, 2, 3, 4] rfl ?_
      exact hL35 _ _ _ _ _ hf
    · have hf := itp hc hf
      refine g_ldc2 (pc := 21) X dX12_could_21 kl_X12_81 ?_
      obtain ⟨rfl, rfl⟩ := som2 hf
      exact hret _ _ dX12_could_24

noncomputable def fX12_findBrings_56 (v0 : Nat) (v1 : Int32) (v3 : Int32) (v4 : Int32) (s0 : Nat) (s1 : Int32) (s2 : Int64) (m : Mem) : Option ((Int32 × Mem) ⊕ (Mem)) := gp (KM s0 = 15) (gp (inb s1 (NM s0) = true) (lt1 (uJ m s0 s1.toNatClampNeg s2) (fun m3 => gp (KM v0 = 12) (bnd (m3.2.2 v0 23) (fun q6 => gp (KM q6 = 15) (gp (inb v4 (NM q6) = true) (lt1 (uJ m3 v0 24 ((m3.2.1 v0 24) + (m3.2.1 q6 v4.toNatClampNeg))) (fun m10 => bnd (m10.2.2 v0 8) (fun q12 => gp (KM q12 = 14) (gp (inb (7 : Int32) (NM q12) = true) (bnd (fX12_goHour v0 (m10.1 q12 (7 : Int32).toNatClampNeg) m10) (fun m17 => lt1 (v4 + 1) (fun v4_18 => some (.inl (v4_18, m17)))))))))))))))
noncomputable def fX12_findBrings_13b (v0 : Nat) (v1 : Int32) (v3 : Int32) (v4 : Int32) (m : Mem) : Option ((Int32 × Mem) ⊕ (Mem)) := if (9 : Int32) ≤ v4 then (some (.inr (m))) else (gp (KM v0 = 12) (bnd (m.2.2 v0 23) (fun q21 => if ((v1 >>> (v4 &&& 31)) &&& (1 : Int32)) = (1 : Int32) then (bnd (m.2.2 v0 19) (fun q23 => gp (KM q23 = 15) (gp (inb v3 (NM q23) = true) (bnd (fX12_allTo v0 ((8 : Int32) - v4) m) (fun r28 => fX12_findBrings_56 v0 v1 v3 v4 q21 v4 ((m.2.1 q23 v3.toNatClampNeg) * r28) m))))) else (fX12_findBrings_56 v0 v1 v3 v4 q21 v4 (0 : Int64) m))))
noncomputable def fX12_findBrings_13 (v0 : Nat) (v1 : Int32) (v3 : Int32) (v4 : Int32) (m : Mem) : Option Mem := bnd (iter (fun s => fX12_findBrings_13b v0 v1 v3 s.1 s.2) FU (v4, m)) (fun e => some e)
noncomputable def fX12_findBrings (v0 : Nat) (v1 : Int32) (v2 : Int32) (v3 : Int32) (m : Mem) : Option Mem := gp (KM v0 = 12) (lt1 (uJ m v0 24 (0 : Int64)) (fun m30 => bnd (fX12_layOne v0 v2 m30) (fun m33 => lt1 ((0 : Int32)) (fun v4_34 => fX12_findBrings_13 v0 v1 v3 v4_34 m33))))
set_option maxHeartbeats 4000000 in
set_option maxRecDepth 100000 in
theorem cX12_findBrings_ct (z : Zx) (ad : Nat → Nat) (v0 : Nat) (v1 : Int32) (v2 : Int32) (v3 : Int32) (m m2 : Mem) (hf : fX12_findBrings v0 v1 v2 v3 m = some m2) : CtV z wM yX12_findBrings cX12_findBrings 5 none (Rm 6) ad 17 [.ref (ad v0), .int v1, .int v2, .int v3] m m2 := by
  refine ct_ofV mi_X12_findBrings rfl (Nat.le_of_ble_eq_true rfl) (fun x X hret => ?_)
  refine g_lv [(0, .ref (ad v0)), (1, .int v1), (2, .int v2), (3, .int v3)] [0, 1, 2, 3] rfl ?_
  have hL13 : ∀ (v0 : Nat) (v1 : Int32) (v3 : Int32) (v4 : Int32) (m : Mem), fX12_findBrings_13 v0 v1 v3 v4 m = some m2 → G z wM x 5 0 0 ad 17 m 13 [(0, .ref (ad v0)), (1, .int v1), (3, .int v3), (4, .int v4)] [] := by
    intro v0 v1 v3 v4 m hf
    unfold fX12_findBrings_13 at hf
    obtain ⟨e13, hit13, hrest13⟩ := bnd_some hf
    refine iter_ok (Hd := fun (s : (Int32 × Mem)) => G z wM x 5 0 0 ad 17 s.2 13 [(0, .ref (ad v0)), (1, .int v1), (3, .int v3), (4, .int s.1)] []) ?_ FU (v4, m) hit13
    intro s ob13 hf hs13 he13
    obtain ⟨v4, m⟩ := s
    have hf : fX12_findBrings_13b v0 v1 v3 v4 m = some ob13 := hf
    have hL56 : ∀ (v4 : Int32) (s0 : Nat) (s1 : Int32) (s2 : Int64) (m : Mem), fX12_findBrings_56 v0 v1 v3 v4 s0 s1 s2 m = some ob13 → G z wM x 5 0 0 ad 17 m 56 [(0, .ref (ad v0)), (1, .int v1), (3, .int v3), (4, .int v4)] [.long s2, .int s1, .ref (ad s0)] := by
      intro v4 s0 s1 s2 m hf
      unfold fX12_findBrings_56 at hf
      obtain ⟨hk1, hf⟩ := gp_some hf
      obtain ⟨hi2, hf⟩ := gp_some hf
      refine g_last (pc := 56) X (KMlt hk1 (by decide)) hk1 hi2 dX12_findBrings_56 ?_
      obtain ⟨m3, e4, hf⟩ := lt1_some hf
      refine g_mem e4 ?_
      refine g_aload_n (pc := 57) X dX12_findBrings_57 rfl 0 rfl ?_
      refine g_dup (pc := 58) X dX12_findBrings_58 rfl ?_
      obtain ⟨hk5, hf⟩ := gp_some hf
      refine g_getJ (pc := 59) X fl_X12_316 (KMlt hk5 (by decide)) hk5 dX12_findBrings_59 ?_
      refine g_aload_n (pc := 62) X dX12_findBrings_62 rfl 0 rfl ?_
      obtain ⟨q6, hr7, hf⟩ := bnd_some hf
      refine g_getR (pc := 63) X fl_X12_44 (KMlt hk5 (by decide)) hk5 hr7 dX12_findBrings_63 ?_
      refine g_iload (pc := 66) X dX12_findBrings_66 3 rfl ?_
      obtain ⟨hk8, hf⟩ := gp_some hf
      obtain ⟨hi9, hf⟩ := gp_some hf
      refine g_lald (pc := 68) X (KMlt hk8 (by decide)) hk8 hi9 dX12_findBrings_68 ?_
      refine g_ladd (pc := 69) X dX12_findBrings_69 ?_
      refine g_putJ (pc := 70) X fl_X12_316 (KMlt hk5 (by decide)) hk5 rfl rfl dX12_findBrings_70 ?_
      obtain ⟨m10, e11, hf⟩ := lt1_some hf
      refine g_mem e11 ?_
      refine g_aload_n (pc := 73) X dX12_findBrings_73 rfl 0 rfl ?_
      refine g_aload_n (pc := 74) X dX12_findBrings_74 rfl 0 rfl ?_
      obtain ⟨q12, hr13, hf⟩ := bnd_some hf
      refine g_getR (pc := 75) X fl_X12_25 (KMlt hk5 (by decide)) hk5 hr13 dX12_findBrings_75 ?_
      refine g_bipush (v := (7 : Int32)) (pc := 78) X dX12_findBrings_78 (by decide) ?_
      obtain ⟨hk14, hf⟩ := gp_some hf
      obtain ⟨hi15, hf⟩ := gp_some hf
      refine g_iald (pc := 80) X (KMlt hk14 (by decide)) hk14 hi15 dX12_findBrings_80 ?_
      obtain ⟨m17, hq16, hf⟩ := bnd_some hf
      refine g_callVV (pc := 81) (As := [.int (m10.1 q12 (7 : Int32).toNatClampNeg)]) (rest := []) X mi_X12_goHour im_X12_goHour se_X12_goHour (KMlt hk5 (by decide)) hk5 clX12 ml_X12_299 (cX12_goHour_ct z ad v0 (m10.1 q12 (7 : Int32).toNatClampNeg) m10 m17 hq16) rfl rfl (Nat.le_of_ble_eq_true rfl) ⟨rfl, rfl, by decide, by decide, Nat.le_refl _, Nat.le_refl _⟩ dX12_findBrings_81 ?_
      obtain ⟨v4_18, e19, hf⟩ := lt1_some hf
      refine g_iinc (v2 := v4_18) (lv2 := [(0, .ref (ad v0)), (1, .int v1), (3, .int v3), (4, .int v4_18)]) (pc := 84) X dX12_findBrings_84 3 rfl (by rw [e19]; rfl) (by decide) [1, 2, 3, 0] rfl ?_
      refine g_goto (pc := 87) (tgt := 13) X dX12_findBrings_87 (by decide) ?_
      exact hs13 (v4_18, m17) (Option.some.inj hf).symm
    unfold fX12_findBrings_13b at hf
    refine g_iload (pc := 13) X dX12_findBrings_13 3 rfl ?_
    refine g_bipush (v := (9 : Int32)) (pc := 15) X dX12_findBrings_15 (by decide) ?_
    refine g_icmp_ge (pc := 17) (tgt := 90) X dX12_findBrings_17 (by decide) (fun hc => ?_) (fun hc => ?_)
    · have hf := itp hc hf
      have he13 := he13 _ (Option.some.inj hf).symm
      subst he13
      have hf : some m = some m2 := hrest13
      obtain rfl := Option.some.inj hf
      exact hret _ _ dX12_findBrings_90
    · have hf := itn hc hf
      refine g_aload_n (pc := 20) X dX12_findBrings_20 rfl 0 rfl ?_
      obtain ⟨hk20, hf⟩ := gp_some hf
      obtain ⟨q21, hr22, hf⟩ := bnd_some hf
      refine g_getR (pc := 21) X fl_X12_44 (KMlt hk20 (by decide)) hk20 hr22 dX12_findBrings_21 ?_
      refine g_iload (pc := 24) X dX12_findBrings_24 3 rfl ?_
      refine g_iload_n (pc := 26) X dX12_findBrings_26 rfl 1 rfl ?_
      refine g_iload (pc := 27) X dX12_findBrings_27 3 rfl ?_
      refine g_ishr (pc := 29) X dX12_findBrings_29 ?_
      refine g_iconst (v := (1 : Int32)) (pc := 30) X dX12_findBrings_30 (by decide) ?_
      refine g_iand (pc := 31) X dX12_findBrings_31 ?_
      refine g_iconst (v := (1 : Int32)) (pc := 32) X dX12_findBrings_32 (by decide) ?_
      refine g_icmp_ne (pc := 33) (tgt := 55) X dX12_findBrings_33 (by decide) (fun hc => ?_) (fun hc => ?_)
      · have hf := itn hc hf
        refine g_lconst (v := (0 : Int64)) (pc := 55) X dX12_findBrings_55 (by decide) ?_
        exact hL56 _ _ _ _ _ hf
      · have hf := itp hc hf
        refine g_aload_n (pc := 36) X dX12_findBrings_36 rfl 0 rfl ?_
        obtain ⟨q23, hr24, hf⟩ := bnd_some hf
        refine g_getR (pc := 37) X fl_X12_31 (KMlt hk20 (by decide)) hk20 hr24 dX12_findBrings_37 ?_
        refine g_iload_n (pc := 40) X dX12_findBrings_40 rfl 2 rfl ?_
        obtain ⟨hk25, hf⟩ := gp_some hf
        obtain ⟨hi26, hf⟩ := gp_some hf
        refine g_lald (pc := 41) X (KMlt hk25 (by decide)) hk25 hi26 dX12_findBrings_41 ?_
        refine g_aload_n (pc := 42) X dX12_findBrings_42 rfl 0 rfl ?_
        refine g_bipush (v := (8 : Int32)) (pc := 43) X dX12_findBrings_43 (by decide) ?_
        refine g_iload (pc := 45) X dX12_findBrings_45 3 rfl ?_
        refine g_isub (pc := 47) X dX12_findBrings_47 ?_
        obtain ⟨r28, hq27, hf⟩ := bnd_some hf
        refine g_callVL (pc := 48) (As := [.int ((8 : Int32) - v4)]) (rest := [.long (m.2.1 q23 v3.toNatClampNeg), .int v4, .ref (ad q21)]) X mi_X12_allTo im_X12_allTo se_X12_allTo (KMlt hk20 (by decide)) hk20 clX12 ml_X12_309 (cX12_allTo_ct z ad v0 ((8 : Int32) - v4) m r28 hq27) rfl rfl (Nat.le_of_ble_eq_true rfl) ⟨rfl, rfl, by decide, by decide, Nat.le_refl _, Nat.le_refl _⟩ dX12_findBrings_48 ?_
        refine g_lmul (pc := 51) X dX12_findBrings_51 ?_
        refine g_goto (pc := 52) (tgt := 56) X dX12_findBrings_52 (by decide) ?_
        exact hL56 _ _ _ _ _ hf
  unfold fX12_findBrings at hf
  refine g_aload_n (pc := 0) X dX12_findBrings_0 rfl 0 rfl ?_
  refine g_lconst (v := (0 : Int64)) (pc := 1) X dX12_findBrings_1 (by decide) ?_
  obtain ⟨hk29, hf⟩ := gp_some hf
  refine g_putJ (pc := 2) X fl_X12_316 (KMlt hk29 (by decide)) hk29 rfl rfl dX12_findBrings_2 ?_
  obtain ⟨m30, e31, hf⟩ := lt1_some hf
  refine g_mem e31 ?_
  refine g_aload_n (pc := 5) X dX12_findBrings_5 rfl 0 rfl ?_
  refine g_iload_n (pc := 6) X dX12_findBrings_6 rfl 2 rfl ?_
  obtain ⟨m33, hq32, hf⟩ := bnd_some hf
  refine g_callVV (pc := 7) (As := [.int v2]) (rest := []) X mi_X12_layOne im_X12_layOne se_X12_layOne (KMlt hk29 (by decide)) hk29 clX12 ml_X12_296 (cX12_layOne_ct z ad v0 v2 m30 m33 hq32) rfl rfl (Nat.le_of_ble_eq_true rfl) ⟨rfl, rfl, by decide, by decide, Nat.le_refl _, Nat.le_refl _⟩ dX12_findBrings_7 ?_
  refine g_iconst (v := (0 : Int32)) (pc := 10) X dX12_findBrings_10 (by decide) ?_
  obtain ⟨v4_34, e35, hf⟩ := lt1_some hf
  refine g_topi e35 ?_
  refine g_istore (lv2 := [(0, .ref (ad v0)), (1, .int v1), (2, .int v2), (3, .int v3), (4, .int v4_34)]) (pc := 11) X dX12_findBrings_11 (by decide) [1, 2, 3, 4, 0] rfl ?_
  refine g_lv [(0, .ref (ad v0)), (1, .int v1), (3, .int v3), (4, .int v4_34)] [0, 1, 3, 4] rfl ?_
  exact hL13 _ _ _ _ _ hf

