noncomputable def fX11_leftAt_123 (v0 : Nat) (v1 : Int32) (v4 : Int32) (v5 : Int64) (v7 : Int32) (m : Mem) : Option ((Int32 × Int64 × Int32) ⊕ (Int32)) := lt1 (v7 + 1) (fun v7_1 => some (.inl (v4, v5, v7_1)))
noncomputable def fX11_leftAt_75b (v0 : Nat) (v1 : Int32) (v4 : Int32) (v5 : Int64) (v7 : Int32) (m : Mem) : Option ((Int32 × Int64 × Int32) ⊕ (Int32)) := if (8 : Int32) < v7 then (some (.inr (v4))) else (bnd (fX11_isIn v7 v1) (fun r4 => if r4 = 0 then (fX11_leftAt_123 v0 v1 v4 v5 v7 m) else (gp (KC v0 = 11) (bnd (m.2.2 v0 4) (fun q6 => gp (KC q6 = 3) (bnd (m.2.2 q6 4) (fun q9 => gp (KC q9 = 15) (gp (inb v7 (NC q9) = true) (if (m.2.1 q9 v7.toNatClampNeg) ≤ v5 then (fX11_leftAt_123 v0 v1 v4 v5 v7 m) else (gp (inb v7 (NC q9) = true) (lt1 (m.2.1 q9 v7.toNatClampNeg) (fun v5_14 => fX11_leftAt_123 v0 v1 v7 v5_14 v7 m))))))))))))
noncomputable def fX11_leftAt_75 (v0 : Nat) (v1 : Int32) (v4 : Int32) (v5 : Int64) (v7 : Int32) (m : Mem) : Option (Int64 × Mem) := bnd (iter (fun s => fX11_leftAt_75b v0 v1 s.1 s.2.1 s.2.2 m) FU (v4, v5, v7)) (fun e => some (e.toInt64, m))
noncomputable def fX11_leftAt (v0 : Nat) (v1 : Int32) (v2 : Int32) (v3 : Int32) (m : Mem) : Option (Int64 × Mem) := bnd (fX11_isSetOfHours v1) (fun r17 => if r17 = 0 then (some ((-9000000000000000001 : Int64), m)) else (gp (KC v0 = 11) (bnd (m.2.2 v0 6) (fun q19 => gp (KC q19 = 10) (bnd (m.2.2 q19 0) (fun q22 => gp (KC q22 = 9) (bnd (fX9_isOpen q22 v2 m) (fun r25 => if r25 = 0 then (some ((-9000000000000000001 : Int64), m)) else (bnd (fX9_isCell q22 v3 m) (fun r28 => if r28 = 0 then (some ((-9000000000000000001 : Int64), m)) else (bnd (m.2.2 v0 4) (fun q29 => bnd (m.2.2 q19 1) (fun q31 => gp (KC q31 = 4) (gp (KC q29 = 3) (bnd (fX3_timeArrivals q29 q22 v2 v3 (m.1 q31 0) m) (fun m35 => lt1 ((-1000000 : Int32)) (fun v4_37 => lt1 ((0 : Int64)) (fun v5_39 => lt1 ((0 : Int32)) (fun v7_41 => fX11_leftAt_75 v0 v1 v4_37 v5_39 v7_41 m35)))))))))))))))))))
set_option maxHeartbeats 4000000 in
set_option maxRecDepth 100000 in
theorem cX11_leftAt_ct (z : Zx) (ad : Nat → Nat) (v0 : Nat) (v1 : Int32) (v2 : Int32) (v3 : Int32) (m m2 : Mem) (r : Int64) (hf : fX11_leftAt v0 v1 v2 v3 m = some (r, m2)) : CtL z wC yX11_leftAt cX11_leftAt 8 (some .long) (Rm 9) ad 91 [.ref (ad v0), .int v1, .int v2, .int v3] m m2 r := by
  refine ct_ofL mi_X11_leftAt rfl (Nat.le_of_ble_eq_true rfl) (fun x X hret => ?_)
  refine g_lv [(0, .ref (ad v0)), (1, .int v1), (2, .int v2), (3, .int v3)] [0, 1, 2, 3] rfl ?_
  have hL75 : ∀ (v0 : Nat) (v1 : Int32) (v4 : Int32) (v5 : Int64) (v7 : Int32) (m : Mem), fX11_leftAt_75 v0 v1 v4 v5 v7 m = some (r, m2) → G z wC x 8 0 0 ad 91 m 75 [(0, .ref (ad v0)), (1, .int v1), (4, .int v4), (5, .long v5), (7, .int v7)] [] := by
    intro v0 v1 v4 v5 v7 m hf
    unfold fX11_leftAt_75 at hf
    obtain ⟨e75, hit75, hrest75⟩ := bnd_some hf
    refine iter_ok (Hd := fun (s : (Int32 × Int64 × Int32)) => G z wC x 8 0 0 ad 91 m 75 [(0, .ref (ad v0)), (1, .int v1), (4, .int s.1), (5, .long s.2.1), (7, .int s.2.2)] []) ?_ FU (v4, v5, v7) hit75
    intro s ob75 hf hs75 he75
    obtain ⟨v4, v5, v7⟩ := s
    have hf : fX11_leftAt_75b v0 v1 v4 v5 v7 m = some ob75 := hf
    have hL123 : ∀ (v4 : Int32) (v5 : Int64) (v7 : Int32), fX11_leftAt_123 v0 v1 v4 v5 v7 m = some ob75 → G z wC x 8 0 0 ad 91 m 123 [(0, .ref (ad v0)), (1, .int v1), (4, .int v4), (5, .long v5), (7, .int v7)] [] := by
      intro v4 v5 v7 hf
      unfold fX11_leftAt_123 at hf
      obtain ⟨v7_1, e2, hf⟩ := lt1_some hf
      refine g_iinc (v2 := v7_1) (lv2 := [(0, .ref (ad v0)), (1, .int v1), (4, .int v4), (5, .long v5), (7, .int v7_1)]) (pc := 123) X dX11_leftAt_123 4 rfl (by rw [e2]; rfl) (by decide) [1, 2, 3, 4, 0] rfl ?_
      refine g_goto (pc := 126) (tgt := 75) X dX11_leftAt_126 (by decide) ?_
      exact hs75 (v4, v5, v7_1) (Option.some.inj hf).symm
    unfold fX11_leftAt_75b at hf
    refine g_iload (pc := 75) X dX11_leftAt_75 4 rfl ?_
    refine g_bipush (v := (8 : Int32)) (pc := 77) X dX11_leftAt_77 (by decide) ?_
    refine g_icmp_gt (pc := 79) (tgt := 129) X dX11_leftAt_79 (by decide) (fun hc => ?_) (fun hc => ?_)
    · have hf := itp hc hf
      have he75 := he75 _ (Option.some.inj hf).symm
      subst he75
      have hf : some (v4.toInt64, m) = some (r, m2) := hrest75
      refine g_iload (pc := 129) X dX11_leftAt_129 2 rfl ?_
      refine g_i2l (pc := 131) X dX11_leftAt_131 ?_
      obtain ⟨rfl, rfl⟩ := som2 hf
      exact hret _ _ dX11_leftAt_132
    · have hf := itn hc hf
      refine g_iload (pc := 82) X dX11_leftAt_82 4 rfl ?_
      refine g_iload_n (pc := 84) X dX11_leftAt_84 rfl 1 rfl ?_
      obtain ⟨r4, hq3, hf⟩ := bnd_some hf
      refine g_callSI (pc := 85) (As := [.int v7, .int v1]) (rest := []) X mi_X11_isIn sm_X11_isIn ml_X11_253 (cX11_isIn_ct z ad v7 v1 m r4 hq3) rfl rfl (Nat.le_of_ble_eq_true rfl) ⟨rfl, rfl, by decide, by decide, Nat.le_refl _, Nat.le_refl _⟩ dX11_leftAt_85 ?_
      refine g_if_eq (pc := 88) (tgt := 123) X dX11_leftAt_88 (by decide) (fun hc => ?_) (fun hc => ?_)
      · have hf := itp hc hf
        exact hL123 _ _ _ hf
      · have hf := itn hc hf
        refine g_aload_n (pc := 91) X dX11_leftAt_91 rfl 0 rfl ?_
        obtain ⟨hk5, hf⟩ := gp_some hf
        obtain ⟨q6, hr7, hf⟩ := bnd_some hf
        refine g_getR (pc := 92) X fl_X11_40 (KClt hk5 (by decide)) hk5 hr7 dX11_leftAt_92 ?_
        obtain ⟨hk8, hf⟩ := gp_some hf
        obtain ⟨q9, hr10, hf⟩ := bnd_some hf
        refine g_getR (pc := 95) X fl_X11_246 (KClt hk8 (by decide)) hk8 hr10 dX11_leftAt_95 ?_
        refine g_iload (pc := 98) X dX11_leftAt_98 4 rfl ?_
        obtain ⟨hk11, hf⟩ := gp_some hf
        obtain ⟨hi12, hf⟩ := gp_some hf
        refine g_lald (pc := 100) X (KClt hk11 (by decide)) hk11 hi12 dX11_leftAt_100 ?_
        refine g_lload (pc := 101) X dX11_leftAt_101 3 rfl ?_
        refine g_lcmp_le (pc := 103) (tgt := 123) X dX11_leftAt_103 dX11_leftAt_104 (by decide) (fun hc => ?_) (fun hc => ?_)
        · have hf := itp hc hf
          exact hL123 _ _ _ hf
        · have hf := itn hc hf
          refine g_aload_n (pc := 107) X dX11_leftAt_107 rfl 0 rfl ?_
          refine g_getR (pc := 108) X fl_X11_40 (KClt hk5 (by decide)) hk5 hr7 dX11_leftAt_108 ?_
          refine g_getR (pc := 111) X fl_X11_246 (KClt hk8 (by decide)) hk8 hr10 dX11_leftAt_111 ?_
          refine g_iload (pc := 114) X dX11_leftAt_114 4 rfl ?_
          obtain ⟨hi13, hf⟩ := gp_some hf
          refine g_lald (pc := 116) X (KClt hk11 (by decide)) hk11 hi13 dX11_leftAt_116 ?_
          obtain ⟨v5_14, e15, hf⟩ := lt1_some hf
          refine g_topl e15 ?_
          refine g_lstore (lv2 := [(0, .ref (ad v0)), (1, .int v1), (4, .int v4), (5, .long v5_14), (7, .int v7)]) (pc := 117) X dX11_leftAt_117 (by decide) [1, 2, 3, 0, 4] rfl ?_
          refine g_iload (pc := 119) X dX11_leftAt_119 4 rfl ?_
          refine g_istore (lv2 := [(0, .ref (ad v0)), (1, .int v1), (4, .int v7), (5, .long v5_14), (7, .int v7)]) (pc := 121) X dX11_leftAt_121 (by decide) [1, 2, 0, 3, 4] rfl ?_
          exact hL123 _ _ _ hf
  unfold fX11_leftAt at hf
  refine g_iload_n (pc := 0) X dX11_leftAt_0 rfl 1 rfl ?_
  obtain ⟨r17, hq16, hf⟩ := bnd_some hf
  refine g_callSI (pc := 1) (As := [.int v1]) (rest := []) X mi_X11_isSetOfHours sm_X11_isSetOfHours ml_X11_249 (cX11_isSetOfHours_ct z ad v1 m r17 hq16) rfl rfl (Nat.le_of_ble_eq_true rfl) ⟨rfl, rfl, by decide, by decide, Nat.le_refl _, Nat.le_refl _⟩ dX11_leftAt_1 ?_
  refine g_if_eq (pc := 4) (tgt := 35) X dX11_leftAt_4 (by decide) (fun hc => ?_) (fun hc => ?_)
  · have hf := itp hc hf
    refine g_ldc2 (pc := 35) X dX11_leftAt_35 kl_X11_64 ?_
    obtain ⟨rfl, rfl⟩ := som2 hf
    exact hret _ _ dX11_leftAt_38
  · have hf := itn hc hf
    refine g_aload_n (pc := 7) X dX11_leftAt_7 rfl 0 rfl ?_
    obtain ⟨hk18, hf⟩ := gp_some hf
    obtain ⟨q19, hr20, hf⟩ := bnd_some hf
    refine g_getR (pc := 8) X fl_X11_52 (KClt hk18 (by decide)) hk18 hr20 dX11_leftAt_8 ?_
    obtain ⟨hk21, hf⟩ := gp_some hf
    obtain ⟨q22, hr23, hf⟩ := bnd_some hf
    refine g_getR (pc := 11) X fl_X11_150 (KClt hk21 (by decide)) hk21 hr23 dX11_leftAt_11 ?_
    refine g_iload_n (pc := 14) X dX11_leftAt_14 rfl 2 rfl ?_
    obtain ⟨hk26, hf⟩ := gp_some hf
    obtain ⟨r25, hq24, hf⟩ := bnd_some hf
    refine g_callVI (pc := 15) (As := [.int v2]) (rest := []) X mi_X9_isOpen im_X9_isOpen se_X9_isOpen (KClt hk26 (by decide)) hk26 clX9 ml_X11_215 (cX9_isOpen_ct z ad q22 v2 m r25 hq24) rfl rfl (Nat.le_of_ble_eq_true rfl) ⟨rfl, rfl, by decide, by decide, Nat.le_refl _, Nat.le_refl _⟩ dX11_leftAt_15 ?_
    refine g_if_eq (pc := 18) (tgt := 35) X dX11_leftAt_18 (by decide) (fun hc => ?_) (fun hc => ?_)
    · have hf := itp hc hf
      refine g_ldc2 (pc := 35) X dX11_leftAt_35 kl_X11_64 ?_
      obtain ⟨rfl, rfl⟩ := som2 hf
      exact hret _ _ dX11_leftAt_38
    · have hf := itn hc hf
      refine g_aload_n (pc := 21) X dX11_leftAt_21 rfl 0 rfl ?_
      refine g_getR (pc := 22) X fl_X11_52 (KClt hk18 (by decide)) hk18 hr20 dX11_leftAt_22 ?_
      refine g_getR (pc := 25) X fl_X11_150 (KClt hk21 (by decide)) hk21 hr23 dX11_leftAt_25 ?_
      refine g_iload_n (pc := 28) X dX11_leftAt_28 rfl 3 rfl ?_
      obtain ⟨r28, hq27, hf⟩ := bnd_some hf
      refine g_callVI (pc := 29) (As := [.int v3]) (rest := []) X mi_X9_isCell im_X9_isCell se_X9_isCell (KClt hk26 (by decide)) hk26 clX9 ml_X11_218 (cX9_isCell_ct z ad q22 v3 m r28 hq27) rfl rfl (Nat.le_of_ble_eq_true rfl) ⟨rfl, rfl, by decide, by decide, Nat.le_refl _, Nat.le_refl _⟩ dX11_leftAt_29 ?_
      refine g_if_ne (pc := 32) (tgt := 39) X dX11_leftAt_32 (by decide) (fun hc => ?_) (fun hc => ?_)
      · have hf := itn hc hf
        refine g_aload_n (pc := 39) X dX11_leftAt_39 rfl 0 rfl ?_
        obtain ⟨q29, hr30, hf⟩ := bnd_some hf
        refine g_getR (pc := 40) X fl_X11_40 (KClt hk18 (by decide)) hk18 hr30 dX11_leftAt_40 ?_
        refine g_aload_n (pc := 43) X dX11_leftAt_43 rfl 0 rfl ?_
        refine g_getR (pc := 44) X fl_X11_52 (KClt hk18 (by decide)) hk18 hr20 dX11_leftAt_44 ?_
        refine g_getR (pc := 47) X fl_X11_150 (KClt hk21 (by decide)) hk21 hr23 dX11_leftAt_47 ?_
        refine g_iload_n (pc := 50) X dX11_leftAt_50 rfl 2 rfl ?_
        refine g_iload_n (pc := 51) X dX11_leftAt_51 rfl 3 rfl ?_
        refine g_aload_n (pc := 52) X dX11_leftAt_52 rfl 0 rfl ?_
        refine g_getR (pc := 53) X fl_X11_52 (KClt hk18 (by decide)) hk18 hr20 dX11_leftAt_53 ?_
        obtain ⟨q31, hr32, hf⟩ := bnd_some hf
        refine g_getR (pc := 56) X fl_X11_159 (KClt hk21 (by decide)) hk21 hr32 dX11_leftAt_56 ?_
        obtain ⟨hk33, hf⟩ := gp_some hf
        refine g_getI (pc := 59) X fl_X11_175 (KClt hk33 (by decide)) hk33 dX11_leftAt_59 ?_
        obtain ⟨hk36, hf⟩ := gp_some hf
        obtain ⟨m35, hq34, hf⟩ := bnd_some hf
        refine g_callVV (pc := 62) (As := [.ref (ad q22), .int v2, .int v3, .int (m.1 q31 0)]) (rest := []) X mi_X3_timeArrivals im_X3_timeArrivals se_X3_timeArrivals (KClt hk36 (by decide)) hk36 clX3 ml_X11_243 (cX3_timeArrivals_ct z ad q29 q22 v2 v3 (m.1 q31 0) m m35 hq34) rfl rfl (Nat.le_of_ble_eq_true rfl) ⟨rfl, rfl, by decide, by decide, Nat.le_refl _, Nat.le_refl _⟩ dX11_leftAt_62 ?_
        refine g_ldc (pc := 65) X dX11_leftAt_65 k_X11_252 ?_
        obtain ⟨v4_37, e38, hf⟩ := lt1_some hf
        refine g_topi e38 ?_
        refine g_istore (lv2 := [(0, .ref (ad v0)), (1, .int v1), (2, .int v2), (3, .int v3), (4, .int v4_37)]) (pc := 67) X dX11_leftAt_67 (by decide) [1, 2, 3, 4, 0] rfl ?_
        refine g_lconst (v := (0 : Int64)) (pc := 69) X dX11_leftAt_69 (by decide) ?_
        obtain ⟨v5_39, e40, hf⟩ := lt1_some hf
        refine g_topl e40 ?_
        refine g_lstore (lv2 := [(0, .ref (ad v0)), (1, .int v1), (2, .int v2), (3, .int v3), (4, .int v4_37), (5, .long v5_39)]) (pc := 70) X dX11_leftAt_70 (by decide) [1, 2, 3, 4, 5, 0] rfl ?_
        refine g_iconst (v := (0 : Int32)) (pc := 72) X dX11_leftAt_72 (by decide) ?_
        obtain ⟨v7_41, e42, hf⟩ := lt1_some hf
        refine g_topi e42 ?_
        refine g_istore (lv2 := [(0, .ref (ad v0)), (1, .int v1), (2, .int v2), (3, .int v3), (4, .int v4_37), (5, .long v5_39), (7, .int v7_41)]) (pc := 73) X dX11_leftAt_73 (by decide) [1, 2, 3, 4, 5, 6, 0] rfl ?_
        refine g_lv [(0, .ref (ad v0)), (1, .int v1), (4, .int v4_37), (5, .long v5_39), (7, .int v7_41)] [0, 1, 4, 5, 6] rfl ?_
        exact hL75 _ _ _ _ _ _ hf
      · have hf := itp hc hf
        refine g_ldc2 (pc := 35) X dX11_leftAt_35 kl_X11_64 ?_
        obtain ⟨rfl, rfl⟩ := som2 hf
        exact hret _ _ dX11_leftAt_38

noncomputable def fX11_leftOdds_142 (v0 : Nat) (v4 : Int32) (v5 : Int32) (v6 : Int64) (m : Mem) : Option (Int64 × Mem) := if v6 = (0 : Int64) then (some ((-1000000 : Int64), m)) else (gp (KC v0 = 11) (bnd (m.2.2 v0 4) (fun q2 => gp (KC q2 = 3) (bnd (m.2.2 q2 4) (fun q5 => gp (KC q5 = 15) (gp (inb v4 (NC q5) = true) (bnd (fX11_partOfFraction (m.2.1 q5 v4.toNatClampNeg) v6 v5) (fun r10 => some (r10, m)))))))))
noncomputable def fX11_leftOdds_136 (v0 : Nat) (v1 : Int32) (v4 : Int32) (v5 : Int32) (v6 : Int64) (v8 : Int32) (m : Mem) : Option ((Int64 × Int32) ⊕ (Int64)) := lt1 (v8 + 1) (fun v8_11 => some (.inl (v6, v8_11)))
noncomputable def fX11_leftOdds_105b (v0 : Nat) (v1 : Int32) (v4 : Int32) (v5 : Int32) (v6 : Int64) (v8 : Int32) (m : Mem) : Option ((Int64 × Int32) ⊕ (Int64)) := if (8 : Int32) < v8 then (some (.inr (v6))) else (bnd (fX11_isIn v8 v1) (fun r14 => if r14 = 0 then (fX11_leftOdds_136 v0 v1 v4 v5 v6 v8 m) else (gp (KC v0 = 11) (bnd (m.2.2 v0 4) (fun q16 => gp (KC q16 = 3) (bnd (m.2.2 q16 4) (fun q19 => gp (KC q19 = 15) (gp (inb v8 (NC q19) = true) (lt1 (v6 + (m.2.1 q19 v8.toNatClampNeg)) (fun v6_23 => fX11_leftOdds_136 v0 v1 v4 v5 v6_23 v8 m))))))))))
noncomputable def fX11_leftOdds_105 (v0 : Nat) (v1 : Int32) (v4 : Int32) (v5 : Int32) (v6 : Int64) (v8 : Int32) (m : Mem) : Option (Int64 × Mem) := bnd (iter (fun s => fX11_leftOdds_105b v0 v1 v4 v5 s.1 s.2 m) FU (v6, v8)) (fun e => fX11_leftOdds_142 v0 v4 v5 e m)
noncomputable def fX11_leftOdds (v0 : Nat) (v1 : Int32) (v2 : Int32) (v3 : Int32) (v4 : Int32) (v5 : Int32) (m : Mem) : Option (Int64 × Mem) := bnd (fX11_isSetOfHours v1) (fun r26 => if r26 = 0 then (some ((-9000000000000000001 : Int64), m)) else (gp (KC v0 = 11) (bnd (m.2.2 v0 6) (fun q28 => gp (KC q28 = 10) (bnd (m.2.2 q28 0) (fun q31 => gp (KC q31 = 9) (bnd (fX9_isOpen q31 v2 m) (fun r34 => if r34 = 0 then (some ((-9000000000000000001 : Int64), m)) else (bnd (fX9_isCell q31 v3 m) (fun r37 => if r37 = 0 then (some ((-9000000000000000001 : Int64), m)) else (bnd (fX11_isWithin v4 (0 : Int32) (8 : Int32)) (fun r39 => if r39 = 0 then (some ((-9000000000000000001 : Int64), m)) else (bnd (fX11_isIn v4 v1) (fun r41 => if r41 = 0 then (some ((-9000000000000000001 : Int64), m)) else (bnd (fX11_isWithin v5 (0 : Int32) (1 : Int32)) (fun r43 => if r43 = 0 then (some ((-9000000000000000001 : Int64), m)) else (bnd (m.2.2 v0 4) (fun q44 => bnd (m.2.2 q28 1) (fun q46 => gp (KC q46 = 4) (gp (KC q44 = 3) (bnd (fX3_timeArrivals q44 q31 v2 v3 (m.1 q46 0) m) (fun m50 => lt1 ((0 : Int64)) (fun v6_52 => lt1 ((0 : Int32)) (fun v8_54 => fX11_leftOdds_105 v0 v1 v4 v5 v6_52 v8_54 m50))))))))))))))))))))))))
set_option maxHeartbeats 4000000 in
set_option maxRecDepth 100000 in
theorem cX11_leftOdds_ct (z : Zx) (ad : Nat → Nat) (v0 : Nat) (v1 : Int32) (v2 : Int32) (v3 : Int32) (v4 : Int32) (v5 : Int32) (m m2 : Mem) (r : Int64) (hf : fX11_leftOdds v0 v1 v2 v3 v4 v5 m = some (r, m2)) : CtL z wC yX11_leftOdds cX11_leftOdds 9 (some .long) (Rm 9) ad 91 [.ref (ad v0), .int v1, .int v2, .int v3, .int v4, .int v5] m m2 r := by
  refine ct_ofL mi_X11_leftOdds rfl (Nat.le_of_ble_eq_true rfl) (fun x X hret => ?_)
  refine g_lv [(0, .ref (ad v0)), (1, .int v1), (2, .int v2), (3, .int v3), (4, .int v4), (5, .int v5)] [0, 1, 2, 3, 4, 5] rfl ?_
  have hL142 : ∀ (v0 : Nat) (v4 : Int32) (v5 : Int32) (v6 : Int64) (m : Mem), fX11_leftOdds_142 v0 v4 v5 v6 m = some (r, m2) → G z wC x 9 0 0 ad 91 m 142 [(0, .ref (ad v0)), (4, .int v4), (5, .int v5), (6, .long v6)] [] := by
    intro v0 v4 v5 v6 m hf
    unfold fX11_leftOdds_142 at hf
    refine g_lload (pc := 142) X dX11_leftOdds_142 3 rfl ?_
    refine g_lconst (v := (0 : Int64)) (pc := 144) X dX11_leftOdds_144 (by decide) ?_
    refine g_lcmp_ne (pc := 145) (tgt := 155) X dX11_leftOdds_145 dX11_leftOdds_146 (by decide) (fun hc => ?_) (fun hc => ?_)
    · have hf := itn hc hf
      refine g_aload_n (pc := 155) X dX11_leftOdds_155 rfl 0 rfl ?_
      obtain ⟨hk1, hf⟩ := gp_some hf
      obtain ⟨q2, hr3, hf⟩ := bnd_some hf
      refine g_getR (pc := 156) X fl_X11_40 (KClt hk1 (by decide)) hk1 hr3 dX11_leftOdds_156 ?_
      obtain ⟨hk4, hf⟩ := gp_some hf
      obtain ⟨q5, hr6, hf⟩ := bnd_some hf
      refine g_getR (pc := 159) X fl_X11_246 (KClt hk4 (by decide)) hk4 hr6 dX11_leftOdds_159 ?_
      refine g_iload (pc := 162) X dX11_leftOdds_162 1 rfl ?_
      obtain ⟨hk7, hf⟩ := gp_some hf
      obtain ⟨hi8, hf⟩ := gp_some hf
      refine g_lald (pc := 164) X (KClt hk7 (by decide)) hk7 hi8 dX11_leftOdds_164 ?_
      refine g_lload (pc := 165) X dX11_leftOdds_165 3 rfl ?_
      refine g_iload (pc := 167) X dX11_leftOdds_167 2 rfl ?_
      obtain ⟨r10, hq9, hf⟩ := bnd_some hf
      refine g_callSL (pc := 169) (As := [.long (m.2.1 q5 v4.toNatClampNeg), .long v6, .int v5]) (rest := []) X mi_X11_partOfFraction sm_X11_partOfFraction ml_X11_239 (cX11_partOfFraction_ct z ad (m.2.1 q5 v4.toNatClampNeg) v6 v5 m r10 hq9) rfl rfl (Nat.le_of_ble_eq_true rfl) ⟨rfl, rfl, by decide, by decide, Nat.le_refl _, Nat.le_refl _⟩ dX11_leftOdds_169 ?_
      obtain ⟨rfl, rfl⟩ := som2 hf
      exact hret _ _ dX11_leftOdds_172
    · have hf := itp hc hf
      refine g_ldc2 (pc := 149) X dX11_leftOdds_149 kl_X11_256 ?_
      refine g_goto (pc := 152) (tgt := 172) X dX11_leftOdds_152 (by decide) ?_
      obtain ⟨rfl, rfl⟩ := som2 hf
      exact hret _ _ dX11_leftOdds_172
  have hL105 : ∀ (v0 : Nat) (v1 : Int32) (v4 : Int32) (v5 : Int32) (v6 : Int64) (v8 : Int32) (m : Mem), fX11_leftOdds_105 v0 v1 v4 v5 v6 v8 m = some (r, m2) → G z wC x 9 0 0 ad 91 m 105 [(0, .ref (ad v0)), (1, .int v1), (4, .int v4), (5, .int v5), (6, .long v6), (8, .int v8)] [] := by
    intro v0 v1 v4 v5 v6 v8 m hf
    unfold fX11_leftOdds_105 at hf
    obtain ⟨e105, hit105, hrest105⟩ := bnd_some hf
    refine iter_ok (Hd := fun (s : (Int64 × Int32)) => G z wC x 9 0 0 ad 91 m 105 [(0, .ref (ad v0)), (1, .int v1), (4, .int v4), (5, .int v5), (6, .long s.1), (8, .int s.2)] []) ?_ FU (v6, v8) hit105
    intro s ob105 hf hs105 he105
    obtain ⟨v6, v8⟩ := s
    have hf : fX11_leftOdds_105b v0 v1 v4 v5 v6 v8 m = some ob105 := hf
    have hL136 : ∀ (v6 : Int64) (v8 : Int32), fX11_leftOdds_136 v0 v1 v4 v5 v6 v8 m = some ob105 → G z wC x 9 0 0 ad 91 m 136 [(0, .ref (ad v0)), (1, .int v1), (4, .int v4), (5, .int v5), (6, .long v6), (8, .int v8)] [] := by
      intro v6 v8 hf
      unfold fX11_leftOdds_136 at hf
      obtain ⟨v8_11, e12, hf⟩ := lt1_some hf
      refine g_iinc (v2 := v8_11) (lv2 := [(0, .ref (ad v0)), (1, .int v1), (4, .int v4), (5, .int v5), (6, .long v6), (8, .int v8_11)]) (pc := 136) X dX11_leftOdds_136 5 rfl (by rw [e12]; rfl) (by decide) [1, 2, 3, 4, 5, 0] rfl ?_
      refine g_goto (pc := 139) (tgt := 105) X dX11_leftOdds_139 (by decide) ?_
      exact hs105 (v6, v8_11) (Option.some.inj hf).symm
    unfold fX11_leftOdds_105b at hf
    refine g_iload (pc := 105) X dX11_leftOdds_105 5 rfl ?_
    refine g_bipush (v := (8 : Int32)) (pc := 107) X dX11_leftOdds_107 (by decide) ?_
    refine g_icmp_gt (pc := 109) (tgt := 142) X dX11_leftOdds_109 (by decide) (fun hc => ?_) (fun hc => ?_)
    · have hf := itp hc hf
      have he105 := he105 _ (Option.some.inj hf).symm
      subst he105
      have hf : fX11_leftOdds_142 v0 v4 v5 v6 m = some (r, m2) := hrest105
      refine g_lv [(0, .ref (ad v0)), (4, .int v4), (5, .int v5), (6, .long v6)] [0, 2, 3, 4] rfl ?_
      exact hL142 _ _ _ _ _ hf
    · have hf := itn hc hf
      refine g_iload (pc := 112) X dX11_leftOdds_112 5 rfl ?_
      refine g_iload_n (pc := 114) X dX11_leftOdds_114 rfl 1 rfl ?_
      obtain ⟨r14, hq13, hf⟩ := bnd_some hf
      refine g_callSI (pc := 115) (As := [.int v8, .int v1]) (rest := []) X mi_X11_isIn sm_X11_isIn ml_X11_253 (cX11_isIn_ct z ad v8 v1 m r14 hq13) rfl rfl (Nat.le_of_ble_eq_true rfl) ⟨rfl, rfl, by decide, by decide, Nat.le_refl _, Nat.le_refl _⟩ dX11_leftOdds_115 ?_
      refine g_if_eq (pc := 118) (tgt := 136) X dX11_leftOdds_118 (by decide) (fun hc => ?_) (fun hc => ?_)
      · have hf := itp hc hf
        exact hL136 _ _ hf
      · have hf := itn hc hf
        refine g_lload (pc := 121) X dX11_leftOdds_121 4 rfl ?_
        refine g_aload_n (pc := 123) X dX11_leftOdds_123 rfl 0 rfl ?_
        obtain ⟨hk15, hf⟩ := gp_some hf
        obtain ⟨q16, hr17, hf⟩ := bnd_some hf
        refine g_getR (pc := 124) X fl_X11_40 (KClt hk15 (by decide)) hk15 hr17 dX11_leftOdds_124 ?_
        obtain ⟨hk18, hf⟩ := gp_some hf
        obtain ⟨q19, hr20, hf⟩ := bnd_some hf
        refine g_getR (pc := 127) X fl_X11_246 (KClt hk18 (by decide)) hk18 hr20 dX11_leftOdds_127 ?_
        refine g_iload (pc := 130) X dX11_leftOdds_130 5 rfl ?_
        obtain ⟨hk21, hf⟩ := gp_some hf
        obtain ⟨hi22, hf⟩ := gp_some hf
        refine g_lald (pc := 132) X (KClt hk21 (by decide)) hk21 hi22 dX11_leftOdds_132 ?_
        refine g_ladd (pc := 133) X dX11_leftOdds_133 ?_
        obtain ⟨v6_23, e24, hf⟩ := lt1_some hf
        refine g_topl e24 ?_
        refine g_lstore (lv2 := [(0, .ref (ad v0)), (1, .int v1), (4, .int v4), (5, .int v5), (6, .long v6_23), (8, .int v8)]) (pc := 134) X dX11_leftOdds_134 (by decide) [1, 2, 3, 4, 0, 5] rfl ?_
        exact hL136 _ _ hf
  unfold fX11_leftOdds at hf
  refine g_iload_n (pc := 0) X dX11_leftOdds_0 rfl 1 rfl ?_
  obtain ⟨r26, hq25, hf⟩ := bnd_some hf
  refine g_callSI (pc := 1) (As := [.int v1]) (rest := []) X mi_X11_isSetOfHours sm_X11_isSetOfHours ml_X11_249 (cX11_isSetOfHours_ct z ad v1 m r26 hq25) rfl rfl (Nat.le_of_ble_eq_true rfl) ⟨rfl, rfl, by decide, by decide, Nat.le_refl _, Nat.le_refl _⟩ dX11_leftOdds_1 ?_
  refine g_if_eq (pc := 4) (tgt := 35) X dX11_leftOdds_4 (by decide) (fun hc => ?_) (fun hc => ?_)
  · have hf := itp hc hf
    refine g_ldc2 (pc := 35) X dX11_leftOdds_35 kl_X11_64 ?_
    obtain ⟨rfl, rfl⟩ := som2 hf
    exact hret _ _ dX11_leftOdds_38
  · have hf := itn hc hf
    refine g_aload_n (pc := 7) X dX11_leftOdds_7 rfl 0 rfl ?_
    obtain ⟨hk27, hf⟩ := gp_some hf
    obtain ⟨q28, hr29, hf⟩ := bnd_some hf
    refine g_getR (pc := 8) X fl_X11_52 (KClt hk27 (by decide)) hk27 hr29 dX11_leftOdds_8 ?_
    obtain ⟨hk30, hf⟩ := gp_some hf
    obtain ⟨q31, hr32, hf⟩ := bnd_some hf
    refine g_getR (pc := 11) X fl_X11_150 (KClt hk30 (by decide)) hk30 hr32 dX11_leftOdds_11 ?_
    refine g_iload_n (pc := 14) X dX11_leftOdds_14 rfl 2 rfl ?_
    obtain ⟨hk35, hf⟩ := gp_some hf
    obtain ⟨r34, hq33, hf⟩ := bnd_some hf
    refine g_callVI (pc := 15) (As := [.int v2]) (rest := []) X mi_X9_isOpen im_X9_isOpen se_X9_isOpen (KClt hk35 (by decide)) hk35 clX9 ml_X11_215 (cX9_isOpen_ct z ad q31 v2 m r34 hq33) rfl rfl (Nat.le_of_ble_eq_true rfl) ⟨rfl, rfl, by decide, by decide, Nat.le_refl _, Nat.le_refl _⟩ dX11_leftOdds_15 ?_
    refine g_if_eq (pc := 18) (tgt := 35) X dX11_leftOdds_18 (by decide) (fun hc => ?_) (fun hc => ?_)
    · have hf := itp hc hf
      refine g_ldc2 (pc := 35) X dX11_leftOdds_35 kl_X11_64 ?_
      obtain ⟨rfl, rfl⟩ := som2 hf
      exact hret _ _ dX11_leftOdds_38
    · have hf := itn hc hf
      refine g_aload_n (pc := 21) X dX11_leftOdds_21 rfl 0 rfl ?_
      refine g_getR (pc := 22) X fl_X11_52 (KClt hk27 (by decide)) hk27 hr29 dX11_leftOdds_22 ?_
      refine g_getR (pc := 25) X fl_X11_150 (KClt hk30 (by decide)) hk30 hr32 dX11_leftOdds_25 ?_
      refine g_iload_n (pc := 28) X dX11_leftOdds_28 rfl 3 rfl ?_
      obtain ⟨r37, hq36, hf⟩ := bnd_some hf
      refine g_callVI (pc := 29) (As := [.int v3]) (rest := []) X mi_X9_isCell im_X9_isCell se_X9_isCell (KClt hk35 (by decide)) hk35 clX9 ml_X11_218 (cX9_isCell_ct z ad q31 v3 m r37 hq36) rfl rfl (Nat.le_of_ble_eq_true rfl) ⟨rfl, rfl, by decide, by decide, Nat.le_refl _, Nat.le_refl _⟩ dX11_leftOdds_29 ?_
      refine g_if_ne (pc := 32) (tgt := 39) X dX11_leftOdds_32 (by decide) (fun hc => ?_) (fun hc => ?_)
      · have hf := itn hc hf
        refine g_iload (pc := 39) X dX11_leftOdds_39 4 rfl ?_
        refine g_iconst (v := (0 : Int32)) (pc := 41) X dX11_leftOdds_41 (by decide) ?_
        refine g_bipush (v := (8 : Int32)) (pc := 42) X dX11_leftOdds_42 (by decide) ?_
        obtain ⟨r39, hq38, hf⟩ := bnd_some hf
        refine g_callSI (pc := 44) (As := [.int v4, .int (0 : Int32), .int (8 : Int32)]) (rest := []) X mi_X11_isWithin sm_X11_isWithin ml_X11_60 (cX11_isWithin_ct z ad v4 (0 : Int32) (8 : Int32) m r39 hq38) rfl rfl (Nat.le_of_ble_eq_true rfl) ⟨rfl, rfl, by decide, by decide, Nat.le_refl _, Nat.le_refl _⟩ dX11_leftOdds_44 ?_
        refine g_if_eq (pc := 47) (tgt := 69) X dX11_leftOdds_47 (by decide) (fun hc => ?_) (fun hc => ?_)
        · have hf := itp hc hf
          refine g_ldc2 (pc := 69) X dX11_leftOdds_69 kl_X11_64 ?_
          obtain ⟨rfl, rfl⟩ := som2 hf
          exact hret _ _ dX11_leftOdds_72
        · have hf := itn hc hf
          refine g_iload (pc := 50) X dX11_leftOdds_50 4 rfl ?_
          refine g_iload_n (pc := 52) X dX11_leftOdds_52 rfl 1 rfl ?_
          obtain ⟨r41, hq40, hf⟩ := bnd_some hf
          refine g_callSI (pc := 53) (As := [.int v4, .int v1]) (rest := []) X mi_X11_isIn sm_X11_isIn ml_X11_253 (cX11_isIn_ct z ad v4 v1 m r41 hq40) rfl rfl (Nat.le_of_ble_eq_true rfl) ⟨rfl, rfl, by decide, by decide, Nat.le_refl _, Nat.le_refl _⟩ dX11_leftOdds_53 ?_
          refine g_if_eq (pc := 56) (tgt := 69) X dX11_leftOdds_56 (by decide) (fun hc => ?_) (fun hc => ?_)
          · have hf := itp hc hf
            refine g_ldc2 (pc := 69) X dX11_leftOdds_69 kl_X11_64 ?_
            obtain ⟨rfl, rfl⟩ := som2 hf
            exact hret _ _ dX11_leftOdds_72
          · have hf := itn hc hf
            refine g_iload (pc := 59) X dX11_leftOdds_59 5 rfl ?_
            refine g_iconst (v := (0 : Int32)) (pc := 61) X dX11_leftOdds_61 (by decide) ?_
            refine g_iconst (v := (1 : Int32)) (pc := 62) X dX11_leftOdds_62 (by decide) ?_
            obtain ⟨r43, hq42, hf⟩ := bnd_some hf
            refine g_callSI (pc := 63) (As := [.int v5, .int (0 : Int32), .int (1 : Int32)]) (rest := []) X mi_X11_isWithin sm_X11_isWithin ml_X11_60 (cX11_isWithin_ct z ad v5 (0 : Int32) (1 : Int32) m r43 hq42) rfl rfl (Nat.le_of_ble_eq_true rfl) ⟨rfl, rfl, by decide, by decide, Nat.le_refl _, Nat.le_refl _⟩ dX11_leftOdds_63 ?_
            refine g_if_ne (pc := 66) (tgt := 73) X dX11_leftOdds_66 (by decide) (fun hc => ?_) (fun hc => ?_)
            · have hf := itn hc hf
              refine g_aload_n (pc := 73) X dX11_leftOdds_73 rfl 0 rfl ?_
              obtain ⟨q44, hr45, hf⟩ := bnd_some hf
              refine g_getR (pc := 74) X fl_X11_40 (KClt hk27 (by decide)) hk27 hr45 dX11_leftOdds_74 ?_
              refine g_aload_n (pc := 77) X dX11_leftOdds_77 rfl 0 rfl ?_
              refine g_getR (pc := 78) X fl_X11_52 (KClt hk27 (by decide)) hk27 hr29 dX11_leftOdds_78 ?_
              refine g_getR (pc := 81) X fl_X11_150 (KClt hk30 (by decide)) hk30 hr32 dX11_leftOdds_81 ?_
              refine g_iload_n (pc := 84) X dX11_leftOdds_84 rfl 2 rfl ?_
              refine g_iload_n (pc := 85) X dX11_leftOdds_85 rfl 3 rfl ?_
              refine g_aload_n (pc := 86) X dX11_leftOdds_86 rfl 0 rfl ?_
              refine g_getR (pc := 87) X fl_X11_52 (KClt hk27 (by decide)) hk27 hr29 dX11_leftOdds_87 ?_
              obtain ⟨q46, hr47, hf⟩ := bnd_some hf
              refine g_getR (pc := 90) X fl_X11_159 (KClt hk30 (by decide)) hk30 hr47 dX11_leftOdds_90 ?_
              obtain ⟨hk48, hf⟩ := gp_some hf
              refine g_getI (pc := 93) X fl_X11_175 (KClt hk48 (by decide)) hk48 dX11_leftOdds_93 ?_
              obtain ⟨hk51, hf⟩ := gp_some hf
              obtain ⟨m50, hq49, hf⟩ := bnd_some hf
              refine g_callVV (pc := 96) (As := [.ref (ad q31), .int v2, .int v3, .int (m.1 q46 0)]) (rest := []) X mi_X3_timeArrivals im_X3_timeArrivals se_X3_timeArrivals (KClt hk51 (by decide)) hk51 clX3 ml_X11_243 (cX3_timeArrivals_ct z ad q44 q31 v2 v3 (m.1 q46 0) m m50 hq49) rfl rfl (Nat.le_of_ble_eq_true rfl) ⟨rfl, rfl, by decide, by decide, Nat.le_refl _, Nat.le_refl _⟩ dX11_leftOdds_96 ?_
              refine g_lconst (v := (0 : Int64)) (pc := 99) X dX11_leftOdds_99 (by decide) ?_
              obtain ⟨v6_52, e53, hf⟩ := lt1_some hf
              refine g_topl e53 ?_
              refine g_lstore (lv2 := [(0, .ref (ad v0)), (1, .int v1), (2, .int v2), (3, .int v3), (4, .int v4), (5, .int v5), (6, .long v6_52)]) (pc := 100) X dX11_leftOdds_100 (by decide) [1, 2, 3, 4, 5, 6, 0] rfl ?_
              refine g_iconst (v := (0 : Int32)) (pc := 102) X dX11_leftOdds_102 (by decide) ?_
              obtain ⟨v8_54, e55, hf⟩ := lt1_some hf
              refine g_topi e55 ?_
              refine g_istore (lv2 := [(0, .ref (ad v0)), (1, .int v1), (2, .int v2), (3, .int v3), (4, .int v4), (5, .int v5), (6, .long v6_52), (8, .int v8_54)]) (pc := 103) X dX11_leftOdds_103 (by decide) [1, 2, 3, 4, 5, 6, 7, 0] rfl ?_
              refine g_lv [(0, .ref (ad v0)), (1, .int v1), (4, .int v4), (5, .int v5), (6, .long v6_52), (8, .int v8_54)] [0, 1, 4, 5, 6, 7] rfl ?_
              exact hL105 _ _ _ _ _ _ _ hf
            · have hf := itp hc hf
              refine g_ldc2 (pc := 69) X dX11_leftOdds_69 kl_X11_64 ?_
              obtain ⟨rfl, rfl⟩ := som2 hf
              exact hret _ _ dX11_leftOdds_72
      · have hf := itp hc hf
        refine g_ldc2 (pc := 35) X dX11_leftOdds_35 kl_X11_64 ?_
        obtain ⟨rfl, rfl⟩ := som2 hf
        exact hret _ _ dX11_leftOdds_38

noncomputable def fX3_likeliestCell_29 (v0 : Nat) (v1 : Int32) (v2 : Int32) (m : Mem) : Option ((Int32 × Int32) ⊕ (Int32)) := lt1 (v2 + 1) (fun v2_1 => some (.inl (v1, v2_1)))
noncomputable def fX3_likeliestCell_4b (v0 : Nat) (v1 : Int32) (v2 : Int32) (m : Mem) : Option ((Int32 × Int32) ⊕ (Int32)) := if (128 : Int32) ≤ v2 then (some (.inr (v1))) else (gp (KC v0 = 3) (bnd (m.2.2 v0 0) (fun q4 => gp (KC q4 = 15) (gp (inb v2 (NC q4) = true) (gp (inb v1 (NC q4) = true) (if (m.2.1 q4 v2.toNatClampNeg) ≤ (m.2.1 q4 v1.toNatClampNeg) then (fX3_likeliestCell_29 v0 v1 v2 m) else (fX3_likeliestCell_29 v0 v2 v2 m)))))))
noncomputable def fX3_likeliestCell_4 (v0 : Nat) (v1 : Int32) (v2 : Int32) (m : Mem) : Option Int32 := bnd (iter (fun s => fX3_likeliestCell_4b v0 s.1 s.2 m) FU (v1, v2)) (fun e => some e)
noncomputable def fX3_likeliestCell (v0 : Nat) (m : Mem) : Option Int32 := lt1 ((0 : Int32)) (fun v1_9 => lt1 ((1 : Int32)) (fun v2_11 => fX3_likeliestCell_4 v0 v1_9 v2_11 m))
set_option maxHeartbeats 4000000 in
set_option maxRecDepth 100000 in
theorem cX3_likeliestCell_ct (z : Zx) (ad : Nat → Nat) (v0 : Nat) (m : Mem) (r : Int32) (hf : fX3_likeliestCell v0 m = some r) : CtI z wC yX3_likeliestCell cX3_likeliestCell 3 (some .int) (Rm 2) ad 91 [.ref (ad v0)] m m r := by
  refine ct_ofI mi_X3_likeliestCell rfl (Nat.le_of_ble_eq_true rfl) (fun x X hret => ?_)
  refine g_lv [(0, .ref (ad v0))] [0] rfl ?_
  have hL4 : ∀ (v0 : Nat) (v1 : Int32) (v2 : Int32), fX3_likeliestCell_4 v0 v1 v2 m = some r → G z wC x 3 0 0 ad 91 m 4 [(0, .ref (ad v0)), (1, .int v1), (2, .int v2)] [] := by
    intro v0 v1 v2 hf
    unfold fX3_likeliestCell_4 at hf
    obtain ⟨e4, hit4, hrest4⟩ := bnd_some hf
    refine iter_ok (Hd := fun (s : (Int32 × Int32)) => G z wC x 3 0 0 ad 91 m 4 [(0, .ref (ad v0)), (1, .int s.1), (2, .int s.2)] []) ?_ FU (v1, v2) hit4
    intro s ob4 hf hs4 he4
    obtain ⟨v1, v2⟩ := s
    have hf : fX3_likeliestCell_4b v0 v1 v2 m = some ob4 := hf
    have hL29 : ∀ (v1 : Int32) (v2 : Int32), fX3_likeliestCell_29 v0 v1 v2 m = some ob4 → G z wC x 3 0 0 ad 91 m 29 [(0, .ref (ad v0)), (1, .int v1), (2, .int v2)] [] := by
      intro v1 v2 hf
      unfold fX3_likeliestCell_29 at hf
      obtain ⟨v2_1, e2, hf⟩ := lt1_some hf
      refine g_iinc (v2 := v2_1) (lv2 := [(0, .ref (ad v0)), (1, .int v1), (2, .int v2_1)]) (pc := 29) X dX3_likeliestCell_29 2 rfl (by rw [e2]; rfl) (by decide) [1, 2, 0] rfl ?_
      refine g_goto (pc := 32) (tgt := 4) X dX3_likeliestCell_32 (by decide) ?_
      exact hs4 (v1, v2_1) (Option.some.inj hf).symm
    unfold fX3_likeliestCell_4b at hf
    refine g_iload_n (pc := 4) X dX3_likeliestCell_4 rfl 2 rfl ?_
    refine g_sipush (v := (128 : Int32)) (pc := 5) X dX3_likeliestCell_5 (by decide) ?_
    refine g_icmp_ge (pc := 8) (tgt := 35) X dX3_likeliestCell_8 (by decide) (fun hc => ?_) (fun hc => ?_)
    · have hf := itp hc hf
      have he4 := he4 _ (Option.some.inj hf).symm
      subst he4
      have hf : some v1 = some r := hrest4
      refine g_iload_n (pc := 35) X dX3_likeliestCell_35 rfl 1 rfl ?_
      obtain rfl := Option.some.inj hf
      exact hret _ _ rfl dX3_likeliestCell_36
    · have hf := itn hc hf
      refine g_aload_n (pc := 11) X dX3_likeliestCell_11 rfl 0 rfl ?_
      obtain ⟨hk3, hf⟩ := gp_some hf
      obtain ⟨q4, hr5, hf⟩ := bnd_some hf
      refine g_getR (pc := 12) X fl_X3_9 (KClt hk3 (by decide)) hk3 hr5 dX3_likeliestCell_12 ?_
      refine g_iload_n (pc := 15) X dX3_likeliestCell_15 rfl 2 rfl ?_
      obtain ⟨hk6, hf⟩ := gp_some hf
      obtain ⟨hi7, hf⟩ := gp_some hf
      refine g_lald (pc := 16) X (KClt hk6 (by decide)) hk6 hi7 dX3_likeliestCell_16 ?_
      refine g_aload_n (pc := 17) X dX3_likeliestCell_17 rfl 0 rfl ?_
      refine g_getR (pc := 18) X fl_X3_9 (KClt hk3 (by decide)) hk3 hr5 dX3_likeliestCell_18 ?_
      refine g_iload_n (pc := 21) X dX3_likeliestCell_21 rfl 1 rfl ?_
      obtain ⟨hi8, hf⟩ := gp_some hf
      refine g_lald (pc := 22) X (KClt hk6 (by decide)) hk6 hi8 dX3_likeliestCell_22 ?_
      refine g_lcmp_le (pc := 23) (tgt := 29) X dX3_likeliestCell_23 dX3_likeliestCell_24 (by decide) (fun hc => ?_) (fun hc => ?_)
      · have hf := itp hc hf
        exact hL29 _ _ hf
      · have hf := itn hc hf
        refine g_iload_n (pc := 27) X dX3_likeliestCell_27 rfl 2 rfl ?_
        refine g_istore_n (lv2 := [(0, .ref (ad v0)), (1, .int v2), (2, .int v2)]) (pc := 28) X dX3_likeliestCell_28 rfl (by decide) [1, 0, 2] rfl ?_
        exact hL29 _ _ hf
  unfold fX3_likeliestCell at hf
  refine g_iconst (v := (0 : Int32)) (pc := 0) X dX3_likeliestCell_0 (by decide) ?_
  obtain ⟨v1_9, e10, hf⟩ := lt1_some hf
  refine g_topi e10 ?_
  refine g_istore_n (lv2 := [(0, .ref (ad v0)), (1, .int v1_9)]) (pc := 1) X dX3_likeliestCell_1 rfl (by decide) [1, 0] rfl ?_
  refine g_iconst (v := (1 : Int32)) (pc := 2) X dX3_likeliestCell_2 (by decide) ?_
  obtain ⟨v2_11, e12, hf⟩ := lt1_some hf
  refine g_topi e12 ?_
  refine g_istore_n (lv2 := [(0, .ref (ad v0)), (1, .int v1_9), (2, .int v2_11)]) (pc := 3) X dX3_likeliestCell_3 rfl (by decide) [1, 2, 0] rfl ?_
  exact hL4 _ _ _ hf

noncomputable def fX11_boat (v0 : Nat) (v1 : Int32) (v2 : Int32) (v3 : Int32) (m : Mem) : Option (Int64 × Mem) := gp (KC v0 = 11) (bnd (m.2.2 v0 6) (fun q2 => gp (KC q2 = 10) (bnd (m.2.2 q2 0) (fun q5 => gp (KC q5 = 9) (bnd (fX9_isOpen q5 v1 m) (fun r8 => if r8 = 0 then (some ((-9000000000000000001 : Int64), m)) else (bnd (fX11_isWithin v2 (0 : Int32) (7 : Int32)) (fun r11 => if r11 = 0 then (some ((-9000000000000000001 : Int64), m)) else (bnd (fX11_isWithin v3 (0 : Int32) (8 : Int32)) (fun r13 => if r13 = 0 then (some ((-9000000000000000001 : Int64), m)) else (bnd (m.2.2 v0 4) (fun q14 => gp (KC q14 = 3) (bnd (fX3_go q14 q5 v1 v2 v3 m) (fun m17 => bnd (m17.2.2 v0 4) (fun q19 => gp (KC q19 = 3) (bnd (fX3_likeliestCell q19 m17) (fun r22 => some (r22.toInt64, m17))))))))))))))))))
set_option maxHeartbeats 4000000 in
set_option maxRecDepth 100000 in
theorem cX11_boat_ct (z : Zx) (ad : Nat → Nat) (v0 : Nat) (v1 : Int32) (v2 : Int32) (v3 : Int32) (m m2 : Mem) (r : Int64) (hf : fX11_boat v0 v1 v2 v3 m = some (r, m2)) : CtL z wC yX11_boat cX11_boat 4 (some .long) (Rm 9) ad 91 [.ref (ad v0), .int v1, .int v2, .int v3] m m2 r := by
  refine ct_ofL mi_X11_boat rfl (Nat.le_of_ble_eq_true rfl) (fun x X hret => ?_)
  refine g_lv [(0, .ref (ad v0)), (1, .int v1), (2, .int v2), (3, .int v3)] [0, 1, 2, 3] rfl ?_
  unfold fX11_boat at hf
  refine g_aload_n (pc := 0) X dX11_boat_0 rfl 0 rfl ?_
  obtain ⟨hk1, hf⟩ := gp_some hf
  obtain ⟨q2, hr3, hf⟩ := bnd_some hf
  refine g_getR (pc := 1) X fl_X11_52 (KClt hk1 (by decide)) hk1 hr3 dX11_boat_1 ?_
  obtain ⟨hk4, hf⟩ := gp_some hf
  obtain ⟨q5, hr6, hf⟩ := bnd_some hf
  refine g_getR (pc := 4) X fl_X11_150 (KClt hk4 (by decide)) hk4 hr6 dX11_boat_4 ?_
  refine g_iload_n (pc := 7) X dX11_boat_7 rfl 1 rfl ?_
  obtain ⟨hk9, hf⟩ := gp_some hf
  obtain ⟨r8, hq7, hf⟩ := bnd_some hf
  refine g_callVI (pc := 8) (As := [.int v1]) (rest := []) X mi_X9_isOpen im_X9_isOpen se_X9_isOpen (KClt hk9 (by decide)) hk9 clX9 ml_X11_215 (cX9_isOpen_ct z ad q5 v1 m r8 hq7) rfl rfl (Nat.le_of_ble_eq_true rfl) ⟨rfl, rfl, by decide, by decide, Nat.le_refl _, Nat.le_refl _⟩ dX11_boat_8 ?_
  refine g_if_eq (pc := 11) (tgt := 34) X dX11_boat_11 (by decide) (fun hc => ?_) (fun hc => ?_)
  · have hf := itp hc hf
    refine g_ldc2 (pc := 34) X dX11_boat_34 kl_X11_64 ?_
    obtain ⟨rfl, rfl⟩ := som2 hf
    exact hret _ _ dX11_boat_37
  · have hf := itn hc hf
    refine g_iload_n (pc := 14) X dX11_boat_14 rfl 2 rfl ?_
    refine g_iconst (v := (0 : Int32)) (pc := 15) X dX11_boat_15 (by decide) ?_
    refine g_bipush (v := (7 : Int32)) (pc := 16) X dX11_boat_16 (by decide) ?_
    obtain ⟨r11, hq10, hf⟩ := bnd_some hf
    refine g_callSI (pc := 18) (As := [.int v2, .int (0 : Int32), .int (7 : Int32)]) (rest := []) X mi_X11_isWithin sm_X11_isWithin ml_X11_60 (cX11_isWithin_ct z ad v2 (0 : Int32) (7 : Int32) m r11 hq10) rfl rfl (Nat.le_of_ble_eq_true rfl) ⟨rfl, rfl, by decide, by decide, Nat.le_refl _, Nat.le_refl _⟩ dX11_boat_18 ?_
    refine g_if_eq (pc := 21) (tgt := 34) X dX11_boat_21 (by decide) (fun hc => ?_) (fun hc => ?_)
    · have hf := itp hc hf
      refine g_ldc2 (pc := 34) X dX11_boat_34 kl_X11_64 ?_
      obtain ⟨rfl, rfl⟩ := som2 hf
      exact hret _ _ dX11_boat_37
    · have hf := itn hc hf
      refine g_iload_n (pc := 24) X dX11_boat_24 rfl 3 rfl ?_
      refine g_iconst (v := (0 : Int32)) (pc := 25) X dX11_boat_25 (by decide) ?_
      refine g_bipush (v := (8 : Int32)) (pc := 26) X dX11_boat_26 (by decide) ?_
      obtain ⟨r13, hq12, hf⟩ := bnd_some hf
      refine g_callSI (pc := 28) (As := [.int v3, .int (0 : Int32), .int (8 : Int32)]) (rest := []) X mi_X11_isWithin sm_X11_isWithin ml_X11_60 (cX11_isWithin_ct z ad v3 (0 : Int32) (8 : Int32) m r13 hq12) rfl rfl (Nat.le_of_ble_eq_true rfl) ⟨rfl, rfl, by decide, by decide, Nat.le_refl _, Nat.le_refl _⟩ dX11_boat_28 ?_
      refine g_if_ne (pc := 31) (tgt := 38) X dX11_boat_31 (by decide) (fun hc => ?_) (fun hc => ?_)
      · have hf := itn hc hf
        refine g_aload_n (pc := 38) X dX11_boat_38 rfl 0 rfl ?_
        obtain ⟨q14, hr15, hf⟩ := bnd_some hf
        refine g_getR (pc := 39) X fl_X11_40 (KClt hk1 (by decide)) hk1 hr15 dX11_boat_39 ?_
        refine g_aload_n (pc := 42) X dX11_boat_42 rfl 0 rfl ?_
        refine g_getR (pc := 43) X fl_X11_52 (KClt hk1 (by decide)) hk1 hr3 dX11_boat_43 ?_
        refine g_getR (pc := 46) X fl_X11_150 (KClt hk4 (by decide)) hk4 hr6 dX11_boat_46 ?_
        refine g_iload_n (pc := 49) X dX11_boat_49 rfl 1 rfl ?_
        refine g_iload_n (pc := 50) X dX11_boat_50 rfl 2 rfl ?_
        refine g_iload_n (pc := 51) X dX11_boat_51 rfl 3 rfl ?_
        obtain ⟨hk18, hf⟩ := gp_some hf
        obtain ⟨m17, hq16, hf⟩ := bnd_some hf
        refine g_callVV (pc := 52) (As := [.ref (ad q5), .int v1, .int v2, .int v3]) (rest := []) X mi_X3_go im_X3_go se_X3_go (KClt hk18 (by decide)) hk18 clX3 ml_X11_221 (cX3_go_ct z ad q14 q5 v1 v2 v3 m m17 hq16) rfl rfl (Nat.le_of_ble_eq_true rfl) ⟨rfl, rfl, by decide, by decide, Nat.le_refl _, Nat.le_refl _⟩ dX11_boat_52 ?_
        refine g_aload_n (pc := 55) X dX11_boat_55 rfl 0 rfl ?_
        obtain ⟨q19, hr20, hf⟩ := bnd_some hf
        refine g_getR (pc := 56) X fl_X11_40 (KClt hk1 (by decide)) hk1 hr20 dX11_boat_56 ?_
        obtain ⟨hk23, hf⟩ := gp_some hf
        obtain ⟨r22, hq21, hf⟩ := bnd_some hf
        refine g_callVI (pc := 59) (As := []) (rest := []) X mi_X3_likeliestCell im_X3_likeliestCell se_X3_likeliestCell (KClt hk23 (by decide)) hk23 clX3 ml_X11_258 (cX3_likeliestCell_ct z ad q19 m17 r22 hq21) rfl rfl (Nat.le_of_ble_eq_true rfl) ⟨rfl, rfl, by decide, by decide, Nat.le_refl _, Nat.le_refl _⟩ dX11_boat_59 ?_
        refine g_i2l (pc := 62) X dX11_boat_62 ?_
        obtain ⟨rfl, rfl⟩ := som2 hf
        exact hret _ _ dX11_boat_63
      · have hf := itp hc hf
        refine g_ldc2 (pc := 34) X dX11_boat_34 kl_X11_64 ?_
        obtain ⟨rfl, rfl⟩ := som2 hf
        exact hret _ _ dX11_boat_37

noncomputable def fX11_thought (v0 : Nat) (v1 : Int32) (v2 : Int32) (v3 : Int32) : Option Int64 := bnd (fX11_isWithin v1 (-999 : Int32) (999 : Int32)) (fun r2 => if r2 = 0 then (some (-9000000000000000001 : Int64)) else (bnd (fX11_isWithin v2 (-99 : Int32) (99 : Int32)) (fun r4 => if r4 = 0 then (some (-9000000000000000001 : Int64)) else (bnd (fX11_isWithin v3 (1 : Int32) (60 : Int32)) (fun r6 => if r6 = 0 then (some (-9000000000000000001 : Int64)) else (gp (¬ v3 = 0) (some ((v1 + (v2 / v3)).toInt64))))))))
set_option maxHeartbeats 4000000 in
set_option maxRecDepth 100000 in
theorem cX11_thought_ct (z : Zx) (ad : Nat → Nat) (v0 : Nat) (v1 : Int32) (v2 : Int32) (v3 : Int32) (m : Mem) (r : Int64) (hf : fX11_thought v0 v1 v2 v3 = some r) : CtL z wC yX11_thought cX11_thought 4 (some .long) (Rm 3) ad 91 [.ref (ad v0), .int v1, .int v2, .int v3] m m r := by
  refine ct_ofL mi_X11_thought rfl (Nat.le_of_ble_eq_true rfl) (fun x X hret => ?_)
  refine g_lv [(0, .ref (ad v0)), (1, .int v1), (2, .int v2), (3, .int v3)] [0, 1, 2, 3] rfl ?_
  unfold fX11_thought at hf
  refine g_iload_n (pc := 0) X dX11_thought_0 rfl 1 rfl ?_
  refine g_sipush (v := (-999 : Int32)) (pc := 1) X dX11_thought_1 (by decide) ?_
  refine g_sipush (v := (999 : Int32)) (pc := 4) X dX11_thought_4 (by decide) ?_
  obtain ⟨r2, hq1, hf⟩ := bnd_some hf
  refine g_callSI (pc := 7) (As := [.int v1, .int (-999 : Int32), .int (999 : Int32)]) (rest := []) X mi_X11_isWithin sm_X11_isWithin ml_X11_60 (cX11_isWithin_ct z ad v1 (-999 : Int32) (999 : Int32) m r2 hq1) rfl rfl (Nat.le_of_ble_eq_true rfl) ⟨rfl, rfl, by decide, by decide, Nat.le_refl _, Nat.le_refl _⟩ dX11_thought_7 ?_
  refine g_if_eq (pc := 10) (tgt := 34) X dX11_thought_10 (by decide) (fun hc => ?_) (fun hc => ?_)
  · have hf := itp hc hf
    refine g_ldc2 (pc := 34) X dX11_thought_34 kl_X11_64 ?_
    obtain rfl := Option.some.inj hf
    exact hret _ _ dX11_thought_37
  · have hf := itn hc hf
    refine g_iload_n (pc := 13) X dX11_thought_13 rfl 2 rfl ?_
    refine g_bipush (v := (-99 : Int32)) (pc := 14) X dX11_thought_14 (by decide) ?_
    refine g_bipush (v := (99 : Int32)) (pc := 16) X dX11_thought_16 (by decide) ?_
    obtain ⟨r4, hq3, hf⟩ := bnd_some hf
    refine g_callSI (pc := 18) (As := [.int v2, .int (-99 : Int32), .int (99 : Int32)]) (rest := []) X mi_X11_isWithin sm_X11_isWithin ml_X11_60 (cX11_isWithin_ct z ad v2 (-99 : Int32) (99 : Int32) m r4 hq3) rfl rfl (Nat.le_of_ble_eq_true rfl) ⟨rfl, rfl, by decide, by decide, Nat.le_refl _, Nat.le_refl _⟩ dX11_thought_18 ?_
    refine g_if_eq (pc := 21) (tgt := 34) X dX11_thought_21 (by decide) (fun hc => ?_) (fun hc => ?_)
    · have hf := itp hc hf
      refine g_ldc2 (pc := 34) X dX11_thought_34 kl_X11_64 ?_
      obtain rfl := Option.some.inj hf
      exact hret _ _ dX11_thought_37
    · have hf := itn hc hf
      refine g_iload_n (pc := 24) X dX11_thought_24 rfl 3 rfl ?_
      refine g_iconst (v := (1 : Int32)) (pc := 25) X dX11_thought_25 (by decide) ?_
      refine g_bipush (v := (60 : Int32)) (pc := 26) X dX11_thought_26 (by decide) ?_
      obtain ⟨r6, hq5, hf⟩ := bnd_some hf
      refine g_callSI (pc := 28) (As := [.int v3, .int (1 : Int32), .int (60 : Int32)]) (rest := []) X mi_X11_isWithin sm_X11_isWithin ml_X11_60 (cX11_isWithin_ct z ad v3 (1 : Int32) (60 : Int32) m r6 hq5) rfl rfl (Nat.le_of_ble_eq_true rfl) ⟨rfl, rfl, by decide, by decide, Nat.le_refl _, Nat.le_refl _⟩ dX11_thought_28 ?_
      refine g_if_ne (pc := 31) (tgt := 38) X dX11_thought_31 (by decide) (fun hc => ?_) (fun hc => ?_)
      · have hf := itn hc hf
        refine g_iload_n (pc := 38) X dX11_thought_38 rfl 1 rfl ?_
        refine g_iload_n (pc := 39) X dX11_thought_39 rfl 2 rfl ?_
        refine g_iload_n (pc := 40) X dX11_thought_40 rfl 3 rfl ?_
        obtain ⟨hz7, hf⟩ := gp_some hf
        refine g_idiv (pc := 41) X dX11_thought_41 hz7 ?_
        refine g_iadd (pc := 42) X dX11_thought_42 ?_
        refine g_i2l (pc := 43) X dX11_thought_43 ?_
        obtain rfl := Option.some.inj hf
        exact hret _ _ dX11_thought_44
      · have hf := itp hc hf
        refine g_ldc2 (pc := 34) X dX11_thought_34 kl_X11_64 ?_
        obtain rfl := Option.some.inj hf
        exact hret _ _ dX11_thought_37

noncomputable def fX11_isTold (v0 : Int32) (v1 : Int32) : Option Int32 := bnd (fX11_isWithin v0 (0 : Int32) (200 : Int32)) (fun r2 => if r2 = 0 then (some (0 : Int32)) else (bnd (fX11_isWithin v1 (0 : Int32) (50 : Int32)) (fun r4 => if r4 = 0 then (some (0 : Int32)) else (some (1 : Int32)))))
set_option maxHeartbeats 4000000 in
set_option maxRecDepth 100000 in
theorem cX11_isTold_ct (z : Zx) (ad : Nat → Nat) (v0 : Int32) (v1 : Int32) (m : Mem) (r : Int32) (hf : fX11_isTold v0 v1 = some r) : CtI z wC yX11_isTold cX11_isTold 2 (some .boolean) (Rm 3) ad 91 [.int v0, .int v1] m m r := by
  refine ct_ofI mi_X11_isTold rfl (Nat.le_of_ble_eq_true rfl) (fun x X hret => ?_)
  refine g_lv [(0, .int v0), (1, .int v1)] [0, 1] rfl ?_
  unfold fX11_isTold at hf
  refine g_iload_n (pc := 0) X dX11_isTold_0 rfl 0 rfl ?_
  refine g_iconst (v := (0 : Int32)) (pc := 1) X dX11_isTold_1 (by decide) ?_
  refine g_sipush (v := (200 : Int32)) (pc := 2) X dX11_isTold_2 (by decide) ?_
  obtain ⟨r2, hq1, hf⟩ := bnd_some hf
  refine g_callSI (pc := 5) (As := [.int v0, .int (0 : Int32), .int (200 : Int32)]) (rest := []) X mi_X11_isWithin sm_X11_isWithin ml_X11_60 (cX11_isWithin_ct z ad v0 (0 : Int32) (200 : Int32) m r2 hq1) rfl rfl (Nat.le_of_ble_eq_true rfl) ⟨rfl, rfl, by decide, by decide, Nat.le_refl _, Nat.le_refl _⟩ dX11_isTold_5 ?_
  refine g_if_eq (pc := 8) (tgt := 25) X dX11_isTold_8 (by decide) (fun hc => ?_) (fun hc => ?_)
  · have hf := itp hc hf
    refine g_iconst (v := (0 : Int32)) (pc := 25) X dX11_isTold_25 (by decide) ?_
    obtain rfl := Option.some.inj hf
    exact hret _ _ (by decide) dX11_isTold_26
  · have hf := itn hc hf
    refine g_iload_n (pc := 11) X dX11_isTold_11 rfl 1 rfl ?_
    refine g_iconst (v := (0 : Int32)) (pc := 12) X dX11_isTold_12 (by decide) ?_
    refine g_bipush (v := (50 : Int32)) (pc := 13) X dX11_isTold_13 (by decide) ?_
    obtain ⟨r4, hq3, hf⟩ := bnd_some hf
    refine g_callSI (pc := 15) (As := [.int v1, .int (0 : Int32), .int (50 : Int32)]) (rest := []) X mi_X11_isWithin sm_X11_isWithin ml_X11_60 (cX11_isWithin_ct z ad v1 (0 : Int32) (50 : Int32) m r4 hq3) rfl rfl (Nat.le_of_ble_eq_true rfl) ⟨rfl, rfl, by decide, by decide, Nat.le_refl _, Nat.le_refl _⟩ dX11_isTold_15 ?_
    refine g_if_eq (pc := 18) (tgt := 25) X dX11_isTold_18 (by decide) (fun hc => ?_) (fun hc => ?_)
    · have hf := itp hc hf
      refine g_iconst (v := (0 : Int32)) (pc := 25) X dX11_isTold_25 (by decide) ?_
      obtain rfl := Option.some.inj hf
      exact hret _ _ (by decide) dX11_isTold_26
    · have hf := itn hc hf
      refine g_iconst (v := (1 : Int32)) (pc := 21) X dX11_isTold_21 (by decide) ?_
      refine g_goto (pc := 22) (tgt := 26) X dX11_isTold_22 (by decide) ?_
      obtain rfl := Option.some.inj hf
      exact hret _ _ (by decide) dX11_isTold_26

noncomputable def fX4_waterByRod_14 (s0 : Nat) (s1 : Int32) (m : Mem) : Option Int32 := gp (KC s0 = 4) (bnd (fX4_held s0 s1 m) (fun r2 => some r2))
noncomputable def fX4_waterByRod (v0 : Nat) (v1 : Int32) (v2 : Int32) (v3 : Int32) (m : Mem) : Option Int32 := if v3 = 0 then (fX4_waterByRod_14 v0 (v1 - v2) m) else (fX4_waterByRod_14 v0 (v1 + v2) m)
set_option maxHeartbeats 4000000 in
set_option maxRecDepth 100000 in
theorem cX4_waterByRod_ct (z : Zx) (ad : Nat → Nat) (v0 : Nat) (v1 : Int32) (v2 : Int32) (v3 : Int32) (m : Mem) (r : Int32) (hf : fX4_waterByRod v0 v1 v2 v3 m = some r) : CtI z wC yX4_waterByRod cX4_waterByRod 4 (some .int) (Rm 3) ad 91 [.ref (ad v0), .int v1, .int v2, .int v3] m m r := by
  refine ct_ofI mi_X4_waterByRod rfl (Nat.le_of_ble_eq_true rfl) (fun x X hret => ?_)
  refine g_lv [(0, .ref (ad v0)), (1, .int v1), (2, .int v2), (3, .int v3)] [0, 1, 2, 3] rfl ?_
  have hL14 : ∀ (s0 : Nat) (s1 : Int32), fX4_waterByRod_14 s0 s1 m = some r → G z wC x 4 0 0 ad 91 m 14 [] [.int s1, .ref (ad s0)] := by
    intro s0 s1 hf
    unfold fX4_waterByRod_14 at hf
    obtain ⟨hk3, hf⟩ := gp_some hf
    obtain ⟨r2, hq1, hf⟩ := bnd_some hf
    refine g_callVI (pc := 14) (As := [.int s1]) (rest := []) X mi_X4_held im_X4_held se_X4_held (KClt hk3 (by decide)) hk3 clX4 ml_X4_62 (cX4_held_ct z ad s0 s1 m r2 hq1) rfl rfl (Nat.le_of_ble_eq_true rfl) ⟨rfl, rfl, by decide, by decide, Nat.le_refl _, Nat.le_refl _⟩ dX4_waterByRod_14 ?_
    obtain rfl := Option.some.inj hf
    exact hret _ _ rfl dX4_waterByRod_17
  unfold fX4_waterByRod at hf
  refine g_aload_n (pc := 0) X dX4_waterByRod_0 rfl 0 rfl ?_
  refine g_iload_n (pc := 1) X dX4_waterByRod_1 rfl 3 rfl ?_
  refine g_if_ne (pc := 2) (tgt := 11) X dX4_waterByRod_2 (by decide) (fun hc => ?_) (fun hc => ?_)
  · have hf := itn hc hf
    refine g_iload_n (pc := 11) X dX4_waterByRod_11 rfl 1 rfl ?_
    refine g_iload_n (pc := 12) X dX4_waterByRod_12 rfl 2 rfl ?_
    refine g_iadd (pc := 13) X dX4_waterByRod_13 ?_
    refine g_lv [] [] rfl ?_
    exact hL14 _ _ hf
  · have hf := itp hc hf
    refine g_iload_n (pc := 5) X dX4_waterByRod_5 rfl 1 rfl ?_
    refine g_iload_n (pc := 6) X dX4_waterByRod_6 rfl 2 rfl ?_
    refine g_isub (pc := 7) X dX4_waterByRod_7 ?_
    refine g_goto (pc := 8) (tgt := 14) X dX4_waterByRod_8 (by decide) ?_
    refine g_lv [] [] rfl ?_
    exact hL14 _ _ hf

noncomputable def fX11_seemed (v0 : Nat) (v1 : Int32) (v2 : Int32) (v3 : Int32) (m : Mem) : Option Int64 := gp (KC v0 = 11) (bnd (m.2.2 v0 6) (fun q2 => gp (KC q2 = 10) (if (m.1 q2 4) = 0 then (some (-9000000000000000002 : Int64)) else (bnd (fX11_isTold v1 v2) (fun r6 => if r6 = 0 then (some (-9000000000000000001 : Int64)) else (bnd (fX11_isWithin v3 (0 : Int32) (1 : Int32)) (fun r8 => if r8 = 0 then (some (-9000000000000000001 : Int64)) else (bnd (m.2.2 q2 1) (fun q9 => gp (KC q9 = 4) (bnd (fX4_waterByRod q9 v1 v2 v3 m) (fun r12 => some r12.toInt64)))))))))))
set_option maxHeartbeats 4000000 in
set_option maxRecDepth 100000 in
theorem cX11_seemed_ct (z : Zx) (ad : Nat → Nat) (v0 : Nat) (v1 : Int32) (v2 : Int32) (v3 : Int32) (m : Mem) (r : Int64) (hf : fX11_seemed v0 v1 v2 v3 m = some r) : CtL z wC yX11_seemed cX11_seemed 4 (some .long) (Rm 4) ad 91 [.ref (ad v0), .int v1, .int v2, .int v3] m m r := by
  refine ct_ofL mi_X11_seemed rfl (Nat.le_of_ble_eq_true rfl) (fun x X hret => ?_)
  refine g_lv [(0, .ref (ad v0)), (1, .int v1), (2, .int v2), (3, .int v3)] [0, 1, 2, 3] rfl ?_
  unfold fX11_seemed at hf
  refine g_aload_n (pc := 0) X dX11_seemed_0 rfl 0 rfl ?_
  obtain ⟨hk1, hf⟩ := gp_some hf
  obtain ⟨q2, hr3, hf⟩ := bnd_some hf
  refine g_getR (pc := 1) X fl_X11_52 (KClt hk1 (by decide)) hk1 hr3 dX11_seemed_1 ?_
  obtain ⟨hk4, hf⟩ := gp_some hf
  refine g_getI (pc := 4) X fl_X11_144 (KClt hk4 (by decide)) hk4 dX11_seemed_4 ?_
  refine g_if_ne (pc := 7) (tgt := 14) X dX11_seemed_7 (by decide) (fun hc => ?_) (fun hc => ?_)
  · have hf := itn hc hf
    refine g_iload_n (pc := 14) X dX11_seemed_14 rfl 1 rfl ?_
    refine g_iload_n (pc := 15) X dX11_seemed_15 rfl 2 rfl ?_
    obtain ⟨r6, hq5, hf⟩ := bnd_some hf
    refine g_callSI (pc := 16) (As := [.int v1, .int v2]) (rest := []) X mi_X11_isTold sm_X11_isTold ml_X11_262 (cX11_isTold_ct z ad v1 v2 m r6 hq5) rfl rfl (Nat.le_of_ble_eq_true rfl) ⟨rfl, rfl, by decide, by decide, Nat.le_refl _, Nat.le_refl _⟩ dX11_seemed_16 ?_
    refine g_if_eq (pc := 19) (tgt := 31) X dX11_seemed_19 (by decide) (fun hc => ?_) (fun hc => ?_)
    · have hf := itp hc hf
      refine g_ldc2 (pc := 31) X dX11_seemed_31 kl_X11_64 ?_
      obtain rfl := Option.some.inj hf
      exact hret _ _ dX11_seemed_34
    · have hf := itn hc hf
      refine g_iload_n (pc := 22) X dX11_seemed_22 rfl 3 rfl ?_
      refine g_iconst (v := (0 : Int32)) (pc := 23) X dX11_seemed_23 (by decide) ?_
      refine g_iconst (v := (1 : Int32)) (pc := 24) X dX11_seemed_24 (by decide) ?_
      obtain ⟨r8, hq7, hf⟩ := bnd_some hf
      refine g_callSI (pc := 25) (As := [.int v3, .int (0 : Int32), .int (1 : Int32)]) (rest := []) X mi_X11_isWithin sm_X11_isWithin ml_X11_60 (cX11_isWithin_ct z ad v3 (0 : Int32) (1 : Int32) m r8 hq7) rfl rfl (Nat.le_of_ble_eq_true rfl) ⟨rfl, rfl, by decide, by decide, Nat.le_refl _, Nat.le_refl _⟩ dX11_seemed_25 ?_
      refine g_if_ne (pc := 28) (tgt := 35) X dX11_seemed_28 (by decide) (fun hc => ?_) (fun hc => ?_)
      · have hf := itn hc hf
        refine g_aload_n (pc := 35) X dX11_seemed_35 rfl 0 rfl ?_
        refine g_getR (pc := 36) X fl_X11_52 (KClt hk1 (by decide)) hk1 hr3 dX11_seemed_36 ?_
        obtain ⟨q9, hr10, hf⟩ := bnd_some hf
        refine g_getR (pc := 39) X fl_X11_159 (KClt hk4 (by decide)) hk4 hr10 dX11_seemed_39 ?_
        refine g_iload_n (pc := 42) X dX11_seemed_42 rfl 1 rfl ?_
        refine g_iload_n (pc := 43) X dX11_seemed_43 rfl 2 rfl ?_
        refine g_iload_n (pc := 44) X dX11_seemed_44 rfl 3 rfl ?_
        obtain ⟨hk13, hf⟩ := gp_some hf
        obtain ⟨r12, hq11, hf⟩ := bnd_some hf
        refine g_callVI (pc := 45) (As := [.int v1, .int v2, .int v3]) (rest := []) X mi_X4_waterByRod im_X4_waterByRod se_X4_waterByRod (KClt hk13 (by decide)) hk13 clX4 ml_X11_265 (cX4_waterByRod_ct z ad q9 v1 v2 v3 m r12 hq11) rfl rfl (Nat.le_of_ble_eq_true rfl) ⟨rfl, rfl, by decide, by decide, Nat.le_refl _, Nat.le_refl _⟩ dX11_seemed_45 ?_
        refine g_i2l (pc := 48) X dX11_seemed_48 ?_
        obtain rfl := Option.some.inj hf
        exact hret _ _ dX11_seemed_49
      · have hf := itp hc hf
        refine g_ldc2 (pc := 31) X dX11_seemed_31 kl_X11_64 ?_
        obtain rfl := Option.some.inj hf
        exact hret _ _ dX11_seemed_34
  · have hf := itp hc hf
    refine g_ldc2 (pc := 10) X dX11_seemed_10 kl_X11_148 ?_
    obtain rfl := Option.some.inj hf
    exact hret _ _ dX11_seemed_13

noncomputable def fX4_hoursToDeep (v0 : Nat) (v1 : Int32) (m : Mem) : Option Int32 := gp (KC v0 = 4) (if v1 < (m.1 v0 2) then (if 0 < (m.1 v0 1) then (gp (¬ (m.1 v0 1) = 0) (some (((((m.1 v0 2) - v1) + (m.1 v0 1)) - (1 : Int32)) / (m.1 v0 1)))) else (some (-1000000 : Int32))) else (some (0 : Int32)))
set_option maxHeartbeats 4000000 in
set_option maxRecDepth 100000 in
theorem cX4_hoursToDeep_ct (z : Zx) (ad : Nat → Nat) (v0 : Nat) (v1 : Int32) (m : Mem) (r : Int32) (hf : fX4_hoursToDeep v0 v1 m = some r) : CtI z wC yX4_hoursToDeep cX4_hoursToDeep 2 (some .int) (Rm 2) ad 91 [.ref (ad v0), .int v1] m m r := by
  refine ct_ofI mi_X4_hoursToDeep rfl (Nat.le_of_ble_eq_true rfl) (fun x X hret => ?_)
  refine g_lv [(0, .ref (ad v0)), (1, .int v1)] [0, 1] rfl ?_
  unfold fX4_hoursToDeep at hf
  refine g_iload_n (pc := 0) X dX4_hoursToDeep_0 rfl 1 rfl ?_
  refine g_aload_n (pc := 1) X dX4_hoursToDeep_1 rfl 0 rfl ?_
  obtain ⟨hk1, hf⟩ := gp_some hf
  refine g_getI (pc := 2) X fl_X4_25 (KClt hk1 (by decide)) hk1 dX4_hoursToDeep_2 ?_
  refine g_icmp_lt (pc := 5) (tgt := 10) X dX4_hoursToDeep_5 (by decide) (fun hc => ?_) (fun hc => ?_)
  · have hf := itp hc hf
    refine g_aload_n (pc := 10) X dX4_hoursToDeep_10 rfl 0 rfl ?_
    refine g_getI (pc := 11) X fl_X4_19 (KClt hk1 (by decide)) hk1 dX4_hoursToDeep_11 ?_
    refine g_if_gt (pc := 14) (tgt := 22) X dX4_hoursToDeep_14 (by decide) (fun hc => ?_) (fun hc => ?_)
    · have hf := itp hc hf
      refine g_aload_n (pc := 22) X dX4_hoursToDeep_22 rfl 0 rfl ?_
      refine g_getI (pc := 23) X fl_X4_25 (KClt hk1 (by decide)) hk1 dX4_hoursToDeep_23 ?_
      refine g_iload_n (pc := 26) X dX4_hoursToDeep_26 rfl 1 rfl ?_
      refine g_isub (pc := 27) X dX4_hoursToDeep_27 ?_
      refine g_aload_n (pc := 28) X dX4_hoursToDeep_28 rfl 0 rfl ?_
      refine g_getI (pc := 29) X fl_X4_19 (KClt hk1 (by decide)) hk1 dX4_hoursToDeep_29 ?_
      refine g_iadd (pc := 32) X dX4_hoursToDeep_32 ?_
      refine g_iconst (v := (1 : Int32)) (pc := 33) X dX4_hoursToDeep_33 (by decide) ?_
      refine g_isub (pc := 34) X dX4_hoursToDeep_34 ?_
      refine g_aload_n (pc := 35) X dX4_hoursToDeep_35 rfl 0 rfl ?_
      refine g_getI (pc := 36) X fl_X4_19 (KClt hk1 (by decide)) hk1 dX4_hoursToDeep_36 ?_
      obtain ⟨hz2, hf⟩ := gp_some hf
      refine g_idiv (pc := 39) X dX4_hoursToDeep_39 hz2 ?_
      obtain rfl := Option.some.inj hf
      exact hret _ _ rfl dX4_hoursToDeep_40
    · have hf := itn hc hf
      refine g_ldc (pc := 17) X dX4_hoursToDeep_17 k_X4_66 ?_
      refine g_goto (pc := 19) (tgt := 40) X dX4_hoursToDeep_19 (by decide) ?_
      obtain rfl := Option.some.inj hf
      exact hret _ _ rfl dX4_hoursToDeep_40
  · have hf := itn hc hf
    refine g_iconst (v := (0 : Int32)) (pc := 8) X dX4_hoursToDeep_8 (by decide) ?_
    obtain rfl := Option.some.inj hf
    exact hret _ _ rfl dX4_hoursToDeep_9

noncomputable def fX11_deep (v0 : Nat) (v1 : Int32) (m : Mem) : Option Int64 := gp (KC v0 = 11) (bnd (m.2.2 v0 6) (fun q2 => gp (KC q2 = 10) (if (m.1 q2 4) = 0 then (some (-9000000000000000002 : Int64)) else (bnd (fX11_isWithin v1 (0 : Int32) (200 : Int32)) (fun r6 => if r6 = 0 then (some (-9000000000000000001 : Int64)) else (bnd (m.2.2 q2 1) (fun q7 => gp (KC q7 = 4) (bnd (fX4_hoursToDeep q7 v1 m) (fun r10 => some r10.toInt64)))))))))
set_option maxHeartbeats 4000000 in
set_option maxRecDepth 100000 in
theorem cX11_deep_ct (z : Zx) (ad : Nat → Nat) (v0 : Nat) (v1 : Int32) (m : Mem) (r : Int64) (hf : fX11_deep v0 v1 m = some r) : CtL z wC yX11_deep cX11_deep 2 (some .long) (Rm 3) ad 91 [.ref (ad v0), .int v1] m m r := by
  refine ct_ofL mi_X11_deep rfl (Nat.le_of_ble_eq_true rfl) (fun x X hret => ?_)
  refine g_lv [(0, .ref (ad v0)), (1, .int v1)] [0, 1] rfl ?_
  unfold fX11_deep at hf
  refine g_aload_n (pc := 0) X dX11_deep_0 rfl 0 rfl ?_
  obtain ⟨hk1, hf⟩ := gp_some hf
  obtain ⟨q2, hr3, hf⟩ := bnd_some hf
  refine g_getR (pc := 1) X fl_X11_52 (KClt hk1 (by decide)) hk1 hr3 dX11_deep_1 ?_
  obtain ⟨hk4, hf⟩ := gp_some hf
  refine g_getI (pc := 4) X fl_X11_144 (KClt hk4 (by decide)) hk4 dX11_deep_4 ?_
  refine g_if_ne (pc := 7) (tgt := 14) X dX11_deep_7 (by decide) (fun hc => ?_) (fun hc => ?_)
  · have hf := itn hc hf
    refine g_iload_n (pc := 14) X dX11_deep_14 rfl 1 rfl ?_
    refine g_iconst (v := (0 : Int32)) (pc := 15) X dX11_deep_15 (by decide) ?_
    refine g_sipush (v := (200 : Int32)) (pc := 16) X dX11_deep_16 (by decide) ?_
    obtain ⟨r6, hq5, hf⟩ := bnd_some hf
    refine g_callSI (pc := 19) (As := [.int v1, .int (0 : Int32), .int (200 : Int32)]) (rest := []) X mi_X11_isWithin sm_X11_isWithin ml_X11_60 (cX11_isWithin_ct z ad v1 (0 : Int32) (200 : Int32) m r6 hq5) rfl rfl (Nat.le_of_ble_eq_true rfl) ⟨rfl, rfl, by decide, by decide, Nat.le_refl _, Nat.le_refl _⟩ dX11_deep_19 ?_
    refine g_if_ne (pc := 22) (tgt := 29) X dX11_deep_22 (by decide) (fun hc => ?_) (fun hc => ?_)
    · have hf := itn hc hf
      refine g_aload_n (pc := 29) X dX11_deep_29 rfl 0 rfl ?_
      refine g_getR (pc := 30) X fl_X11_52 (KClt hk1 (by decide)) hk1 hr3 dX11_deep_30 ?_
      obtain ⟨q7, hr8, hf⟩ := bnd_some hf
      refine g_getR (pc := 33) X fl_X11_159 (KClt hk4 (by decide)) hk4 hr8 dX11_deep_33 ?_
      refine g_iload_n (pc := 36) X dX11_deep_36 rfl 1 rfl ?_
      obtain ⟨hk11, hf⟩ := gp_some hf
      obtain ⟨r10, hq9, hf⟩ := bnd_some hf
      refine g_callVI (pc := 37) (As := [.int v1]) (rest := []) X mi_X4_hoursToDeep im_X4_hoursToDeep se_X4_hoursToDeep (KClt hk11 (by decide)) hk11 clX4 ml_X11_269 (cX4_hoursToDeep_ct z ad q7 v1 m r10 hq9) rfl rfl (Nat.le_of_ble_eq_true rfl) ⟨rfl, rfl, by decide, by decide, Nat.le_refl _, Nat.le_refl _⟩ dX11_deep_37 ?_
      refine g_i2l (pc := 40) X dX11_deep_40 ?_
      obtain rfl := Option.some.inj hf
      exact hret _ _ dX11_deep_41
    · have hf := itp hc hf
      refine g_ldc2 (pc := 25) X dX11_deep_25 kl_X11_64 ?_
      obtain rfl := Option.some.inj hf
      exact hret _ _ dX11_deep_28
  · have hf := itp hc hf
    refine g_ldc2 (pc := 10) X dX11_deep_10 kl_X11_148 ?_
    obtain rfl := Option.some.inj hf
    exact hret _ _ dX11_deep_13

noncomputable def fX11_was (v0 : Nat) (v1 : Int32) (v2 : Int32) (v3 : Int32) (v4 : Int32) (m : Mem) : Option Int64 := gp (KC v0 = 11) (bnd (m.2.2 v0 6) (fun q2 => gp (KC q2 = 10) (if (m.1 q2 4) = 0 then (some (-9000000000000000002 : Int64)) else (bnd (fX11_isTold v1 v2) (fun r6 => if r6 = 0 then (some (-9000000000000000001 : Int64)) else (bnd (fX11_isWithin v3 (0 : Int32) (99 : Int32)) (fun r8 => if r8 = 0 then (some (-9000000000000000001 : Int64)) else (bnd (fX11_isWithin v4 (0 : Int32) (1 : Int32)) (fun r10 => if r10 = 0 then (some (-9000000000000000001 : Int64)) else (bnd (m.2.2 q2 1) (fun q11 => gp (KC q11 = 4) (bnd (fX4_waterByRod q11 v1 v2 v4 m) (fun r14 => some ((if (0 : Int32) < (r14 - ((m.1 q11 1) * v3)) then (r14 - ((m.1 q11 1) * v3)) else (0 : Int32)).toInt64))))))))))))))
set_option maxHeartbeats 4000000 in
set_option maxRecDepth 100000 in
theorem cX11_was_ct (z : Zx) (ad : Nat → Nat) (v0 : Nat) (v1 : Int32) (v2 : Int32) (v3 : Int32) (v4 : Int32) (m : Mem) (r : Int64) (hf : fX11_was v0 v1 v2 v3 v4 m = some r) : CtL z wC yX11_was cX11_was 5 (some .long) (Rm 4) ad 91 [.ref (ad v0), .int v1, .int v2, .int v3, .int v4] m m r := by
  refine ct_ofL mi_X11_was rfl (Nat.le_of_ble_eq_true rfl) (fun x X hret => ?_)
  refine g_lv [(0, .ref (ad v0)), (1, .int v1), (2, .int v2), (3, .int v3), (4, .int v4)] [0, 1, 2, 3, 4] rfl ?_
  unfold fX11_was at hf
  refine g_aload_n (pc := 0) X dX11_was_0 rfl 0 rfl ?_
  obtain ⟨hk1, hf⟩ := gp_some hf
  obtain ⟨q2, hr3, hf⟩ := bnd_some hf
  refine g_getR (pc := 1) X fl_X11_52 (KClt hk1 (by decide)) hk1 hr3 dX11_was_1 ?_
  obtain ⟨hk4, hf⟩ := gp_some hf
  refine g_getI (pc := 4) X fl_X11_144 (KClt hk4 (by decide)) hk4 dX11_was_4 ?_
  refine g_if_ne (pc := 7) (tgt := 14) X dX11_was_7 (by decide) (fun hc => ?_) (fun hc => ?_)
  · have hf := itn hc hf
    refine g_iload_n (pc := 14) X dX11_was_14 rfl 1 rfl ?_
    refine g_iload_n (pc := 15) X dX11_was_15 rfl 2 rfl ?_
    obtain ⟨r6, hq5, hf⟩ := bnd_some hf
    refine g_callSI (pc := 16) (As := [.int v1, .int v2]) (rest := []) X mi_X11_isTold sm_X11_isTold ml_X11_262 (cX11_isTold_ct z ad v1 v2 m r6 hq5) rfl rfl (Nat.le_of_ble_eq_true rfl) ⟨rfl, rfl, by decide, by decide, Nat.le_refl _, Nat.le_refl _⟩ dX11_was_16 ?_
    refine g_if_eq (pc := 19) (tgt := 42) X dX11_was_19 (by decide) (fun hc => ?_) (fun hc => ?_)
    · have hf := itp hc hf
      refine g_ldc2 (pc := 42) X dX11_was_42 kl_X11_64 ?_
      obtain rfl := Option.some.inj hf
      exact hret _ _ dX11_was_45
    · have hf := itn hc hf
      refine g_iload_n (pc := 22) X dX11_was_22 rfl 3 rfl ?_
      refine g_iconst (v := (0 : Int32)) (pc := 23) X dX11_was_23 (by decide) ?_
      refine g_bipush (v := (99 : Int32)) (pc := 24) X dX11_was_24 (by decide) ?_
      obtain ⟨r8, hq7, hf⟩ := bnd_some hf
      refine g_callSI (pc := 26) (As := [.int v3, .int (0 : Int32), .int (99 : Int32)]) (rest := []) X mi_X11_isWithin sm_X11_isWithin ml_X11_60 (cX11_isWithin_ct z ad v3 (0 : Int32) (99 : Int32) m r8 hq7) rfl rfl (Nat.le_of_ble_eq_true rfl) ⟨rfl, rfl, by decide, by decide, Nat.le_refl _, Nat.le_refl _⟩ dX11_was_26 ?_
      refine g_if_eq (pc := 29) (tgt := 42) X dX11_was_29 (by decide) (fun hc => ?_) (fun hc => ?_)
      · have hf := itp hc hf
        refine g_ldc2 (pc := 42) X dX11_was_42 kl_X11_64 ?_
        obtain rfl := Option.some.inj hf
        exact hret _ _ dX11_was_45
      · have hf := itn hc hf
        refine g_iload (pc := 32) X dX11_was_32 4 rfl ?_
        refine g_iconst (v := (0 : Int32)) (pc := 34) X dX11_was_34 (by decide) ?_
        refine g_iconst (v := (1 : Int32)) (pc := 35) X dX11_was_35 (by decide) ?_
        obtain ⟨r10, hq9, hf⟩ := bnd_some hf
        refine g_callSI (pc := 36) (As := [.int v4, .int (0 : Int32), .int (1 : Int32)]) (rest := []) X mi_X11_isWithin sm_X11_isWithin ml_X11_60 (cX11_isWithin_ct z ad v4 (0 : Int32) (1 : Int32) m r10 hq9) rfl rfl (Nat.le_of_ble_eq_true rfl) ⟨rfl, rfl, by decide, by decide, Nat.le_refl _, Nat.le_refl _⟩ dX11_was_36 ?_
        refine g_if_ne (pc := 39) (tgt := 46) X dX11_was_39 (by decide) (fun hc => ?_) (fun hc => ?_)
        · have hf := itn hc hf
          refine g_iconst (v := (0 : Int32)) (pc := 46) X dX11_was_46 (by decide) ?_
          refine g_aload_n (pc := 47) X dX11_was_47 rfl 0 rfl ?_
          refine g_getR (pc := 48) X fl_X11_52 (KClt hk1 (by decide)) hk1 hr3 dX11_was_48 ?_
          obtain ⟨q11, hr12, hf⟩ := bnd_some hf
          refine g_getR (pc := 51) X fl_X11_159 (KClt hk4 (by decide)) hk4 hr12 dX11_was_51 ?_
          refine g_iload_n (pc := 54) X dX11_was_54 rfl 1 rfl ?_
          refine g_iload_n (pc := 55) X dX11_was_55 rfl 2 rfl ?_
          refine g_iload (pc := 56) X dX11_was_56 4 rfl ?_
          obtain ⟨hk15, hf⟩ := gp_some hf
          obtain ⟨r14, hq13, hf⟩ := bnd_some hf
          refine g_callVI (pc := 58) (As := [.int v1, .int v2, .int v4]) (rest := [.int (0 : Int32)]) X mi_X4_waterByRod im_X4_waterByRod se_X4_waterByRod (KClt hk15 (by decide)) hk15 clX4 ml_X11_265 (cX4_waterByRod_ct z ad q11 v1 v2 v4 m r14 hq13) rfl rfl (Nat.le_of_ble_eq_true rfl) ⟨rfl, rfl, by decide, by decide, Nat.le_refl _, Nat.le_refl _⟩ dX11_was_58 ?_
          refine g_aload_n (pc := 61) X dX11_was_61 rfl 0 rfl ?_
          refine g_getR (pc := 62) X fl_X11_52 (KClt hk1 (by decide)) hk1 hr3 dX11_was_62 ?_
          refine g_getR (pc := 65) X fl_X11_159 (KClt hk4 (by decide)) hk4 hr12 dX11_was_65 ?_
          refine g_getI (pc := 68) X fl_X11_273 (KClt hk15 (by decide)) hk15 dX11_was_68 ?_
          refine g_iload_n (pc := 71) X dX11_was_71 rfl 3 rfl ?_
          refine g_imul (pc := 72) X dX11_was_72 ?_
          refine g_isub (pc := 73) X dX11_was_73 ?_
          refine g_mmax (pc := 74) X ml_X11_276 sm_max in_math co_max (by decide) (by decide) (Nat.le_refl _) (Nat.le_refl _) dX11_was_74 ?_
          refine g_i2l (pc := 77) X dX11_was_77 ?_
          obtain rfl := Option.some.inj hf
          exact hret _ _ dX11_was_78
        · have hf := itp hc hf
          refine g_ldc2 (pc := 42) X dX11_was_42 kl_X11_64 ?_
          obtain rfl := Option.some.inj hf
          exact hret _ _ dX11_was_45
  · have hf := itp hc hf
    refine g_ldc2 (pc := 10) X dX11_was_10 kl_X11_148 ?_
    obtain rfl := Option.some.inj hf
    exact hret _ _ dX11_was_13

noncomputable def fX11_bang_124 (s0 : Int32) : Option Int64 := if s0 = 0 then (some (0 : Int64)) else (some (1 : Int64))
noncomputable def fX11_bang_123 : Option Int64 := fX11_bang_124 (0 : Int32)
noncomputable def fX11_bang (v0 : Nat) (v1 : Int32) (v2 : Int32) (v3 : Int32) (v4 : Int32) (v5 : Int32) : Option Int64 := bnd (fX11_isWithin v1 (0 : Int32) (99 : Int32)) (fun r2 => if r2 = 0 then (some (-9000000000000000001 : Int64)) else (bnd (fX11_isWithin v2 (0 : Int32) (50 : Int32)) (fun r4 => if r4 = 0 then (some (-9000000000000000001 : Int64)) else (bnd (fX11_isWithin v3 (1 : Int32) (999 : Int32)) (fun r6 => if r6 = 0 then (some (-9000000000000000001 : Int64)) else (bnd (fX11_isWithin v4 (0 : Int32) (999 : Int32)) (fun r8 => if r8 = 0 then (some (-9000000000000000001 : Int64)) else (bnd (fX11_isWithin v5 (0 : Int32) (2 : Int32)) (fun r10 => if r10 = 0 then (some (-9000000000000000001 : Int64)) else (lt1 (v1 * v2) (fun v6_11 => gp (¬ v3 = 0) (lt1 ((v6_11 * (10 : Int32)) / v3) (fun v7_14 => if v5 = 0 then (some v7_14.toInt64) else (bnd (fX11_isWithin v7_14 (30 : Int32) (190 : Int32)) (fun r17 => if v5 = (1 : Int32) then (fX11_bang_124 r17) else (if r17 = 0 then (fX11_bang_123) else (if v4 < v6_11 then (fX11_bang_123) else (fX11_bang_124 (1 : Int32)))))))))))))))))))
set_option maxHeartbeats 4000000 in
set_option maxRecDepth 100000 in
theorem cX11_bang_ct (z : Zx) (ad : Nat → Nat) (v0 : Nat) (v1 : Int32) (v2 : Int32) (v3 : Int32) (v4 : Int32) (v5 : Int32) (m : Mem) (r : Int64) (hf : fX11_bang v0 v1 v2 v3 v4 v5 = some r) : CtL z wC yX11_bang cX11_bang 10 (some .long) (Rm 3) ad 91 [.ref (ad v0), .int v1, .int v2, .int v3, .int v4, .int v5] m m r := by
  refine ct_ofL mi_X11_bang rfl (Nat.le_of_ble_eq_true rfl) (fun x X hret => ?_)
  refine g_lv [(0, .ref (ad v0)), (1, .int v1), (2, .int v2), (3, .int v3), (4, .int v4), (5, .int v5)] [0, 1, 2, 3, 4, 5] rfl ?_
  have hL124 : ∀ (s0 : Int32), fX11_bang_124 s0 = some r → G z wC x 10 0 0 ad 91 m 124 [] [.int s0] := by
    intro s0 hf
    unfold fX11_bang_124 at hf
    refine g_istore (lv2 := [(9, .int s0)]) (pc := 124) X dX11_bang_124 (by decide) [0] rfl ?_
    refine g_iload (pc := 126) X dX11_bang_126 0 rfl ?_
    refine g_if_eq (pc := 128) (tgt := 135) X dX11_bang_128 (by decide) (fun hc => ?_) (fun hc => ?_)
    · have hf := itp hc hf
      refine g_lconst (v := (0 : Int64)) (pc := 135) X dX11_bang_135 (by decide) ?_
      obtain rfl := Option.some.inj hf
      exact hret _ _ dX11_bang_136
    · have hf := itn hc hf
      refine g_lconst (v := (1 : Int64)) (pc := 131) X dX11_bang_131 (by decide) ?_
      refine g_goto (pc := 132) (tgt := 136) X dX11_bang_132 (by decide) ?_
      obtain rfl := Option.some.inj hf
      exact hret _ _ dX11_bang_136
  have hL123 : fX11_bang_123 = some r → G z wC x 10 0 0 ad 91 m 123 [] [] := by
    intro hf
    unfold fX11_bang_123 at hf
    refine g_iconst (v := (0 : Int32)) (pc := 123) X dX11_bang_123 (by decide) ?_
    exact hL124 _ hf
  unfold fX11_bang at hf
  refine g_iload_n (pc := 0) X dX11_bang_0 rfl 1 rfl ?_
  refine g_iconst (v := (0 : Int32)) (pc := 1) X dX11_bang_1 (by decide) ?_
  refine g_bipush (v := (99 : Int32)) (pc := 2) X dX11_bang_2 (by decide) ?_
  obtain ⟨r2, hq1, hf⟩ := bnd_some hf
  refine g_callSI (pc := 4) (As := [.int v1, .int (0 : Int32), .int (99 : Int32)]) (rest := []) X mi_X11_isWithin sm_X11_isWithin ml_X11_60 (cX11_isWithin_ct z ad v1 (0 : Int32) (99 : Int32) m r2 hq1) rfl rfl (Nat.le_of_ble_eq_true rfl) ⟨rfl, rfl, by decide, by decide, Nat.le_refl _, Nat.le_refl _⟩ dX11_bang_4 ?_
  refine g_if_eq (pc := 7) (tgt := 31) X dX11_bang_7 (by decide) (fun hc => ?_) (fun hc => ?_)
  · have hf := itp hc hf
    refine g_ldc2 (pc := 31) X dX11_bang_31 kl_X11_64 ?_
    obtain rfl := Option.some.inj hf
    exact hret _ _ dX11_bang_34
  · have hf := itn hc hf
    refine g_iload_n (pc := 10) X dX11_bang_10 rfl 2 rfl ?_
    refine g_iconst (v := (0 : Int32)) (pc := 11) X dX11_bang_11 (by decide) ?_
    refine g_bipush (v := (50 : Int32)) (pc := 12) X dX11_bang_12 (by decide) ?_
    obtain ⟨r4, hq3, hf⟩ := bnd_some hf
    refine g_callSI (pc := 14) (As := [.int v2, .int (0 : Int32), .int (50 : Int32)]) (rest := []) X mi_X11_isWithin sm_X11_isWithin ml_X11_60 (cX11_isWithin_ct z ad v2 (0 : Int32) (50 : Int32) m r4 hq3) rfl rfl (Nat.le_of_ble_eq_true rfl) ⟨rfl, rfl, by decide, by decide, Nat.le_refl _, Nat.le_refl _⟩ dX11_bang_14 ?_
    refine g_if_eq (pc := 17) (tgt := 31) X dX11_bang_17 (by decide) (fun hc => ?_) (fun hc => ?_)
    · have hf := itp hc hf
      refine g_ldc2 (pc := 31) X dX11_bang_31 kl_X11_64 ?_
      obtain rfl := Option.some.inj hf
      exact hret _ _ dX11_bang_34
    · have hf := itn hc hf
      refine g_iload_n (pc := 20) X dX11_bang_20 rfl 3 rfl ?_
      refine g_iconst (v := (1 : Int32)) (pc := 21) X dX11_bang_21 (by decide) ?_
      refine g_sipush (v := (999 : Int32)) (pc := 22) X dX11_bang_22 (by decide) ?_
      obtain ⟨r6, hq5, hf⟩ := bnd_some hf
      refine g_callSI (pc := 25) (As := [.int v3, .int (1 : Int32), .int (999 : Int32)]) (rest := []) X mi_X11_isWithin sm_X11_isWithin ml_X11_60 (cX11_isWithin_ct z ad v3 (1 : Int32) (999 : Int32) m r6 hq5) rfl rfl (Nat.le_of_ble_eq_true rfl) ⟨rfl, rfl, by decide, by decide, Nat.le_refl _, Nat.le_refl _⟩ dX11_bang_25 ?_
      refine g_if_ne (pc := 28) (tgt := 35) X dX11_bang_28 (by decide) (fun hc => ?_) (fun hc => ?_)
      · have hf := itn hc hf
        refine g_iload (pc := 35) X dX11_bang_35 4 rfl ?_
        refine g_iconst (v := (0 : Int32)) (pc := 37) X dX11_bang_37 (by decide) ?_
        refine g_sipush (v := (999 : Int32)) (pc := 38) X dX11_bang_38 (by decide) ?_
        obtain ⟨r8, hq7, hf⟩ := bnd_some hf
        refine g_callSI (pc := 41) (As := [.int v4, .int (0 : Int32), .int (999 : Int32)]) (rest := []) X mi_X11_isWithin sm_X11_isWithin ml_X11_60 (cX11_isWithin_ct z ad v4 (0 : Int32) (999 : Int32) m r8 hq7) rfl rfl (Nat.le_of_ble_eq_true rfl) ⟨rfl, rfl, by decide, by decide, Nat.le_refl _, Nat.le_refl _⟩ dX11_bang_41 ?_
        refine g_if_eq (pc := 44) (tgt := 57) X dX11_bang_44 (by decide) (fun hc => ?_) (fun hc => ?_)
        · have hf := itp hc hf
          refine g_ldc2 (pc := 57) X dX11_bang_57 kl_X11_64 ?_
          obtain rfl := Option.some.inj hf
          exact hret _ _ dX11_bang_60
        · have hf := itn hc hf
          refine g_iload (pc := 47) X dX11_bang_47 5 rfl ?_
          refine g_iconst (v := (0 : Int32)) (pc := 49) X dX11_bang_49 (by decide) ?_
          refine g_iconst (v := (2 : Int32)) (pc := 50) X dX11_bang_50 (by decide) ?_
          obtain ⟨r10, hq9, hf⟩ := bnd_some hf
          refine g_callSI (pc := 51) (As := [.int v5, .int (0 : Int32), .int (2 : Int32)]) (rest := []) X mi_X11_isWithin sm_X11_isWithin ml_X11_60 (cX11_isWithin_ct z ad v5 (0 : Int32) (2 : Int32) m r10 hq9) rfl rfl (Nat.le_of_ble_eq_true rfl) ⟨rfl, rfl, by decide, by decide, Nat.le_refl _, Nat.le_refl _⟩ dX11_bang_51 ?_
          refine g_if_ne (pc := 54) (tgt := 61) X dX11_bang_54 (by decide) (fun hc => ?_) (fun hc => ?_)
          · have hf := itn hc hf
            refine g_iload_n (pc := 61) X dX11_bang_61 rfl 1 rfl ?_
            refine g_iload_n (pc := 62) X dX11_bang_62 rfl 2 rfl ?_
            refine g_imul (pc := 63) X dX11_bang_63 ?_
            obtain ⟨v6_11, e12, hf⟩ := lt1_some hf
            refine g_topi e12 ?_
            refine g_istore (lv2 := [(0, .ref (ad v0)), (1, .int v1), (2, .int v2), (3, .int v3), (4, .int v4), (5, .int v5), (6, .int v6_11)]) (pc := 64) X dX11_bang_64 (by decide) [1, 2, 3, 4, 5, 6, 0] rfl ?_
            refine g_iload (pc := 66) X dX11_bang_66 6 rfl ?_
            refine g_bipush (v := (10 : Int32)) (pc := 68) X dX11_bang_68 (by decide) ?_
            refine g_imul (pc := 70) X dX11_bang_70 ?_
            refine g_iload_n (pc := 71) X dX11_bang_71 rfl 3 rfl ?_
            obtain ⟨hz13, hf⟩ := gp_some hf
            refine g_idiv (pc := 72) X dX11_bang_72 hz13 ?_
            obtain ⟨v7_14, e15, hf⟩ := lt1_some hf
            refine g_topi e15 ?_
            refine g_istore (lv2 := [(0, .ref (ad v0)), (1, .int v1), (2, .int v2), (3, .int v3), (4, .int v4), (5, .int v5), (6, .int v6_11), (7, .int v7_14)]) (pc := 73) X dX11_bang_73 (by decide) [1, 2, 3, 4, 5, 6, 7, 0] rfl ?_
            refine g_iload (pc := 75) X dX11_bang_75 5 rfl ?_
            refine g_if_ne (pc := 77) (tgt := 84) X dX11_bang_77 (by decide) (fun hc => ?_) (fun hc => ?_)
            · have hf := itn hc hf
              refine g_iload (pc := 84) X dX11_bang_84 7 rfl ?_
              refine g_bipush (v := (30 : Int32)) (pc := 86) X dX11_bang_86 (by decide) ?_
              refine g_sipush (v := (190 : Int32)) (pc := 88) X dX11_bang_88 (by decide) ?_
              obtain ⟨r17, hq16, hf⟩ := bnd_some hf
              refine g_callSI (pc := 91) (As := [.int v7_14, .int (30 : Int32), .int (190 : Int32)]) (rest := []) X mi_X11_isWithin sm_X11_isWithin ml_X11_60 (cX11_isWithin_ct z ad v7_14 (30 : Int32) (190 : Int32) m r17 hq16) rfl rfl (Nat.le_of_ble_eq_true rfl) ⟨rfl, rfl, by decide, by decide, Nat.le_refl _, Nat.le_refl _⟩ dX11_bang_91 ?_
              refine g_istore (lv2 := [(0, .ref (ad v0)), (1, .int v1), (2, .int v2), (3, .int v3), (4, .int v4), (5, .int v5), (6, .int v6_11), (7, .int v7_14), (8, .int r17)]) (pc := 94) X dX11_bang_94 (by decide) [1, 2, 3, 4, 5, 6, 7, 8, 0] rfl ?_
              refine g_iload (pc := 96) X dX11_bang_96 5 rfl ?_
              refine g_iconst (v := (1 : Int32)) (pc := 98) X dX11_bang_98 (by decide) ?_
              refine g_icmp_ne (pc := 99) (tgt := 107) X dX11_bang_99 (by decide) (fun hc => ?_) (fun hc => ?_)
              · have hf := itn hc hf
                refine g_iload (pc := 107) X dX11_bang_107 8 rfl ?_
                refine g_if_eq (pc := 109) (tgt := 123) X dX11_bang_109 (by decide) (fun hc => ?_) (fun hc => ?_)
                · have hf := itp hc hf
                  refine g_lv [] [] rfl ?_
                  exact hL123 hf
                · have hf := itn hc hf
                  refine g_iload (pc := 112) X dX11_bang_112 6 rfl ?_
                  refine g_iload (pc := 114) X dX11_bang_114 4 rfl ?_
                  refine g_icmp_gt (pc := 116) (tgt := 123) X dX11_bang_116 (by decide) (fun hc => ?_) (fun hc => ?_)
                  · have hf := itp hc hf
                    refine g_lv [] [] rfl ?_
                    exact hL123 hf
                  · have hf := itn hc hf
                    refine g_iconst (v := (1 : Int32)) (pc := 119) X dX11_bang_119 (by decide) ?_
                    refine g_goto (pc := 120) (tgt := 124) X dX11_bang_120 (by decide) ?_
                    refine g_lv [] [] rfl ?_
                    exact hL124 _ hf
              · have hf := itp hc hf
                refine g_iload (pc := 102) X dX11_bang_102 8 rfl ?_
                refine g_goto (pc := 104) (tgt := 124) X dX11_bang_104 (by decide) ?_
                refine g_lv [] [] rfl ?_
                exact hL124 _ hf
            · have hf := itp hc hf
              refine g_iload (pc := 80) X dX11_bang_80 7 rfl ?_
              refine g_i2l (pc := 82) X dX11_bang_82 ?_
              obtain rfl := Option.some.inj hf
              exact hret _ _ dX11_bang_83
          · have hf := itp hc hf
            refine g_ldc2 (pc := 57) X dX11_bang_57 kl_X11_64 ?_
            obtain rfl := Option.some.inj hf
            exact hret _ _ dX11_bang_60
      · have hf := itp hc hf
        refine g_ldc2 (pc := 31) X dX11_bang_31 kl_X11_64 ?_
        obtain rfl := Option.some.inj hf
        exact hret _ _ dX11_bang_34

noncomputable def fJ6_bitCount_0f7a4 (v0 : Int32) : Option Int32 := lt1 (v0 - (((v0.toUInt32 >>> ((1 : Int32).toUInt32 &&& Int32.toUInt32 31)).toInt32) &&& (1431655765 : Int32))) (fun v0_1 => lt1 ((v0_1 &&& (858993459 : Int32)) + (((v0_1.toUInt32 >>> ((2 : Int32).toUInt32 &&& Int32.toUInt32 31)).toInt32) &&& (858993459 : Int32))) (fun v0_3 => lt1 ((v0_3 + ((v0_3.toUInt32 >>> ((4 : Int32).toUInt32 &&& Int32.toUInt32 31)).toInt32)) &&& (252645135 : Int32)) (fun v0_5 => lt1 (v0_5 + ((v0_5.toUInt32 >>> ((8 : Int32).toUInt32 &&& Int32.toUInt32 31)).toInt32)) (fun v0_7 => lt1 (v0_7 + ((v0_7.toUInt32 >>> ((16 : Int32).toUInt32 &&& Int32.toUInt32 31)).toInt32)) (fun v0_9 => some (v0_9 &&& (63 : Int32)))))))
set_option maxHeartbeats 4000000 in
set_option maxRecDepth 100000 in
theorem cJ6_bitCount_0f7a4_ct (z : Zx) (ad : Nat → Nat) (v0 : Int32) (m : Mem) (r : Int32) (hf : fJ6_bitCount_0f7a4 v0 = some r) : CtI z wC yJ6_bitCount_0f7a4 cJ6_bitCount_0f7a4 1 (some .int) (Rm 2) ad 91 [.int v0] m m r := by
  refine ct_ofI mi_J6_bitCount_0f7a4 rfl (Nat.le_of_ble_eq_true rfl) (fun x X hret => ?_)
  refine g_lv [(0, .int v0)] [0] rfl ?_
  unfold fJ6_bitCount_0f7a4 at hf
  refine g_iload_n (pc := 0) X dJ6_bitCount_0f7a4_0 rfl 0 rfl ?_
  refine g_iload_n (pc := 1) X dJ6_bitCount_0f7a4_1 rfl 0 rfl ?_
  refine g_iconst (v := (1 : Int32)) (pc := 2) X dJ6_bitCount_0f7a4_2 (by decide) ?_
  refine g_iushr (pc := 3) X dJ6_bitCount_0f7a4_3 ?_
  refine g_ldcw (pc := 4) X dJ6_bitCount_0f7a4_4 k_J6_265 ?_
  refine g_iand (pc := 7) X dJ6_bitCount_0f7a4_7 ?_
  refine g_isub (pc := 8) X dJ6_bitCount_0f7a4_8 ?_
  obtain ⟨v0_1, e2, hf⟩ := lt1_some hf
  refine g_topi e2 ?_
  refine g_istore_n (lv2 := [(0, .int v0_1)]) (pc := 9) X dJ6_bitCount_0f7a4_9 rfl (by decide) [0] rfl ?_
  refine g_iload_n (pc := 10) X dJ6_bitCount_0f7a4_10 rfl 0 rfl ?_
  refine g_ldcw (pc := 11) X dJ6_bitCount_0f7a4_11 k_J6_266 ?_
  refine g_iand (pc := 14) X dJ6_bitCount_0f7a4_14 ?_
  refine g_iload_n (pc := 15) X dJ6_bitCount_0f7a4_15 rfl 0 rfl ?_
  refine g_iconst (v := (2 : Int32)) (pc := 16) X dJ6_bitCount_0f7a4_16 (by decide) ?_
  refine g_iushr (pc := 17) X dJ6_bitCount_0f7a4_17 ?_
  refine g_ldcw (pc := 18) X dJ6_bitCount_0f7a4_18 k_J6_266 ?_
  refine g_iand (pc := 21) X dJ6_bitCount_0f7a4_21 ?_
  refine g_iadd (pc := 22) X dJ6_bitCount_0f7a4_22 ?_
  obtain ⟨v0_3, e4, hf⟩ := lt1_some hf
  refine g_topi e4 ?_
  refine g_istore_n (lv2 := [(0, .int v0_3)]) (pc := 23) X dJ6_bitCount_0f7a4_23 rfl (by decide) [0] rfl ?_
  refine g_iload_n (pc := 24) X dJ6_bitCount_0f7a4_24 rfl 0 rfl ?_
  refine g_iload_n (pc := 25) X dJ6_bitCount_0f7a4_25 rfl 0 rfl ?_
  refine g_iconst (v := (4 : Int32)) (pc := 26) X dJ6_bitCount_0f7a4_26 (by decide) ?_
  refine g_iushr (pc := 27) X dJ6_bitCount_0f7a4_27 ?_
  refine g_iadd (pc := 28) X dJ6_bitCount_0f7a4_28 ?_
  refine g_ldcw (pc := 29) X dJ6_bitCount_0f7a4_29 k_J6_267 ?_
  refine g_iand (pc := 32) X dJ6_bitCount_0f7a4_32 ?_
  obtain ⟨v0_5, e6, hf⟩ := lt1_some hf
  refine g_topi e6 ?_
  refine g_istore_n (lv2 := [(0, .int v0_5)]) (pc := 33) X dJ6_bitCount_0f7a4_33 rfl (by decide) [0] rfl ?_
  refine g_iload_n (pc := 34) X dJ6_bitCount_0f7a4_34 rfl 0 rfl ?_
  refine g_iload_n (pc := 35) X dJ6_bitCount_0f7a4_35 rfl 0 rfl ?_
  refine g_bipush (v := (8 : Int32)) (pc := 36) X dJ6_bitCount_0f7a4_36 (by decide) ?_
  refine g_iushr (pc := 38) X dJ6_bitCount_0f7a4_38 ?_
  refine g_iadd (pc := 39) X dJ6_bitCount_0f7a4_39 ?_
  obtain ⟨v0_7, e8, hf⟩ := lt1_some hf
  refine g_topi e8 ?_
  refine g_istore_n (lv2 := [(0, .int v0_7)]) (pc := 40) X dJ6_bitCount_0f7a4_40 rfl (by decide) [0] rfl ?_
  refine g_iload_n (pc := 41) X dJ6_bitCount_0f7a4_41 rfl 0 rfl ?_
  refine g_iload_n (pc := 42) X dJ6_bitCount_0f7a4_42 rfl 0 rfl ?_
  refine g_bipush (v := (16 : Int32)) (pc := 43) X dJ6_bitCount_0f7a4_43 (by decide) ?_
  refine g_iushr (pc := 45) X dJ6_bitCount_0f7a4_45 ?_
  refine g_iadd (pc := 46) X dJ6_bitCount_0f7a4_46 ?_
  obtain ⟨v0_9, e10, hf⟩ := lt1_some hf
  refine g_topi e10 ?_
  refine g_istore_n (lv2 := [(0, .int v0_9)]) (pc := 47) X dJ6_bitCount_0f7a4_47 rfl (by decide) [0] rfl ?_
  refine g_iload_n (pc := 48) X dJ6_bitCount_0f7a4_48 rfl 0 rfl ?_
  refine g_bipush (v := (63 : Int32)) (pc := 49) X dJ6_bitCount_0f7a4_49 (by decide) ?_
  refine g_iand (pc := 51) X dJ6_bitCount_0f7a4_51 ?_
  obtain rfl := Option.some.inj hf
  exact hret _ _ rfl dJ6_bitCount_0f7a4_52

noncomputable def fX2_leavingBeside_55 (v0 : Nat) (v2 : Int32) (v4 : Int32) (v5 : Int32) (v6 : Int32) (m : Mem) : Option ((Int32 × Int32) ⊕ (Int32)) := lt1 (v6 + 1) (fun v6_1 => some (.inl (v5, v6_1)))
noncomputable def fX2_leavingBeside_46 (v0 : Nat) (v2 : Int32) (v4 : Int32) (v5 : Int32) (v6 : Int32) (m : Mem) : Option ((Int32 × Int32) ⊕ (Int32)) := lt1 (v5 ||| ((1 : Int32) <<< (v6 &&& 31))) (fun v5_3 => fX2_leavingBeside_55 v0 v2 v4 v5_3 v6 m)
noncomputable def fX2_leavingBeside_14b (v0 : Nat) (v2 : Int32) (v4 : Int32) (v5 : Int32) (v6 : Int32) (m : Mem) : Option ((Int32 × Int32) ⊕ (Int32)) := gp (KC v0 = 2) (if (m.1 v0 2) ≤ v6 then (some (.inr (v5))) else (bnd (m.2.2 v0 0) (fun q6 => gp (KC q6 = 14) (gp (inb v6 (NC q6) = true) (if (m.1 q6 v6.toNatClampNeg) ≤ v2 then (fX2_leavingBeside_46 v0 v2 v4 v5 v6 m) else (bnd (m.2.2 v0 1) (fun q10 => gp (KC q10 = 14) (gp (inb v6 (NC q10) = true) (if v4 < (m.1 q10 v6.toNatClampNeg) then (fX2_leavingBeside_55 v0 v2 v4 v5 v6 m) else (fX2_leavingBeside_46 v0 v2 v4 v5 v6 m))))))))))
noncomputable def fX2_leavingBeside_14 (v0 : Nat) (v2 : Int32) (v4 : Int32) (v5 : Int32) (v6 : Int32) (m : Mem) : Option Int32 := bnd (iter (fun s => fX2_leavingBeside_14b v0 v2 v4 s.1 s.2 m) FU (v5, v6)) (fun e => some e)
noncomputable def fX2_leavingBeside (v0 : Nat) (v1 : Int32) (v2 : Int32) (v3 : Int32) (m : Mem) : Option Int32 := bnd (fJ6_bitCount_0f7a4 v1) (fun r15 => lt1 (v3 + r15) (fun v4_16 => lt1 ((0 : Int32)) (fun v6_18 => fX2_leavingBeside_14 v0 v2 v4_16 v1 v6_18 m)))
set_option maxHeartbeats 4000000 in
set_option maxRecDepth 100000 in
theorem cX2_leavingBeside_ct (z : Zx) (ad : Nat → Nat) (v0 : Nat) (v1 : Int32) (v2 : Int32) (v3 : Int32) (m : Mem) (r : Int32) (hf : fX2_leavingBeside v0 v1 v2 v3 m = some r) : CtI z wC yX2_leavingBeside cX2_leavingBeside 7 (some .int) (Rm 3) ad 91 [.ref (ad v0), .int v1, .int v2, .int v3] m m r := by
  refine ct_ofI mi_X2_leavingBeside rfl (Nat.le_of_ble_eq_true rfl) (fun x X hret => ?_)
  refine g_lv [(0, .ref (ad v0)), (1, .int v1), (2, .int v2), (3, .int v3)] [0, 1, 2, 3] rfl ?_
  have hL14 : ∀ (v0 : Nat) (v2 : Int32) (v4 : Int32) (v5 : Int32) (v6 : Int32), fX2_leavingBeside_14 v0 v2 v4 v5 v6 m = some r → G z wC x 7 0 0 ad 91 m 14 [(0, .ref (ad v0)), (2, .int v2), (4, .int v4), (5, .int v5), (6, .int v6)] [] := by
    intro v0 v2 v4 v5 v6 hf
    unfold fX2_leavingBeside_14 at hf
    obtain ⟨e14, hit14, hrest14⟩ := bnd_some hf
    refine iter_ok (Hd := fun (s : (Int32 × Int32)) => G z wC x 7 0 0 ad 91 m 14 [(0, .ref (ad v0)), (2, .int v2), (4, .int v4), (5, .int s.1), (6, .int s.2)] []) ?_ FU (v5, v6) hit14
    intro s ob14 hf hs14 he14
    obtain ⟨v5, v6⟩ := s
    have hf : fX2_leavingBeside_14b v0 v2 v4 v5 v6 m = some ob14 := hf
    have hL55 : ∀ (v5 : Int32) (v6 : Int32), fX2_leavingBeside_55 v0 v2 v4 v5 v6 m = some ob14 → G z wC x 7 0 0 ad 91 m 55 [(0, .ref (ad v0)), (2, .int v2), (4, .int v4), (5, .int v5), (6, .int v6)] [] := by
      intro v5 v6 hf
      unfold fX2_leavingBeside_55 at hf
      obtain ⟨v6_1, e2, hf⟩ := lt1_some hf
      refine g_iinc (v2 := v6_1) (lv2 := [(0, .ref (ad v0)), (2, .int v2), (4, .int v4), (5, .int v5), (6, .int v6_1)]) (pc := 55) X dX2_leavingBeside_55 4 rfl (by rw [e2]; rfl) (by decide) [1, 2, 3, 4, 0] rfl ?_
      refine g_goto (pc := 58) (tgt := 14) X dX2_leavingBeside_58 (by decide) ?_
      exact hs14 (v5, v6_1) (Option.some.inj hf).symm
    have hL46 : ∀ (v5 : Int32) (v6 : Int32), fX2_leavingBeside_46 v0 v2 v4 v5 v6 m = some ob14 → G z wC x 7 0 0 ad 91 m 46 [(0, .ref (ad v0)), (2, .int v2), (4, .int v4), (5, .int v5), (6, .int v6)] [] := by
      intro v5 v6 hf
      unfold fX2_leavingBeside_46 at hf
      refine g_iload (pc := 46) X dX2_leavingBeside_46 3 rfl ?_
      refine g_iconst (v := (1 : Int32)) (pc := 48) X dX2_leavingBeside_48 (by decide) ?_
      refine g_iload (pc := 49) X dX2_leavingBeside_49 4 rfl ?_
      refine g_ishl (pc := 51) X dX2_leavingBeside_51 ?_
      refine g_ior (pc := 52) X dX2_leavingBeside_52 ?_
      obtain ⟨v5_3, e4, hf⟩ := lt1_some hf
      refine g_topi e4 ?_
      refine g_istore (lv2 := [(0, .ref (ad v0)), (2, .int v2), (4, .int v4), (5, .int v5_3), (6, .int v6)]) (pc := 53) X dX2_leavingBeside_53 (by decide) [1, 2, 3, 0, 4] rfl ?_
      exact hL55 _ _ hf
    unfold fX2_leavingBeside_14b at hf
    refine g_iload (pc := 14) X dX2_leavingBeside_14 4 rfl ?_
    refine g_aload_n (pc := 16) X dX2_leavingBeside_16 rfl 0 rfl ?_
    obtain ⟨hk5, hf⟩ := gp_some hf
    refine g_getI (pc := 17) X fl_X2_18 (KClt hk5 (by decide)) hk5 dX2_leavingBeside_17 ?_
    refine g_icmp_ge (pc := 20) (tgt := 61) X dX2_leavingBeside_20 (by decide) (fun hc => ?_) (fun hc => ?_)
    · have hf := itp hc hf
      have he14 := he14 _ (Option.some.inj hf).symm
      subst he14
      have hf : some v5 = some r := hrest14
      refine g_iload (pc := 61) X dX2_leavingBeside_61 3 rfl ?_
      obtain rfl := Option.some.inj hf
      exact hret _ _ rfl dX2_leavingBeside_63
    · have hf := itn hc hf
      refine g_aload_n (pc := 23) X dX2_leavingBeside_23 rfl 0 rfl ?_
      obtain ⟨q6, hr7, hf⟩ := bnd_some hf
      refine g_getR (pc := 24) X fl_X2_9 (KClt hk5 (by decide)) hk5 hr7 dX2_leavingBeside_24 ?_
      refine g_iload (pc := 27) X dX2_leavingBeside_27 4 rfl ?_
      obtain ⟨hk8, hf⟩ := gp_some hf
      obtain ⟨hi9, hf⟩ := gp_some hf
      refine g_iald (pc := 29) X (KClt hk8 (by decide)) hk8 hi9 dX2_leavingBeside_29 ?_
      refine g_iload_n (pc := 30) X dX2_leavingBeside_30 rfl 1 rfl ?_
      refine g_icmp_le (pc := 31) (tgt := 46) X dX2_leavingBeside_31 (by decide) (fun hc => ?_) (fun hc => ?_)
      · have hf := itp hc hf
        exact hL46 _ _ hf
      · have hf := itn hc hf
        refine g_aload_n (pc := 34) X dX2_leavingBeside_34 rfl 0 rfl ?_
        obtain ⟨q10, hr11, hf⟩ := bnd_some hf
        refine g_getR (pc := 35) X fl_X2_15 (KClt hk5 (by decide)) hk5 hr11 dX2_leavingBeside_35 ?_
        refine g_iload (pc := 38) X dX2_leavingBeside_38 4 rfl ?_
        obtain ⟨hk12, hf⟩ := gp_some hf
        obtain ⟨hi13, hf⟩ := gp_some hf
        refine g_iald (pc := 40) X (KClt hk12 (by decide)) hk12 hi13 dX2_leavingBeside_40 ?_
        refine g_iload (pc := 41) X dX2_leavingBeside_41 2 rfl ?_
        refine g_icmp_gt (pc := 43) (tgt := 55) X dX2_leavingBeside_43 (by decide) (fun hc => ?_) (fun hc => ?_)
        · have hf := itp hc hf
          exact hL55 _ _ hf
        · have hf := itn hc hf
          exact hL46 _ _ hf
  unfold fX2_leavingBeside at hf
  refine g_iload_n (pc := 0) X dX2_leavingBeside_0 rfl 3 rfl ?_
  refine g_iload_n (pc := 1) X dX2_leavingBeside_1 rfl 1 rfl ?_
  obtain ⟨r15, hq14, hf⟩ := bnd_some hf
  refine g_callSI (pc := 2) (As := [.int v1]) (rest := [.int v3]) X mi_J6_bitCount_0f7a4 sm_J6_bitCount_0f7a4 ml_X2_36 (cJ6_bitCount_0f7a4_ct z ad v1 m r15 hq14) rfl rfl (Nat.le_of_ble_eq_true rfl) ⟨rfl, rfl, by decide, by decide, Nat.le_refl _, Nat.le_refl _⟩ dX2_leavingBeside_2 ?_
  refine g_iadd (pc := 5) X dX2_leavingBeside_5 ?_
  obtain ⟨v4_16, e17, hf⟩ := lt1_some hf
  refine g_topi e17 ?_
  refine g_istore (lv2 := [(0, .ref (ad v0)), (1, .int v1), (2, .int v2), (3, .int v3), (4, .int v4_16)]) (pc := 6) X dX2_leavingBeside_6 (by decide) [1, 2, 3, 4, 0] rfl ?_
  refine g_iload_n (pc := 8) X dX2_leavingBeside_8 rfl 1 rfl ?_
  refine g_istore (lv2 := [(0, .ref (ad v0)), (1, .int v1), (2, .int v2), (3, .int v3), (4, .int v4_16), (5, .int v1)]) (pc := 9) X dX2_leavingBeside_9 (by decide) [1, 2, 3, 4, 5, 0] rfl ?_
  refine g_iconst (v := (0 : Int32)) (pc := 11) X dX2_leavingBeside_11 (by decide) ?_
  obtain ⟨v6_18, e19, hf⟩ := lt1_some hf
  refine g_topi e19 ?_
  refine g_istore (lv2 := [(0, .ref (ad v0)), (1, .int v1), (2, .int v2), (3, .int v3), (4, .int v4_16), (5, .int v1), (6, .int v6_18)]) (pc := 12) X dX2_leavingBeside_12 (by decide) [1, 2, 3, 4, 5, 6, 0] rfl ?_
  refine g_lv [(0, .ref (ad v0)), (2, .int v2), (4, .int v4_16), (5, .int v1), (6, .int v6_18)] [0, 2, 4, 5, 6] rfl ?_
  exact hL14 _ _ _ _ _ hf

noncomputable def fX2_leaving_49 (v3 : Int32) (v4 : Int32) (v5 : Int32) (m : Mem) : Option Int32 := if v3 = 0 then (some v4) else (some v5)
noncomputable def fX2_leaving_33 (v3 : Int32) (v4 : Int32) (v5 : Int32) (m : Mem) : Option Int32 := fX2_leaving_49 v3 v4 v5 m
noncomputable def fX2_leaving_9b (v0 : Nat) (v1 : Int32) (v2 : Int32) (v3 : Int32) (v4 : Int32) (v5 : Int32) (v6 : Int32) (m : Mem) : Option ((Int32 × Int32 × Int32) ⊕ ((Int32 × Int32) ⊕ (Int32 × Int32))) := if (10 : Int32) ≤ v6 then (some (.inr (.inr (v4, v5)))) else (gp (KC v0 = 2) (bnd (fX2_leavingBeside v0 v4 v1 v2 m) (fun r2 => if r2 = v4 then (some (.inr (.inl (v4, v5)))) else (lt1 (v5 + 1) (fun v5_4 => lt1 (v6 + 1) (fun v6_6 => some (.inl (r2, v5_4, v6_6))))))))
noncomputable def fX2_leaving_9 (v0 : Nat) (v1 : Int32) (v2 : Int32) (v3 : Int32) (v4 : Int32) (v5 : Int32) (v6 : Int32) (m : Mem) : Option Int32 := bnd (iter (fun s => fX2_leaving_9b v0 v1 v2 v3 s.1 s.2.1 s.2.2 m) FU (v4, v5, v6)) (Sum.elim (fun e => fX2_leaving_33 v3 e.1 e.2 m) (fun e => fX2_leaving_49 v3 e.1 e.2 m))
noncomputable def fX2_leaving (v0 : Nat) (v1 : Int32) (v2 : Int32) (v3 : Int32) (m : Mem) : Option Int32 := lt1 ((0 : Int32)) (fun v4_8 => lt1 ((0 : Int32)) (fun v5_10 => lt1 ((0 : Int32)) (fun v6_12 => fX2_leaving_9 v0 v1 v2 v3 v4_8 v5_10 v6_12 m)))
set_option maxHeartbeats 4000000 in
set_option maxRecDepth 100000 in
theorem cX2_leaving_ct (z : Zx) (ad : Nat → Nat) (v0 : Nat) (v1 : Int32) (v2 : Int32) (v3 : Int32) (m : Mem) (r : Int32) (hf : fX2_leaving v0 v1 v2 v3 m = some r) : CtI z wC yX2_leaving cX2_leaving 8 (some .int) (Rm 4) ad 91 [.ref (ad v0), .int v1, .int v2, .int v3] m m r := by
  refine ct_ofI mi_X2_leaving rfl (Nat.le_of_ble_eq_true rfl) (fun x X hret => ?_)
  refine g_lv [(0, .ref (ad v0)), (1, .int v1), (2, .int v2), (3, .int v3)] [0, 1, 2, 3] rfl ?_
  have hL49 : ∀ (v3 : Int32) (v4 : Int32) (v5 : Int32), fX2_leaving_49 v3 v4 v5 m = some r → G z wC x 8 0 0 ad 91 m 49 [(3, .int v3), (4, .int v4), (5, .int v5)] [] := by
    intro v3 v4 v5 hf
    unfold fX2_leaving_49 at hf
    refine g_iload_n (pc := 49) X dX2_leaving_49 rfl 0 rfl ?_
    refine g_if_ne (pc := 50) (tgt := 58) X dX2_leaving_50 (by decide) (fun hc => ?_) (fun hc => ?_)
    · have hf := itn hc hf
      refine g_iload (pc := 58) X dX2_leaving_58 2 rfl ?_
      obtain rfl := Option.some.inj hf
      exact hret _ _ rfl dX2_leaving_60
    · have hf := itp hc hf
      refine g_iload (pc := 53) X dX2_leaving_53 1 rfl ?_
      refine g_goto (pc := 55) (tgt := 60) X dX2_leaving_55 (by decide) ?_
      obtain rfl := Option.some.inj hf
      exact hret _ _ rfl dX2_leaving_60
  have hL33 : ∀ (v3 : Int32) (v4 : Int32) (v5 : Int32), fX2_leaving_33 v3 v4 v5 m = some r → G z wC x 8 0 0 ad 91 m 33 [(3, .int v3), (4, .int v4), (5, .int v5)] [] := by
    intro v3 v4 v5 hf
    unfold fX2_leaving_33 at hf
    refine g_goto (pc := 33) (tgt := 49) X dX2_leaving_33 (by decide) ?_
    exact hL49 _ _ _ hf
  have hL9 : ∀ (v0 : Nat) (v1 : Int32) (v2 : Int32) (v3 : Int32) (v4 : Int32) (v5 : Int32) (v6 : Int32), fX2_leaving_9 v0 v1 v2 v3 v4 v5 v6 m = some r → G z wC x 8 0 0 ad 91 m 9 [(0, .ref (ad v0)), (1, .int v1), (2, .int v2), (3, .int v3), (4, .int v4), (5, .int v5), (6, .int v6)] [] := by
    intro v0 v1 v2 v3 v4 v5 v6 hf
    unfold fX2_leaving_9 at hf
    obtain ⟨e9, hit9, hrest9⟩ := bnd_some hf
    refine iter_ok (Hd := fun (s : (Int32 × Int32 × Int32)) => G z wC x 8 0 0 ad 91 m 9 [(0, .ref (ad v0)), (1, .int v1), (2, .int v2), (3, .int v3), (4, .int s.1), (5, .int s.2.1), (6, .int s.2.2)] []) ?_ FU (v4, v5, v6) hit9
    intro s ob9 hf hs9 he9
    obtain ⟨v4, v5, v6⟩ := s
    have hf : fX2_leaving_9b v0 v1 v2 v3 v4 v5 v6 m = some ob9 := hf
    unfold fX2_leaving_9b at hf
    refine g_iload (pc := 9) X dX2_leaving_9 6 rfl ?_
    refine g_bipush (v := (10 : Int32)) (pc := 11) X dX2_leaving_11 (by decide) ?_
    refine g_icmp_ge (pc := 13) (tgt := 49) X dX2_leaving_13 (by decide) (fun hc => ?_) (fun hc => ?_)
    · have hf := itp hc hf
      have he9 := he9 _ (Option.some.inj hf).symm
      subst he9
      have hf : fX2_leaving_49 v3 v4 v5 m = some r := hrest9
      refine g_lv [(3, .int v3), (4, .int v4), (5, .int v5)] [3, 4, 5] rfl ?_
      exact hL49 _ _ _ hf
    · have hf := itn hc hf
      refine g_aload_n (pc := 16) X dX2_leaving_16 rfl 0 rfl ?_
      refine g_iload (pc := 17) X dX2_leaving_17 4 rfl ?_
      refine g_iload_n (pc := 19) X dX2_leaving_19 rfl 1 rfl ?_
      refine g_iload_n (pc := 20) X dX2_leaving_20 rfl 2 rfl ?_
      obtain ⟨hk3, hf⟩ := gp_some hf
      obtain ⟨r2, hq1, hf⟩ := bnd_some hf
      refine g_callVI (pc := 21) (As := [.int v4, .int v1, .int v2]) (rest := []) X mi_X2_leavingBeside im_X2_leavingBeside se_X2_leavingBeside (KClt hk3 (by decide)) hk3 clX2 ml_X2_28 (cX2_leavingBeside_ct z ad v0 v4 v1 v2 m r2 hq1) rfl rfl (Nat.le_of_ble_eq_true rfl) ⟨rfl, rfl, by decide, by decide, Nat.le_refl _, Nat.le_refl _⟩ dX2_leaving_21 ?_
      refine g_istore (lv2 := [(0, .ref (ad v0)), (1, .int v1), (2, .int v2), (3, .int v3), (4, .int v4), (5, .int v5), (6, .int v6), (7, .int r2)]) (pc := 24) X dX2_leaving_24 (by decide) [1, 2, 3, 4, 5, 6, 7, 0] rfl ?_
      refine g_iload (pc := 26) X dX2_leaving_26 7 rfl ?_
      refine g_iload (pc := 28) X dX2_leaving_28 4 rfl ?_
      refine g_icmp_ne (pc := 30) (tgt := 36) X dX2_leaving_30 (by decide) (fun hc => ?_) (fun hc => ?_)
      · have hf := itn hc hf
        refine g_iload (pc := 36) X dX2_leaving_36 7 rfl ?_
        refine g_istore (lv2 := [(0, .ref (ad v0)), (1, .int v1), (2, .int v2), (3, .int v3), (4, .int r2), (5, .int v5), (6, .int v6), (7, .int r2)]) (pc := 38) X dX2_leaving_38 (by decide) [1, 2, 3, 4, 0, 5, 6, 7] rfl ?_
        obtain ⟨v5_4, e5, hf⟩ := lt1_some hf
        refine g_iinc (v2 := v5_4) (lv2 := [(0, .ref (ad v0)), (1, .int v1), (2, .int v2), (3, .int v3), (4, .int r2), (5, .int v5_4), (6, .int v6), (7, .int r2)]) (pc := 40) X dX2_leaving_40 5 rfl (by rw [e5]; rfl) (by decide) [1, 2, 3, 4, 5, 0, 6, 7] rfl ?_
        obtain ⟨v6_6, e7, hf⟩ := lt1_some hf
        refine g_iinc (v2 := v6_6) (lv2 := [(0, .ref (ad v0)), (1, .int v1), (2, .int v2), (3, .int v3), (4, .int r2), (5, .int v5_4), (6, .int v6_6), (7, .int r2)]) (pc := 43) X dX2_leaving_43 6 rfl (by rw [e7]; rfl) (by decide) [1, 2, 3, 4, 5, 6, 0, 7] rfl ?_
        refine g_goto (pc := 46) (tgt := 9) X dX2_leaving_46 (by decide) ?_
        refine g_lv [(0, .ref (ad v0)), (1, .int v1), (2, .int v2), (3, .int v3), (4, .int r2), (5, .int v5_4), (6, .int v6_6)] [0, 1, 2, 3, 4, 5, 6] rfl ?_
        exact hs9 (r2, v5_4, v6_6) (Option.some.inj hf).symm
      · have hf := itp hc hf
        have he9 := he9 _ (Option.some.inj hf).symm
        subst he9
        have hf : fX2_leaving_33 v3 v4 v5 m = some r := hrest9
        refine g_lv [(3, .int v3), (4, .int v4), (5, .int v5)] [3, 4, 5] rfl ?_
        exact hL33 _ _ _ hf
  unfold fX2_leaving at hf
  refine g_iconst (v := (0 : Int32)) (pc := 0) X dX2_leaving_0 (by decide) ?_
  obtain ⟨v4_8, e9, hf⟩ := lt1_some hf
  refine g_topi e9 ?_
  refine g_istore (lv2 := [(0, .ref (ad v0)), (1, .int v1), (2, .int v2), (3, .int v3), (4, .int v4_8)]) (pc := 1) X dX2_leaving_1 (by decide) [1, 2, 3, 4, 0] rfl ?_
  refine g_iconst (v := (0 : Int32)) (pc := 3) X dX2_leaving_3 (by decide) ?_
  obtain ⟨v5_10, e11, hf⟩ := lt1_some hf
  refine g_topi e11 ?_
  refine g_istore (lv2 := [(0, .ref (ad v0)), (1, .int v1), (2, .int v2), (3, .int v3), (4, .int v4_8), (5, .int v5_10)]) (pc := 4) X dX2_leaving_4 (by decide) [1, 2, 3, 4, 5, 0] rfl ?_
  refine g_iconst (v := (0 : Int32)) (pc := 6) X dX2_leaving_6 (by decide) ?_
  obtain ⟨v6_12, e13, hf⟩ := lt1_some hf
  refine g_topi e13 ?_
  refine g_istore (lv2 := [(0, .ref (ad v0)), (1, .int v1), (2, .int v2), (3, .int v3), (4, .int v4_8), (5, .int v5_10), (6, .int v6_12)]) (pc := 7) X dX2_leaving_7 (by decide) [1, 2, 3, 4, 5, 6, 0] rfl ?_
  exact hL9 _ _ _ _ _ _ _ hf

noncomputable def fX11_leave (v0 : Nat) (v1 : Int32) (v2 : Int32) (v3 : Int32) (m : Mem) : Option Int64 := gp (KC v0 = 11) (bnd (m.2.2 v0 6) (fun q2 => gp (KC q2 = 10) (if (m.1 q2 4) = 0 then (some (-9000000000000000002 : Int64)) else (bnd (fX11_isWithin v1 (0 : Int32) (200 : Int32)) (fun r6 => if r6 = 0 then (some (-9000000000000000001 : Int64)) else (bnd (fX11_isWithin v2 (0 : Int32) (50 : Int32)) (fun r8 => if r8 = 0 then (some (-9000000000000000001 : Int64)) else (bnd (fX11_isWithin v3 (0 : Int32) (1 : Int32)) (fun r10 => if r10 = 0 then (some (-9000000000000000001 : Int64)) else (bnd (m.2.2 q2 2) (fun q11 => gp (KC q11 = 2) (bnd (fX2_leaving q11 v1 v2 v3 m) (fun r14 => some r14.toInt64)))))))))))))
set_option maxHeartbeats 4000000 in
set_option maxRecDepth 100000 in
theorem cX11_leave_ct (z : Zx) (ad : Nat → Nat) (v0 : Nat) (v1 : Int32) (v2 : Int32) (v3 : Int32) (m : Mem) (r : Int64) (hf : fX11_leave v0 v1 v2 v3 m = some r) : CtL z wC yX11_leave cX11_leave 4 (some .long) (Rm 5) ad 91 [.ref (ad v0), .int v1, .int v2, .int v3] m m r := by
  refine ct_ofL mi_X11_leave rfl (Nat.le_of_ble_eq_true rfl) (fun x X hret => ?_)
  refine g_lv [(0, .ref (ad v0)), (1, .int v1), (2, .int v2), (3, .int v3)] [0, 1, 2, 3] rfl ?_
  unfold fX11_leave at hf
  refine g_aload_n (pc := 0) X dX11_leave_0 rfl 0 rfl ?_
  obtain ⟨hk1, hf⟩ := gp_some hf
  obtain ⟨q2, hr3, hf⟩ := bnd_some hf
  refine g_getR (pc := 1) X fl_X11_52 (KClt hk1 (by decide)) hk1 hr3 dX11_leave_1 ?_
  obtain ⟨hk4, hf⟩ := gp_some hf
  refine g_getI (pc := 4) X fl_X11_144 (KClt hk4 (by decide)) hk4 dX11_leave_4 ?_
  refine g_if_ne (pc := 7) (tgt := 14) X dX11_leave_7 (by decide) (fun hc => ?_) (fun hc => ?_)
  · have hf := itn hc hf
    refine g_iload_n (pc := 14) X dX11_leave_14 rfl 1 rfl ?_
    refine g_iconst (v := (0 : Int32)) (pc := 15) X dX11_leave_15 (by decide) ?_
    refine g_sipush (v := (200 : Int32)) (pc := 16) X dX11_leave_16 (by decide) ?_
    obtain ⟨r6, hq5, hf⟩ := bnd_some hf
    refine g_callSI (pc := 19) (As := [.int v1, .int (0 : Int32), .int (200 : Int32)]) (rest := []) X mi_X11_isWithin sm_X11_isWithin ml_X11_60 (cX11_isWithin_ct z ad v1 (0 : Int32) (200 : Int32) m r6 hq5) rfl rfl (Nat.le_of_ble_eq_true rfl) ⟨rfl, rfl, by decide, by decide, Nat.le_refl _, Nat.le_refl _⟩ dX11_leave_19 ?_
    refine g_if_eq (pc := 22) (tgt := 44) X dX11_leave_22 (by decide) (fun hc => ?_) (fun hc => ?_)
    · have hf := itp hc hf
      refine g_ldc2 (pc := 44) X dX11_leave_44 kl_X11_64 ?_
      obtain rfl := Option.some.inj hf
      exact hret _ _ dX11_leave_47
    · have hf := itn hc hf
      refine g_iload_n (pc := 25) X dX11_leave_25 rfl 2 rfl ?_
      refine g_iconst (v := (0 : Int32)) (pc := 26) X dX11_leave_26 (by decide) ?_
      refine g_bipush (v := (50 : Int32)) (pc := 27) X dX11_leave_27 (by decide) ?_
      obtain ⟨r8, hq7, hf⟩ := bnd_some hf
      refine g_callSI (pc := 29) (As := [.int v2, .int (0 : Int32), .int (50 : Int32)]) (rest := []) X mi_X11_isWithin sm_X11_isWithin ml_X11_60 (cX11_isWithin_ct z ad v2 (0 : Int32) (50 : Int32) m r8 hq7) rfl rfl (Nat.le_of_ble_eq_true rfl) ⟨rfl, rfl, by decide, by decide, Nat.le_refl _, Nat.le_refl _⟩ dX11_leave_29 ?_
      refine g_if_eq (pc := 32) (tgt := 44) X dX11_leave_32 (by decide) (fun hc => ?_) (fun hc => ?_)
      · have hf := itp hc hf
        refine g_ldc2 (pc := 44) X dX11_leave_44 kl_X11_64 ?_
        obtain rfl := Option.some.inj hf
        exact hret _ _ dX11_leave_47
      · have hf := itn hc hf
        refine g_iload_n (pc := 35) X dX11_leave_35 rfl 3 rfl ?_
        refine g_iconst (v := (0 : Int32)) (pc := 36) X dX11_leave_36 (by decide) ?_
        refine g_iconst (v := (1 : Int32)) (pc := 37) X dX11_leave_37 (by decide) ?_
        obtain ⟨r10, hq9, hf⟩ := bnd_some hf
        refine g_callSI (pc := 38) (As := [.int v3, .int (0 : Int32), .int (1 : Int32)]) (rest := []) X mi_X11_isWithin sm_X11_isWithin ml_X11_60 (cX11_isWithin_ct z ad v3 (0 : Int32) (1 : Int32) m r10 hq9) rfl rfl (Nat.le_of_ble_eq_true rfl) ⟨rfl, rfl, by decide, by decide, Nat.le_refl _, Nat.le_refl _⟩ dX11_leave_38 ?_
        refine g_if_ne (pc := 41) (tgt := 48) X dX11_leave_41 (by decide) (fun hc => ?_) (fun hc => ?_)
        · have hf := itn hc hf
          refine g_aload_n (pc := 48) X dX11_leave_48 rfl 0 rfl ?_
          refine g_getR (pc := 49) X fl_X11_52 (KClt hk1 (by decide)) hk1 hr3 dX11_leave_49 ?_
          obtain ⟨q11, hr12, hf⟩ := bnd_some hf
          refine g_getR (pc := 52) X fl_X11_281 (KClt hk4 (by decide)) hk4 hr12 dX11_leave_52 ?_
          refine g_iload_n (pc := 55) X dX11_leave_55 rfl 1 rfl ?_
          refine g_iload_n (pc := 56) X dX11_leave_56 rfl 2 rfl ?_
          refine g_iload_n (pc := 57) X dX11_leave_57 rfl 3 rfl ?_
          obtain ⟨hk15, hf⟩ := gp_some hf
          obtain ⟨r14, hq13, hf⟩ := bnd_some hf
          refine g_callVI (pc := 58) (As := [.int v1, .int v2, .int v3]) (rest := []) X mi_X2_leaving im_X2_leaving se_X2_leaving (KClt hk15 (by decide)) hk15 clX2 ml_X11_285 (cX2_leaving_ct z ad q11 v1 v2 v3 m r14 hq13) rfl rfl (Nat.le_of_ble_eq_true rfl) ⟨rfl, rfl, by decide, by decide, Nat.le_refl _, Nat.le_refl _⟩ dX11_leave_58 ?_
          refine g_i2l (pc := 61) X dX11_leave_61 ?_
          obtain rfl := Option.some.inj hf
          exact hret _ _ dX11_leave_62
        · have hf := itp hc hf
          refine g_ldc2 (pc := 44) X dX11_leave_44 kl_X11_64 ?_
          obtain rfl := Option.some.inj hf
          exact hret _ _ dX11_leave_47
  · have hf := itp hc hf
    refine g_ldc2 (pc := 10) X dX11_leave_10 kl_X11_148 ?_
    obtain rfl := Option.some.inj hf
    exact hret _ _ dX11_leave_13

