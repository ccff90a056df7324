noncomputable def fX1_tellOfLatest_60 (v0 : Nat) (v2 : Int32) (v3 : Int32) (v4 : Int32) (s0 : Nat) (s1 : Int32) (s2 : Int32) (m : Mem) : Option Mem := gp (KC s0 = 14) (gp (inb s1 (NC s0) = true) (lt1 (uI m s0 s1.toNatClampNeg s2) (fun m3 => gp (KC v0 = 1) (bnd (m3.2.2 v0 3) (fun q6 => if v2 = 0 then (gp (KC q6 = 14) (gp (inb v3 (NC q6) = true) (gp (inb v3 (NC q6) = true) (lt1 (uI m3 q6 v3.toNatClampNeg ((m3.1 q6 v3.toNatClampNeg) ||| v4)) (fun m11 => some m11))))) else (gp (KC q6 = 14) (gp (inb v3 (NC q6) = true) (gp (inb v3 (NC q6) = true) (lt1 (uI m3 q6 v3.toNatClampNeg ((m3.1 q6 v3.toNatClampNeg) &&& (v4 ^^^ (-1 : Int32)))) (fun m16 => some m16))))))))))
noncomputable def fX1_tellOfLatest (v0 : Nat) (v1 : Int32) (v2 : Int32) (m : Mem) : Option Mem := gp (KC v0 = 1) (if (m.1 v0 6) = 0 then (some m) else (bnd (fX1_isSign v0 v1 m) (fun r20 => if r20 = 0 then (some m) else (lt1 ((m.1 v0 6) - (1 : Int32)) (fun v3_21 => lt1 ((1 : Int32) <<< (v1 &&& 31)) (fun v4_23 => bnd (m.2.2 v0 2) (fun q25 => if v2 = 0 then (gp (KC q25 = 14) (gp (inb v3_21 (NC q25) = true) (fX1_tellOfLatest_60 v0 v2 v3_21 v4_23 q25 v3_21 ((m.1 q25 v3_21.toNatClampNeg) &&& (v4_23 ^^^ (-1 : Int32))) m))) else (gp (KC q25 = 14) (gp (inb v3_21 (NC q25) = true) (fX1_tellOfLatest_60 v0 v2 v3_21 v4_23 q25 v3_21 ((m.1 q25 v3_21.toNatClampNeg) ||| v4_23) m))))))))))
set_option maxHeartbeats 4000000 in
set_option maxRecDepth 100000 in
theorem cX1_tellOfLatest_ct (z : Zx) (ad : Nat → Nat) (v0 : Nat) (v1 : Int32) (v2 : Int32) (m m2 : Mem) (hf : fX1_tellOfLatest v0 v1 v2 m = some m2) : CtV z wC yX1_tellOfLatest cX1_tellOfLatest 5 none (Rm 4) ad 91 [.ref (ad v0), .int v1, .int v2] m m2 := by
  refine ct_ofV mi_X1_tellOfLatest rfl (Nat.le_of_ble_eq_true rfl) (fun x X hret => ?_)
  refine g_lv [(0, .ref (ad v0)), (1, .int v1), (2, .int v2)] [0, 1, 2] rfl ?_
  have hL60 : ∀ (v0 : Nat) (v2 : Int32) (v3 : Int32) (v4 : Int32) (s0 : Nat) (s1 : Int32) (s2 : Int32) (m : Mem), fX1_tellOfLatest_60 v0 v2 v3 v4 s0 s1 s2 m = some m2 → G z wC x 5 0 0 ad 91 m 60 [(0, .ref (ad v0)), (2, .int v2), (3, .int v3), (4, .int v4)] [.int s2, .int s1, .ref (ad s0)] := by
    intro v0 v2 v3 v4 s0 s1 s2 m hf
    unfold fX1_tellOfLatest_60 at hf
    obtain ⟨hk1, hf⟩ := gp_some hf
    obtain ⟨hi2, hf⟩ := gp_some hf
    refine g_iast (pc := 60) X (KClt hk1 (by decide)) hk1 hi2 dX1_tellOfLatest_60 ?_
    obtain ⟨m3, e4, hf⟩ := lt1_some hf
    refine g_mem e4 ?_
    refine g_aload_n (pc := 61) X dX1_tellOfLatest_61 rfl 0 rfl ?_
    obtain ⟨hk5, hf⟩ := gp_some hf
    obtain ⟨q6, hr7, hf⟩ := bnd_some hf
    refine g_getR (pc := 62) X fl_X1_21 (KClt hk5 (by decide)) hk5 hr7 dX1_tellOfLatest_62 ?_
    refine g_iload_n (pc := 65) X dX1_tellOfLatest_65 rfl 2 rfl ?_
    refine g_iload_n (pc := 66) X dX1_tellOfLatest_66 rfl 1 rfl ?_
    refine g_if_eq (pc := 67) (tgt := 84) X dX1_tellOfLatest_67 (by decide) (fun hc => ?_) (fun hc => ?_)
    · have hf := itp hc hf
      refine g_aload_n (pc := 84) X dX1_tellOfLatest_84 rfl 0 rfl ?_
      refine g_getR (pc := 85) X fl_X1_21 (KClt hk5 (by decide)) hk5 hr7 dX1_tellOfLatest_85 ?_
      refine g_iload_n (pc := 88) X dX1_tellOfLatest_88 rfl 2 rfl ?_
      obtain ⟨hk8, hf⟩ := gp_some hf
      obtain ⟨hi9, hf⟩ := gp_some hf
      refine g_iald (pc := 89) X (KClt hk8 (by decide)) hk8 hi9 dX1_tellOfLatest_89 ?_
      refine g_iload (pc := 90) X dX1_tellOfLatest_90 3 rfl ?_
      refine g_ior (pc := 92) X dX1_tellOfLatest_92 ?_
      obtain ⟨hi10, hf⟩ := gp_some hf
      refine g_iast (pc := 93) X (KClt hk8 (by decide)) hk8 hi10 dX1_tellOfLatest_93 ?_
      obtain ⟨m11, e12, hf⟩ := lt1_some hf
      refine g_mem e12 ?_
      obtain rfl := Option.some.inj hf
      exact hret _ _ dX1_tellOfLatest_94
    · have hf := itn hc hf
      refine g_aload_n (pc := 70) X dX1_tellOfLatest_70 rfl 0 rfl ?_
      refine g_getR (pc := 71) X fl_X1_21 (KClt hk5 (by decide)) hk5 hr7 dX1_tellOfLatest_71 ?_
      refine g_iload_n (pc := 74) X dX1_tellOfLatest_74 rfl 2 rfl ?_
      obtain ⟨hk13, hf⟩ := gp_some hf
      obtain ⟨hi14, hf⟩ := gp_some hf
      refine g_iald (pc := 75) X (KClt hk13 (by decide)) hk13 hi14 dX1_tellOfLatest_75 ?_
      refine g_iload (pc := 76) X dX1_tellOfLatest_76 3 rfl ?_
      refine g_iconst (v := (-1 : Int32)) (pc := 78) X dX1_tellOfLatest_78 (by decide) ?_
      refine g_ixor (pc := 79) X dX1_tellOfLatest_79 ?_
      refine g_iand (pc := 80) X dX1_tellOfLatest_80 ?_
      refine g_goto (pc := 81) (tgt := 93) X dX1_tellOfLatest_81 (by decide) ?_
      obtain ⟨hi15, hf⟩ := gp_some hf
      refine g_iast (pc := 93) X (KClt hk13 (by decide)) hk13 hi15 dX1_tellOfLatest_93 ?_
      obtain ⟨m16, e17, hf⟩ := lt1_some hf
      refine g_mem e17 ?_
      obtain rfl := Option.some.inj hf
      exact hret _ _ dX1_tellOfLatest_94
  unfold fX1_tellOfLatest at hf
  refine g_aload_n (pc := 0) X dX1_tellOfLatest_0 rfl 0 rfl ?_
  obtain ⟨hk18, hf⟩ := gp_some hf
  refine g_getI (pc := 1) X fl_X1_31 (KClt hk18 (by decide)) hk18 dX1_tellOfLatest_1 ?_
  refine g_if_eq (pc := 4) (tgt := 15) X dX1_tellOfLatest_4 (by decide) (fun hc => ?_) (fun hc => ?_)
  · have hf := itp hc hf
    obtain rfl := Option.some.inj hf
    exact hret _ _ dX1_tellOfLatest_15
  · have hf := itn hc hf
    refine g_aload_n (pc := 7) X dX1_tellOfLatest_7 rfl 0 rfl ?_
    refine g_iload_n (pc := 8) X dX1_tellOfLatest_8 rfl 1 rfl ?_
    obtain ⟨r20, hq19, hf⟩ := bnd_some hf
    refine g_callVI (pc := 9) (As := [.int v1]) (rest := []) X mi_X1_isSign im_X1_isSign se_X1_isSign (KClt hk18 (by decide)) hk18 clX1 ml_X1_40 (cX1_isSign_ct z ad v0 v1 m r20 hq19) rfl rfl (Nat.le_of_ble_eq_true rfl) ⟨rfl, rfl, by decide, by decide, Nat.le_refl _, Nat.le_refl _⟩ dX1_tellOfLatest_9 ?_
    refine g_if_ne (pc := 12) (tgt := 16) X dX1_tellOfLatest_12 (by decide) (fun hc => ?_) (fun hc => ?_)
    · have hf := itn hc hf
      refine g_aload_n (pc := 16) X dX1_tellOfLatest_16 rfl 0 rfl ?_
      refine g_getI (pc := 17) X fl_X1_31 (KClt hk18 (by decide)) hk18 dX1_tellOfLatest_17 ?_
      refine g_iconst (v := (1 : Int32)) (pc := 20) X dX1_tellOfLatest_20 (by decide) ?_
      refine g_isub (pc := 21) X dX1_tellOfLatest_21 ?_
      obtain ⟨v3_21, e22, hf⟩ := lt1_some hf
      refine g_topi e22 ?_
      refine g_istore_n (lv2 := [(0, .ref (ad v0)), (1, .int v1), (2, .int v2), (3, .int v3_21)]) (pc := 22) X dX1_tellOfLatest_22 rfl (by decide) [1, 2, 3, 0] rfl ?_
      refine g_iconst (v := (1 : Int32)) (pc := 23) X dX1_tellOfLatest_23 (by decide) ?_
      refine g_iload_n (pc := 24) X dX1_tellOfLatest_24 rfl 1 rfl ?_
      refine g_ishl (pc := 25) X dX1_tellOfLatest_25 ?_
      obtain ⟨v4_23, e24, hf⟩ := lt1_some hf
      refine g_topi e24 ?_
      refine g_istore (lv2 := [(0, .ref (ad v0)), (1, .int v1), (2, .int v2), (3, .int v3_21), (4, .int v4_23)]) (pc := 26) X dX1_tellOfLatest_26 (by decide) [1, 2, 3, 4, 0] rfl ?_
      refine g_aload_n (pc := 28) X dX1_tellOfLatest_28 rfl 0 rfl ?_
      obtain ⟨q25, hr26, hf⟩ := bnd_some hf
      refine g_getR (pc := 29) X fl_X1_18 (KClt hk18 (by decide)) hk18 hr26 dX1_tellOfLatest_29 ?_
      refine g_iload_n (pc := 32) X dX1_tellOfLatest_32 rfl 3 rfl ?_
      refine g_iload_n (pc := 33) X dX1_tellOfLatest_33 rfl 2 rfl ?_
      refine g_if_eq (pc := 34) (tgt := 49) X dX1_tellOfLatest_34 (by decide) (fun hc => ?_) (fun hc => ?_)
      · have hf := itp hc hf
        refine g_aload_n (pc := 49) X dX1_tellOfLatest_49 rfl 0 rfl ?_
        refine g_getR (pc := 50) X fl_X1_18 (KClt hk18 (by decide)) hk18 hr26 dX1_tellOfLatest_50 ?_
        refine g_iload_n (pc := 53) X dX1_tellOfLatest_53 rfl 3 rfl ?_
        obtain ⟨hk27, hf⟩ := gp_some hf
        obtain ⟨hi28, hf⟩ := gp_some hf
        refine g_iald (pc := 54) X (KClt hk27 (by decide)) hk27 hi28 dX1_tellOfLatest_54 ?_
        refine g_iload (pc := 55) X dX1_tellOfLatest_55 4 rfl ?_
        refine g_iconst (v := (-1 : Int32)) (pc := 57) X dX1_tellOfLatest_57 (by decide) ?_
        refine g_ixor (pc := 58) X dX1_tellOfLatest_58 ?_
        refine g_iand (pc := 59) X dX1_tellOfLatest_59 ?_
        refine g_lv [(0, .ref (ad v0)), (2, .int v2), (3, .int v3_21), (4, .int v4_23)] [0, 2, 3, 4] rfl ?_
        exact hL60 _ _ _ _ _ _ _ _ hf
      · have hf := itn hc hf
        refine g_aload_n (pc := 37) X dX1_tellOfLatest_37 rfl 0 rfl ?_
        refine g_getR (pc := 38) X fl_X1_18 (KClt hk18 (by decide)) hk18 hr26 dX1_tellOfLatest_38 ?_
        refine g_iload_n (pc := 41) X dX1_tellOfLatest_41 rfl 3 rfl ?_
        obtain ⟨hk29, hf⟩ := gp_some hf
        obtain ⟨hi30, hf⟩ := gp_some hf
        refine g_iald (pc := 42) X (KClt hk29 (by decide)) hk29 hi30 dX1_tellOfLatest_42 ?_
        refine g_iload (pc := 43) X dX1_tellOfLatest_43 4 rfl ?_
        refine g_ior (pc := 45) X dX1_tellOfLatest_45 ?_
        refine g_goto (pc := 46) (tgt := 60) X dX1_tellOfLatest_46 (by decide) ?_
        refine g_lv [(0, .ref (ad v0)), (2, .int v2), (3, .int v3_21), (4, .int v4_23)] [0, 2, 3, 4] rfl ?_
        exact hL60 _ _ _ _ _ _ _ _ hf
    · have hf := itp hc hf
      obtain rfl := Option.some.inj hf
      exact hret _ _ dX1_tellOfLatest_15

noncomputable def fX5_readWhatItLeaves_77 (v0 : Nat) (v1 : Nat) (v2 : Int32) (m : Mem) : Option ((Int32 × Mem) ⊕ ((Mem) ⊕ (Mem))) := lt1 (v2 + 1) (fun v2_1 => some (.inl (v2_1, m)))
noncomputable def fX5_readWhatItLeaves_43 (v0 : Nat) (v1 : Nat) (v2 : Int32) (v3 : Int32) (m : Mem) : Option ((Int32 × Mem) ⊕ ((Mem) ⊕ (Mem))) := gp (KC v0 = 5) (bnd (m.2.2 v0 0) (fun q4 => gp (KC q4 = 8) (bnd (fX8_advance q4 m) (fun m7 => gp (KC v1 = 1) (bnd2 (fX5_takeNumber v0 (0 : Int32) ((m7.1 v1 5) - (1 : Int32)) m7) (fun r11 m12 => if (m12.1 v0 1) = 0 then (bnd (fX1_tellOfLatest v1 r11 v3 m12) (fun m14 => fX5_readWhatItLeaves_77 v0 v1 v2 m14)) else (fX5_readWhatItLeaves_77 v0 v1 v2 m12)))))))
noncomputable def fX5_readWhatItLeaves_2b (v0 : Nat) (v1 : Nat) (v2 : Int32) (m : Mem) : Option ((Int32 × Mem) ⊕ ((Mem) ⊕ (Mem))) := if (600 : Int32) ≤ v2 then (some (.inr (.inr (m)))) else (gp (KC v0 = 5) (if (m.1 v0 1) = 0 then (bnd (m.2.2 v0 0) (fun q16 => gp (KC q16 = 8) (bnd (fX8_isName q16 22 m) (fun r19 => if r19 = 0 then (bnd (fX8_isName q16 23 m) (fun r22 => if r22 = 0 then (some (.inr (.inl (m)))) else (fX5_readWhatItLeaves_43 v0 v1 v2 r19 m))) else (fX5_readWhatItLeaves_43 v0 v1 v2 r19 m))))) else (some (.inr (.inr (m))))))
noncomputable def fX5_readWhatItLeaves_2 (v0 : Nat) (v1 : Nat) (v2 : Int32) (m : Mem) : Option Mem := bnd (iter (fun s => fX5_readWhatItLeaves_2b v0 v1 s.1 s.2) FU (v2, m)) (Sum.elim (fun e => some e) (fun e => some e))
noncomputable def fX5_readWhatItLeaves (v0 : Nat) (v1 : Nat) (m : Mem) : Option Mem := lt1 ((0 : Int32)) (fun v2_23 => fX5_readWhatItLeaves_2 v0 v1 v2_23 m)
set_option maxHeartbeats 4000000 in
set_option maxRecDepth 100000 in
theorem cX5_readWhatItLeaves_ct (z : Zx) (ad : Nat → Nat) (v0 : Nat) (v1 : Nat) (m m2 : Mem) (hf : fX5_readWhatItLeaves v0 v1 m = some m2) : CtV z wC yX5_readWhatItLeaves cX5_readWhatItLeaves 5 none (Rm 8) ad 91 [.ref (ad v0), .ref (ad v1)] m m2 := by
  refine ct_ofV mi_X5_readWhatItLeaves rfl (Nat.le_of_ble_eq_true rfl) (fun x X hret => ?_)
  refine g_lv [(0, .ref (ad v0)), (1, .ref (ad v1))] [0, 1] rfl ?_
  have hL2 : ∀ (v0 : Nat) (v1 : Nat) (v2 : Int32) (m : Mem), fX5_readWhatItLeaves_2 v0 v1 v2 m = some m2 → G z wC x 5 0 0 ad 91 m 2 [(0, .ref (ad v0)), (1, .ref (ad v1)), (2, .int v2)] [] := by
    intro v0 v1 v2 m hf
    unfold fX5_readWhatItLeaves_2 at hf
    obtain ⟨e2, hit2, hrest2⟩ := bnd_some hf
    refine iter_ok (Hd := fun (s : (Int32 × Mem)) => G z wC x 5 0 0 ad 91 s.2 2 [(0, .ref (ad v0)), (1, .ref (ad v1)), (2, .int s.1)] []) ?_ FU (v2, m) hit2
    intro s ob2 hf hs2 he2
    obtain ⟨v2, m⟩ := s
    have hf : fX5_readWhatItLeaves_2b v0 v1 v2 m = some ob2 := hf
    have hL77 : ∀ (v2 : Int32) (m : Mem), fX5_readWhatItLeaves_77 v0 v1 v2 m = some ob2 → G z wC x 5 0 0 ad 91 m 77 [(0, .ref (ad v0)), (1, .ref (ad v1)), (2, .int v2)] [] := by
      intro v2 m hf
      unfold fX5_readWhatItLeaves_77 at hf
      obtain ⟨v2_1, e2, hf⟩ := lt1_some hf
      refine g_iinc (v2 := v2_1) (lv2 := [(0, .ref (ad v0)), (1, .ref (ad v1)), (2, .int v2_1)]) (pc := 77) X dX5_readWhatItLeaves_77 2 rfl (by rw [e2]; rfl) (by decide) [1, 2, 0] rfl ?_
      refine g_goto (pc := 80) (tgt := 2) X dX5_readWhatItLeaves_80 (by decide) ?_
      exact hs2 (v2_1, m) (Option.some.inj hf).symm
    have hL43 : ∀ (v2 : Int32) (v3 : Int32) (m : Mem), fX5_readWhatItLeaves_43 v0 v1 v2 v3 m = some ob2 → G z wC x 5 0 0 ad 91 m 43 [(0, .ref (ad v0)), (1, .ref (ad v1)), (2, .int v2), (3, .int v3)] [] := by
      intro v2 v3 m hf
      unfold fX5_readWhatItLeaves_43 at hf
      refine g_aload_n (pc := 43) X dX5_readWhatItLeaves_43 rfl 0 rfl ?_
      obtain ⟨hk3, hf⟩ := gp_some hf
      obtain ⟨q4, hr5, hf⟩ := bnd_some hf
      refine g_getR (pc := 44) X fl_X5_14 (KClt hk3 (by decide)) hk3 hr5 dX5_readWhatItLeaves_44 ?_
      obtain ⟨hk8, hf⟩ := gp_some hf
      obtain ⟨m7, hq6, hf⟩ := bnd_some hf
      refine g_callVV (pc := 47) (As := []) (rest := []) X mi_X8_advance im_X8_advance se_X8_advance (KClt hk8 (by decide)) hk8 clX8 ml_X5_171 (cX8_advance_ct z ad q4 m m7 hq6) rfl rfl (Nat.le_of_ble_eq_true rfl) ⟨rfl, rfl, by decide, by decide, Nat.le_refl _, Nat.le_refl _⟩ dX5_readWhatItLeaves_47 ?_
      refine g_aload_n (pc := 50) X dX5_readWhatItLeaves_50 rfl 0 rfl ?_
      refine g_iconst (v := (0 : Int32)) (pc := 51) X dX5_readWhatItLeaves_51 (by decide) ?_
      refine g_aload_n (pc := 52) X dX5_readWhatItLeaves_52 rfl 1 rfl ?_
      obtain ⟨hk9, hf⟩ := gp_some hf
      refine g_getI (pc := 53) X fl_X5_174 (KClt hk9 (by decide)) hk9 dX5_readWhatItLeaves_53 ?_
      refine g_iconst (v := (1 : Int32)) (pc := 56) X dX5_readWhatItLeaves_56 (by decide) ?_
      refine g_isub (pc := 57) X dX5_readWhatItLeaves_57 ?_
      obtain ⟨r11, m12, hq10, hf⟩ := bnd2_some hf
      refine g_callVI (pc := 58) (As := [.int (0 : Int32), .int ((m7.1 v1 5) - (1 : Int32))]) (rest := []) X mi_X5_takeNumber im_X5_takeNumber se_X5_takeNumber (KClt hk3 (by decide)) hk3 clX5 ml_X5_93 (cX5_takeNumber_ct z ad v0 (0 : Int32) ((m7.1 v1 5) - (1 : Int32)) m7 m12 r11 hq10) rfl rfl (Nat.le_of_ble_eq_true rfl) ⟨rfl, rfl, by decide, by decide, Nat.le_refl _, Nat.le_refl _⟩ dX5_readWhatItLeaves_58 ?_
      refine g_istore (lv2 := [(0, .ref (ad v0)), (1, .ref (ad v1)), (2, .int v2), (3, .int v3), (4, .int r11)]) (pc := 61) X dX5_readWhatItLeaves_61 (by decide) [1, 2, 3, 4, 0] rfl ?_
      refine g_aload_n (pc := 63) X dX5_readWhatItLeaves_63 rfl 0 rfl ?_
      refine g_getI (pc := 64) X fl_X5_20 (KClt hk3 (by decide)) hk3 dX5_readWhatItLeaves_64 ?_
      refine g_if_ne (pc := 67) (tgt := 77) X dX5_readWhatItLeaves_67 (by decide) (fun hc => ?_) (fun hc => ?_)
      · have hf := itn hc hf
        refine g_lv [(0, .ref (ad v0)), (1, .ref (ad v1)), (2, .int v2)] [0, 1, 2] rfl ?_
        exact hL77 _ _ hf
      · have hf := itp hc hf
        refine g_aload_n (pc := 70) X dX5_readWhatItLeaves_70 rfl 1 rfl ?_
        refine g_iload (pc := 71) X dX5_readWhatItLeaves_71 4 rfl ?_
        refine g_iload_n (pc := 73) X dX5_readWhatItLeaves_73 rfl 3 rfl ?_
        obtain ⟨m14, hq13, hf⟩ := bnd_some hf
        refine g_callVV (pc := 74) (As := [.int r11, .int v3]) (rest := []) X mi_X1_tellOfLatest im_X1_tellOfLatest se_X1_tellOfLatest (KClt hk9 (by decide)) hk9 clX1 ml_X5_177 (cX1_tellOfLatest_ct z ad v1 r11 v3 m12 m14 hq13) rfl rfl (Nat.le_of_ble_eq_true rfl) ⟨rfl, rfl, by decide, by decide, Nat.le_refl _, Nat.le_refl _⟩ dX5_readWhatItLeaves_74 ?_
        refine g_lv [(0, .ref (ad v0)), (1, .ref (ad v1)), (2, .int v2)] [0, 1, 2] rfl ?_
        exact hL77 _ _ hf
    unfold fX5_readWhatItLeaves_2b at hf
    refine g_iload_n (pc := 2) X dX5_readWhatItLeaves_2 rfl 2 rfl ?_
    refine g_sipush (v := (600 : Int32)) (pc := 3) X dX5_readWhatItLeaves_3 (by decide) ?_
    refine g_icmp_ge (pc := 6) (tgt := 83) X dX5_readWhatItLeaves_6 (by decide) (fun hc => ?_) (fun hc => ?_)
    · have hf := itp hc hf
      have he2 := he2 _ (Option.some.inj hf).symm
      subst he2
      have hf : some m = some m2 := hrest2
      obtain rfl := Option.some.inj hf
      exact hret _ _ dX5_readWhatItLeaves_83
    · have hf := itn hc hf
      refine g_aload_n (pc := 9) X dX5_readWhatItLeaves_9 rfl 0 rfl ?_
      obtain ⟨hk15, hf⟩ := gp_some hf
      refine g_getI (pc := 10) X fl_X5_20 (KClt hk15 (by decide)) hk15 dX5_readWhatItLeaves_10 ?_
      refine g_if_ne (pc := 13) (tgt := 83) X dX5_readWhatItLeaves_13 (by decide) (fun hc => ?_) (fun hc => ?_)
      · have hf := itn hc hf
        have he2 := he2 _ (Option.some.inj hf).symm
        subst he2
        have hf : some m = some m2 := hrest2
        obtain rfl := Option.some.inj hf
        exact hret _ _ dX5_readWhatItLeaves_83
      · have hf := itp hc hf
        refine g_aload_n (pc := 16) X dX5_readWhatItLeaves_16 rfl 0 rfl ?_
        obtain ⟨q16, hr17, hf⟩ := bnd_some hf
        refine g_getR (pc := 17) X fl_X5_14 (KClt hk15 (by decide)) hk15 hr17 dX5_readWhatItLeaves_17 ?_
        refine g_ldcS (pc := 20) (i := 22) X rfl dX5_readWhatItLeaves_20 ?_
        obtain ⟨hk20, hf⟩ := gp_some hf
        obtain ⟨r19, hq18, hf⟩ := bnd_some hf
        refine g_callVI (pc := 22) (As := [.ref (z.2.2.2.1 22)]) (rest := []) X mi_X8_isName im_X8_isName se_X8_isName (KClt hk20 (by decide)) hk20 clX8 ml_X5_108 (cX8_isName_ct z ad q16 22 m r19 hq18) rfl rfl (Nat.le_of_ble_eq_true rfl) ⟨rfl, rfl, by decide, by decide, Nat.le_refl _, Nat.le_refl _⟩ dX5_readWhatItLeaves_22 ?_
        refine g_istore_n (lv2 := [(0, .ref (ad v0)), (1, .ref (ad v1)), (2, .int v2), (3, .int r19)]) (pc := 25) X dX5_readWhatItLeaves_25 rfl (by decide) [1, 2, 3, 0] rfl ?_
        refine g_iload_n (pc := 26) X dX5_readWhatItLeaves_26 rfl 3 rfl ?_
        refine g_if_ne (pc := 27) (tgt := 43) X dX5_readWhatItLeaves_27 (by decide) (fun hc => ?_) (fun hc => ?_)
        · have hf := itn hc hf
          exact hL43 _ _ _ hf
        · have hf := itp hc hf
          refine g_aload_n (pc := 30) X dX5_readWhatItLeaves_30 rfl 0 rfl ?_
          refine g_getR (pc := 31) X fl_X5_14 (KClt hk15 (by decide)) hk15 hr17 dX5_readWhatItLeaves_31 ?_
          refine g_ldcS (pc := 34) (i := 23) X rfl dX5_readWhatItLeaves_34 ?_
          obtain ⟨r22, hq21, hf⟩ := bnd_some hf
          refine g_callVI (pc := 36) (As := [.ref (z.2.2.2.1 23)]) (rest := []) X mi_X8_isName im_X8_isName se_X8_isName (KClt hk20 (by decide)) hk20 clX8 ml_X5_108 (cX8_isName_ct z ad q16 23 m r22 hq21) rfl rfl (Nat.le_of_ble_eq_true rfl) ⟨rfl, rfl, by decide, by decide, Nat.le_refl _, Nat.le_refl _⟩ dX5_readWhatItLeaves_36 ?_
          refine g_if_ne (pc := 39) (tgt := 43) X dX5_readWhatItLeaves_39 (by decide) (fun hc => ?_) (fun hc => ?_)
          · have hf := itn hc hf
            exact hL43 _ _ _ hf
          · have hf := itp hc hf
            have he2 := he2 _ (Option.some.inj hf).symm
            subst he2
            have hf : some m = some m2 := hrest2
            obtain rfl := Option.some.inj hf
            exact hret _ _ dX5_readWhatItLeaves_42
  unfold fX5_readWhatItLeaves at hf
  refine g_iconst (v := (0 : Int32)) (pc := 0) X dX5_readWhatItLeaves_0 (by decide) ?_
  obtain ⟨v2_23, e24, hf⟩ := lt1_some hf
  refine g_topi e24 ?_
  refine g_istore_n (lv2 := [(0, .ref (ad v0)), (1, .ref (ad v1)), (2, .int v2_23)]) (pc := 1) X dX5_readWhatItLeaves_1 rfl (by decide) [1, 2, 0] rfl ?_
  exact hL2 _ _ _ _ hf

noncomputable def fX5_readStories_2b (v0 : Nat) (v1 : Nat) (v2 : Int32) (m : Mem) : Option ((Int32 × Mem) ⊕ (Mem)) := if (6 : Int32) < v2 then (some (.inr (m))) else (gp (KC v0 = 5) (bnd2 (fX5_begins v0 21 v2 (6 : Int32) m) (fun r2 m3 => if r2 = 0 then (some (.inr (m3))) else (bnd2 (fX5_takeNumber v0 (1 : Int32) (9 : Int32) m3) (fun r6 m7 => gp (KC v1 = 1) (bnd (fX1_addStory v1 r6 m7) (fun m9 => bnd (fX5_readWhatItLeaves v0 v1 m9) (fun m12 => bnd (fX5_takeEnd v0 m12) (fun m14 => lt1 (v2 + 1) (fun v2_15 => some (.inl (v2_15, m14))))))))))))
noncomputable def fX5_readStories_2 (v0 : Nat) (v1 : Nat) (v2 : Int32) (m : Mem) : Option Mem := bnd (iter (fun s => fX5_readStories_2b v0 v1 s.1 s.2) FU (v2, m)) (fun e => some e)
noncomputable def fX5_readStories (v0 : Nat) (v1 : Nat) (m : Mem) : Option Mem := lt1 ((0 : Int32)) (fun v2_17 => fX5_readStories_2 v0 v1 v2_17 m)
set_option maxHeartbeats 4000000 in
set_option maxRecDepth 100000 in
theorem cX5_readStories_ct (z : Zx) (ad : Nat → Nat) (v0 : Nat) (v1 : Nat) (m m2 : Mem) (hf : fX5_readStories v0 v1 m = some m2) : CtV z wC yX5_readStories cX5_readStories 3 none (Rm 9) ad 91 [.ref (ad v0), .ref (ad v1)] m m2 := by
  refine ct_ofV mi_X5_readStories rfl (Nat.le_of_ble_eq_true rfl) (fun x X hret => ?_)
  refine g_lv [(0, .ref (ad v0)), (1, .ref (ad v1))] [0, 1] rfl ?_
  have hL2 : ∀ (v0 : Nat) (v1 : Nat) (v2 : Int32) (m : Mem), fX5_readStories_2 v0 v1 v2 m = some m2 → G z wC x 3 0 0 ad 91 m 2 [(0, .ref (ad v0)), (1, .ref (ad v1)), (2, .int v2)] [] := by
    intro v0 v1 v2 m hf
    unfold fX5_readStories_2 at hf
    obtain ⟨e2, hit2, hrest2⟩ := bnd_some hf
    refine iter_ok (Hd := fun (s : (Int32 × Mem)) => G z wC x 3 0 0 ad 91 s.2 2 [(0, .ref (ad v0)), (1, .ref (ad v1)), (2, .int s.1)] []) ?_ FU (v2, m) hit2
    intro s ob2 hf hs2 he2
    obtain ⟨v2, m⟩ := s
    have hf : fX5_readStories_2b v0 v1 v2 m = some ob2 := hf
    unfold fX5_readStories_2b at hf
    refine g_iload_n (pc := 2) X dX5_readStories_2 rfl 2 rfl ?_
    refine g_bipush (v := (6 : Int32)) (pc := 3) X dX5_readStories_3 (by decide) ?_
    refine g_icmp_gt (pc := 5) (tgt := 46) X dX5_readStories_5 (by decide) (fun hc => ?_) (fun hc => ?_)
    · have hf := itp hc hf
      have he2 := he2 _ (Option.some.inj hf).symm
      subst he2
      have hf : some m = some m2 := hrest2
      obtain rfl := Option.some.inj hf
      exact hret _ _ dX5_readStories_46
    · have hf := itn hc hf
      refine g_aload_n (pc := 8) X dX5_readStories_8 rfl 0 rfl ?_
      refine g_ldcS (pc := 9) (i := 21) X rfl dX5_readStories_9 ?_
      refine g_iload_n (pc := 11) X dX5_readStories_11 rfl 2 rfl ?_
      refine g_bipush (v := (6 : Int32)) (pc := 12) X dX5_readStories_12 (by decide) ?_
      obtain ⟨hk4, hf⟩ := gp_some hf
      obtain ⟨r2, m3, hq1, hf⟩ := bnd2_some hf
      refine g_callVI (pc := 14) (As := [.ref (z.2.2.2.1 21), .int v2, .int (6 : Int32)]) (rest := []) X mi_X5_begins im_X5_begins se_X5_begins (KClt hk4 (by decide)) hk4 clX5 ml_X5_112 (cX5_begins_ct z ad v0 21 v2 (6 : Int32) m m3 r2 hq1) rfl rfl (Nat.le_of_ble_eq_true rfl) ⟨rfl, rfl, by decide, by decide, Nat.le_refl _, Nat.le_refl _⟩ dX5_readStories_14 ?_
      refine g_if_eq (pc := 17) (tgt := 46) X dX5_readStories_17 (by decide) (fun hc => ?_) (fun hc => ?_)
      · have hf := itp hc hf
        have he2 := he2 _ (Option.some.inj hf).symm
        subst he2
        have hf : some m3 = some m2 := hrest2
        obtain rfl := Option.some.inj hf
        exact hret _ _ dX5_readStories_46
      · have hf := itn hc hf
        refine g_aload_n (pc := 20) X dX5_readStories_20 rfl 1 rfl ?_
        refine g_aload_n (pc := 21) X dX5_readStories_21 rfl 0 rfl ?_
        refine g_iconst (v := (1 : Int32)) (pc := 22) X dX5_readStories_22 (by decide) ?_
        refine g_bipush (v := (9 : Int32)) (pc := 23) X dX5_readStories_23 (by decide) ?_
        obtain ⟨r6, m7, hq5, hf⟩ := bnd2_some hf
        refine g_callVI (pc := 25) (As := [.int (1 : Int32), .int (9 : Int32)]) (rest := [.ref (ad v1)]) X mi_X5_takeNumber im_X5_takeNumber se_X5_takeNumber (KClt hk4 (by decide)) hk4 clX5 ml_X5_93 (cX5_takeNumber_ct z ad v0 (1 : Int32) (9 : Int32) m3 m7 r6 hq5) rfl rfl (Nat.le_of_ble_eq_true rfl) ⟨rfl, rfl, by decide, by decide, Nat.le_refl _, Nat.le_refl _⟩ dX5_readStories_25 ?_
        obtain ⟨hk10, hf⟩ := gp_some hf
        obtain ⟨m9, hq8, hf⟩ := bnd_some hf
        refine g_callVV (pc := 28) (As := [.int r6]) (rest := []) X mi_X1_addStory im_X1_addStory se_X1_addStory (KClt hk10 (by decide)) hk10 clX1 ml_X5_161 (cX1_addStory_ct z ad v1 r6 m7 m9 hq8) rfl rfl (Nat.le_of_ble_eq_true rfl) ⟨rfl, rfl, by decide, by decide, Nat.le_refl _, Nat.le_refl _⟩ dX5_readStories_28 ?_
        refine g_aload_n (pc := 31) X dX5_readStories_31 rfl 0 rfl ?_
        refine g_aload_n (pc := 32) X dX5_readStories_32 rfl 1 rfl ?_
        obtain ⟨m12, hq11, hf⟩ := bnd_some hf
        refine g_callVV (pc := 33) (As := [.ref (ad v1)]) (rest := []) X mi_X5_readWhatItLeaves im_X5_readWhatItLeaves se_X5_readWhatItLeaves (KClt hk4 (by decide)) hk4 clX5 ml_X5_164 (cX5_readWhatItLeaves_ct z ad v0 v1 m9 m12 hq11) rfl rfl (Nat.le_of_ble_eq_true rfl) ⟨rfl, rfl, by decide, by decide, Nat.le_refl _, Nat.le_refl _⟩ dX5_readStories_33 ?_
        refine g_aload_n (pc := 36) X dX5_readStories_36 rfl 0 rfl ?_
        obtain ⟨m14, hq13, hf⟩ := bnd_some hf
        refine g_callVV (pc := 37) (As := []) (rest := []) X mi_X5_takeEnd im_X5_takeEnd se_X5_takeEnd (KClt hk4 (by decide)) hk4 clX5 ml_X5_97 (cX5_takeEnd_ct z ad v0 m12 m14 hq13) rfl rfl (Nat.le_of_ble_eq_true rfl) ⟨rfl, rfl, by decide, by decide, Nat.le_refl _, Nat.le_refl _⟩ dX5_readStories_37 ?_
        obtain ⟨v2_15, e16, hf⟩ := lt1_some hf
        refine g_iinc (v2 := v2_15) (lv2 := [(0, .ref (ad v0)), (1, .ref (ad v1)), (2, .int v2_15)]) (pc := 40) X dX5_readStories_40 2 rfl (by rw [e16]; rfl) (by decide) [1, 2, 0] rfl ?_
        refine g_goto (pc := 43) (tgt := 2) X dX5_readStories_43 (by decide) ?_
        exact hs2 (v2_15, m14) (Option.some.inj hf).symm
  unfold fX5_readStories at hf
  refine g_iconst (v := (0 : Int32)) (pc := 0) X dX5_readStories_0 (by decide) ?_
  obtain ⟨v2_17, e18, hf⟩ := lt1_some hf
  refine g_topi e18 ?_
  refine g_istore_n (lv2 := [(0, .ref (ad v0)), (1, .ref (ad v1)), (2, .int v2_17)]) (pc := 1) X dX5_readStories_1 rfl (by decide) [1, 2, 0] rfl ?_
  exact hL2 _ _ _ _ hf

noncomputable def fX5_readInto_92 (v0 : Nat) (v1 : Nat) (m : Mem) : Option Mem := gp (KC v0 = 5) (if (m.1 v0 1) = 0 then (gp (KC v1 = 10) (gp (zb (1 : Int32) = true) (lt1 (uI m v1 4 (1 : Int32)) (fun m8 => some m8)))) else (gp (KC v1 = 10) (gp (zb (0 : Int32) = true) (lt1 (uI m v1 4 (0 : Int32)) (fun m4 => some m4)))))
noncomputable def fX5_readInto (v0 : Nat) (v1 : Nat) (m : Mem) : Option Mem := gp (KC v0 = 5) (lt1 (uI m v0 1 (0 : Int32)) (fun m11 => lt1 (uI m11 v0 2 (0 : Int32)) (fun m13 => gp (KC v1 = 10) (bnd (fX10_clear v1 m13) (fun m16 => bnd (m16.2.2 v0 0) (fun q18 => gp (KC q18 = 8) (bnd (fX8_rewind q18 m16) (fun m21 => bnd (m21.2.2 v1 0) (fun q23 => bnd (fX5_readSize v0 q23 m21) (fun m26 => bnd (m26.2.2 v1 0) (fun q27 => bnd (fX5_readWinds v0 q27 m26) (fun m30 => bnd (m30.2.2 v1 0) (fun q31 => bnd (fX5_readLands v0 q31 m30) (fun m34 => bnd (m34.2.2 v1 1) (fun q35 => bnd (fX5_readShip v0 q35 m34) (fun m38 => bnd (m38.2.2 v1 2) (fun q39 => bnd (fX5_readMen v0 q39 m38) (fun m42 => bnd (m42.2.2 v1 3) (fun q43 => bnd (fX5_readSigns v0 q43 m42) (fun m46 => bnd (m46.2.2 v1 3) (fun q47 => bnd (fX5_readStories v0 q47 m46) (fun m50 => bnd (m50.2.2 v0 0) (fun q51 => gp (KC q51 = 8) (if (m50.1 q51 3) = 0 then (fX5_readInto_92 v0 v1 m50) else (bnd (fX5_fail v0 (1 : Int32) m50) (fun m55 => fX5_readInto_92 v0 v1 m55))))))))))))))))))))))))))
set_option maxHeartbeats 4000000 in
set_option maxRecDepth 100000 in
theorem cX5_readInto_ct (z : Zx) (ad : Nat → Nat) (v0 : Nat) (v1 : Nat) (m m2 : Mem) (hf : fX5_readInto v0 v1 m = some m2) : CtV z wC yX5_readInto cX5_readInto 2 none (Rm 10) ad 91 [.ref (ad v0), .ref (ad v1)] m m2 := by
  refine ct_ofV mi_X5_readInto rfl (Nat.le_of_ble_eq_true rfl) (fun x X hret => ?_)
  refine g_lv [(0, .ref (ad v0)), (1, .ref (ad v1))] [0, 1] rfl ?_
  have hL92 : ∀ (v0 : Nat) (v1 : Nat) (m : Mem), fX5_readInto_92 v0 v1 m = some m2 → G z wC x 2 0 0 ad 91 m 92 [(0, .ref (ad v0)), (1, .ref (ad v1))] [] := by
    intro v0 v1 m hf
    unfold fX5_readInto_92 at hf
    refine g_aload_n (pc := 92) X dX5_readInto_92 rfl 1 rfl ?_
    refine g_aload_n (pc := 93) X dX5_readInto_93 rfl 0 rfl ?_
    obtain ⟨hk1, hf⟩ := gp_some hf
    refine g_getI (pc := 94) X fl_X5_20 (KClt hk1 (by decide)) hk1 dX5_readInto_94 ?_
    refine g_if_ne (pc := 97) (tgt := 104) X dX5_readInto_97 (by decide) (fun hc => ?_) (fun hc => ?_)
    · have hf := itn hc hf
      refine g_iconst (v := (0 : Int32)) (pc := 104) X dX5_readInto_104 (by decide) ?_
      obtain ⟨hk2, hf⟩ := gp_some hf
      obtain ⟨hb3, hf⟩ := gp_some hf
      refine g_putI (pc := 105) X fl_X5_83 (KClt hk2 (by decide)) hk2 (zb_nar hb3) (zb_fit hb3) dX5_readInto_105 ?_
      obtain ⟨m4, e5, hf⟩ := lt1_some hf
      refine g_mem e5 ?_
      obtain rfl := Option.some.inj hf
      exact hret _ _ dX5_readInto_108
    · have hf := itp hc hf
      refine g_iconst (v := (1 : Int32)) (pc := 100) X dX5_readInto_100 (by decide) ?_
      refine g_goto (pc := 101) (tgt := 105) X dX5_readInto_101 (by decide) ?_
      obtain ⟨hk6, hf⟩ := gp_some hf
      obtain ⟨hb7, hf⟩ := gp_some hf
      refine g_putI (pc := 105) X fl_X5_83 (KClt hk6 (by decide)) hk6 (zb_nar hb7) (zb_fit hb7) dX5_readInto_105 ?_
      obtain ⟨m8, e9, hf⟩ := lt1_some hf
      refine g_mem e9 ?_
      obtain rfl := Option.some.inj hf
      exact hret _ _ dX5_readInto_108
  unfold fX5_readInto at hf
  refine g_aload_n (pc := 0) X dX5_readInto_0 rfl 0 rfl ?_
  refine g_iconst (v := (0 : Int32)) (pc := 1) X dX5_readInto_1 (by decide) ?_
  obtain ⟨hk10, hf⟩ := gp_some hf
  refine g_putI (pc := 2) X fl_X5_20 (KClt hk10 (by decide)) hk10 rfl rfl dX5_readInto_2 ?_
  obtain ⟨m11, e12, hf⟩ := lt1_some hf
  refine g_mem e12 ?_
  refine g_aload_n (pc := 5) X dX5_readInto_5 rfl 0 rfl ?_
  refine g_iconst (v := (0 : Int32)) (pc := 6) X dX5_readInto_6 (by decide) ?_
  refine g_putI (pc := 7) X fl_X5_24 (KClt hk10 (by decide)) hk10 rfl rfl dX5_readInto_7 ?_
  obtain ⟨m13, e14, hf⟩ := lt1_some hf
  refine g_mem e14 ?_
  refine g_aload_n (pc := 10) X dX5_readInto_10 rfl 1 rfl ?_
  obtain ⟨hk17, hf⟩ := gp_some hf
  obtain ⟨m16, hq15, hf⟩ := bnd_some hf
  refine g_callVV (pc := 11) (As := []) (rest := []) X mi_X10_clear im_X10_clear se_X10_clear (KClt hk17 (by decide)) hk17 clX10 ml_X5_27 (cX10_clear_ct z ad v1 m13 m16 hq15) rfl rfl (Nat.le_of_ble_eq_true rfl) ⟨rfl, rfl, by decide, by decide, Nat.le_refl _, Nat.le_refl _⟩ dX5_readInto_11 ?_
  refine g_aload_n (pc := 14) X dX5_readInto_14 rfl 0 rfl ?_
  obtain ⟨q18, hr19, hf⟩ := bnd_some hf
  refine g_getR (pc := 15) X fl_X5_14 (KClt hk10 (by decide)) hk10 hr19 dX5_readInto_15 ?_
  obtain ⟨hk22, hf⟩ := gp_some hf
  obtain ⟨m21, hq20, hf⟩ := bnd_some hf
  refine g_callVV (pc := 18) (As := []) (rest := []) X mi_X8_rewind im_X8_rewind se_X8_rewind (KClt hk22 (by decide)) hk22 clX8 ml_X5_32 (cX8_rewind_ct z ad q18 m16 m21 hq20) rfl rfl (Nat.le_of_ble_eq_true rfl) ⟨rfl, rfl, by decide, by decide, Nat.le_refl _, Nat.le_refl _⟩ dX5_readInto_18 ?_
  refine g_aload_n (pc := 21) X dX5_readInto_21 rfl 0 rfl ?_
  refine g_aload_n (pc := 22) X dX5_readInto_22 rfl 1 rfl ?_
  obtain ⟨q23, hr24, hf⟩ := bnd_some hf
  refine g_getR (pc := 23) X fl_X5_35 (KClt hk17 (by decide)) hk17 hr24 dX5_readInto_23 ?_
  obtain ⟨m26, hq25, hf⟩ := bnd_some hf
  refine g_callVV (pc := 26) (As := [.ref (ad q23)]) (rest := []) X mi_X5_readSize im_X5_readSize se_X5_readSize (KClt hk10 (by decide)) hk10 clX5 ml_X5_39 (cX5_readSize_ct z ad v0 q23 m21 m26 hq25) rfl rfl (Nat.le_of_ble_eq_true rfl) ⟨rfl, rfl, by decide, by decide, Nat.le_refl _, Nat.le_refl _⟩ dX5_readInto_26 ?_
  refine g_aload_n (pc := 29) X dX5_readInto_29 rfl 0 rfl ?_
  refine g_aload_n (pc := 30) X dX5_readInto_30 rfl 1 rfl ?_
  obtain ⟨q27, hr28, hf⟩ := bnd_some hf
  refine g_getR (pc := 31) X fl_X5_35 (KClt hk17 (by decide)) hk17 hr28 dX5_readInto_31 ?_
  obtain ⟨m30, hq29, hf⟩ := bnd_some hf
  refine g_callVV (pc := 34) (As := [.ref (ad q27)]) (rest := []) X mi_X5_readWinds im_X5_readWinds se_X5_readWinds (KClt hk10 (by decide)) hk10 clX5 ml_X5_43 (cX5_readWinds_ct z ad v0 q27 m26 m30 hq29) rfl rfl (Nat.le_of_ble_eq_true rfl) ⟨rfl, rfl, by decide, by decide, Nat.le_refl _, Nat.le_refl _⟩ dX5_readInto_34 ?_
  refine g_aload_n (pc := 37) X dX5_readInto_37 rfl 0 rfl ?_
  refine g_aload_n (pc := 38) X dX5_readInto_38 rfl 1 rfl ?_
  obtain ⟨q31, hr32, hf⟩ := bnd_some hf
  refine g_getR (pc := 39) X fl_X5_35 (KClt hk17 (by decide)) hk17 hr32 dX5_readInto_39 ?_
  obtain ⟨m34, hq33, hf⟩ := bnd_some hf
  refine g_callVV (pc := 42) (As := [.ref (ad q31)]) (rest := []) X mi_X5_readLands im_X5_readLands se_X5_readLands (KClt hk10 (by decide)) hk10 clX5 ml_X5_46 (cX5_readLands_ct z ad v0 q31 m30 m34 hq33) rfl rfl (Nat.le_of_ble_eq_true rfl) ⟨rfl, rfl, by decide, by decide, Nat.le_refl _, Nat.le_refl _⟩ dX5_readInto_42 ?_
  refine g_aload_n (pc := 45) X dX5_readInto_45 rfl 0 rfl ?_
  refine g_aload_n (pc := 46) X dX5_readInto_46 rfl 1 rfl ?_
  obtain ⟨q35, hr36, hf⟩ := bnd_some hf
  refine g_getR (pc := 47) X fl_X5_49 (KClt hk17 (by decide)) hk17 hr36 dX5_readInto_47 ?_
  obtain ⟨m38, hq37, hf⟩ := bnd_some hf
  refine g_callVV (pc := 50) (As := [.ref (ad q35)]) (rest := []) X mi_X5_readShip im_X5_readShip se_X5_readShip (KClt hk10 (by decide)) hk10 clX5 ml_X5_53 (cX5_readShip_ct z ad v0 q35 m34 m38 hq37) rfl rfl (Nat.le_of_ble_eq_true rfl) ⟨rfl, rfl, by decide, by decide, Nat.le_refl _, Nat.le_refl _⟩ dX5_readInto_50 ?_
  refine g_aload_n (pc := 53) X dX5_readInto_53 rfl 0 rfl ?_
  refine g_aload_n (pc := 54) X dX5_readInto_54 rfl 1 rfl ?_
  obtain ⟨q39, hr40, hf⟩ := bnd_some hf
  refine g_getR (pc := 55) X fl_X5_57 (KClt hk17 (by decide)) hk17 hr40 dX5_readInto_55 ?_
  obtain ⟨m42, hq41, hf⟩ := bnd_some hf
  refine g_callVV (pc := 58) (As := [.ref (ad q39)]) (rest := []) X mi_X5_readMen im_X5_readMen se_X5_readMen (KClt hk10 (by decide)) hk10 clX5 ml_X5_61 (cX5_readMen_ct z ad v0 q39 m38 m42 hq41) rfl rfl (Nat.le_of_ble_eq_true rfl) ⟨rfl, rfl, by decide, by decide, Nat.le_refl _, Nat.le_refl _⟩ dX5_readInto_58 ?_
  refine g_aload_n (pc := 61) X dX5_readInto_61 rfl 0 rfl ?_
  refine g_aload_n (pc := 62) X dX5_readInto_62 rfl 1 rfl ?_
  obtain ⟨q43, hr44, hf⟩ := bnd_some hf
  refine g_getR (pc := 63) X fl_X5_65 (KClt hk17 (by decide)) hk17 hr44 dX5_readInto_63 ?_
  obtain ⟨m46, hq45, hf⟩ := bnd_some hf
  refine g_callVV (pc := 66) (As := [.ref (ad q43)]) (rest := []) X mi_X5_readSigns im_X5_readSigns se_X5_readSigns (KClt hk10 (by decide)) hk10 clX5 ml_X5_69 (cX5_readSigns_ct z ad v0 q43 m42 m46 hq45) rfl rfl (Nat.le_of_ble_eq_true rfl) ⟨rfl, rfl, by decide, by decide, Nat.le_refl _, Nat.le_refl _⟩ dX5_readInto_66 ?_
  refine g_aload_n (pc := 69) X dX5_readInto_69 rfl 0 rfl ?_
  refine g_aload_n (pc := 70) X dX5_readInto_70 rfl 1 rfl ?_
  obtain ⟨q47, hr48, hf⟩ := bnd_some hf
  refine g_getR (pc := 71) X fl_X5_65 (KClt hk17 (by decide)) hk17 hr48 dX5_readInto_71 ?_
  obtain ⟨m50, hq49, hf⟩ := bnd_some hf
  refine g_callVV (pc := 74) (As := [.ref (ad q47)]) (rest := []) X mi_X5_readStories im_X5_readStories se_X5_readStories (KClt hk10 (by decide)) hk10 clX5 ml_X5_73 (cX5_readStories_ct z ad v0 q47 m46 m50 hq49) rfl rfl (Nat.le_of_ble_eq_true rfl) ⟨rfl, rfl, by decide, by decide, Nat.le_refl _, Nat.le_refl _⟩ dX5_readInto_74 ?_
  refine g_aload_n (pc := 77) X dX5_readInto_77 rfl 0 rfl ?_
  obtain ⟨q51, hr52, hf⟩ := bnd_some hf
  refine g_getR (pc := 78) X fl_X5_14 (KClt hk10 (by decide)) hk10 hr52 dX5_readInto_78 ?_
  obtain ⟨hk53, hf⟩ := gp_some hf
  refine g_getI (pc := 81) X fl_X5_76 (KClt hk53 (by decide)) hk53 dX5_readInto_81 ?_
  refine g_if_eq (pc := 84) (tgt := 92) X dX5_readInto_84 (by decide) (fun hc => ?_) (fun hc => ?_)
  · have hf := itp hc hf
    exact hL92 _ _ _ hf
  · have hf := itn hc hf
    refine g_aload_n (pc := 87) X dX5_readInto_87 rfl 0 rfl ?_
    refine g_iconst (v := (1 : Int32)) (pc := 88) X dX5_readInto_88 (by decide) ?_
    obtain ⟨m55, hq54, hf⟩ := bnd_some hf
    refine g_callVV (pc := 89) (As := [.int (1 : Int32)]) (rest := []) X mi_X5_fail im_X5_fail se_X5_fail (KClt hk10 (by decide)) hk10 clX5 ml_X5_79 (cX5_fail_ct z ad v0 (1 : Int32) m50 m55 hq54) rfl rfl (Nat.le_of_ble_eq_true rfl) ⟨rfl, rfl, by decide, by decide, Nat.le_refl _, Nat.le_refl _⟩ dX5_readInto_89 ?_
    exact hL92 _ _ _ hf

noncomputable def fX7_empty (v0 : Nat) (m : Mem) : Option Mem := gp (KC v0 = 7) (lt1 (uI m v0 1 (0 : Int32)) (fun m2 => some m2))
set_option maxHeartbeats 4000000 in
set_option maxRecDepth 100000 in
theorem cX7_empty_ct (z : Zx) (ad : Nat → Nat) (v0 : Nat) (m m2 : Mem) (hf : fX7_empty v0 m = some m2) : CtV z wC yX7_empty cX7_empty 1 none (Rm 2) ad 91 [.ref (ad v0)] m m2 := by
  refine ct_ofV mi_X7_empty rfl (Nat.le_of_ble_eq_true rfl) (fun x X hret => ?_)
  refine g_lv [(0, .ref (ad v0))] [0] rfl ?_
  unfold fX7_empty at hf
  refine g_aload_n (pc := 0) X dX7_empty_0 rfl 0 rfl ?_
  refine g_iconst (v := (0 : Int32)) (pc := 1) X dX7_empty_1 (by decide) ?_
  obtain ⟨hk1, hf⟩ := gp_some hf
  refine g_putI (pc := 2) X fl_X7_15 (KClt hk1 (by decide)) hk1 rfl rfl dX7_empty_2 ?_
  obtain ⟨m2, e3, hf⟩ := lt1_some hf
  refine g_mem e3 ?_
  obtain rfl := Option.some.inj hf
  exact hret _ _ dX7_empty_5

noncomputable def fX11_sea (v0 : Nat) (m : Mem) : Option (Int64 × Mem) := gp (KC v0 = 11) (bnd (m.2.2 v0 2) (fun q2 => bnd (m.2.2 v0 7) (fun q4 => gp (KC q2 = 5) (bnd (fX5_readInto q2 q4 m) (fun m7 => bnd (m7.2.2 v0 1) (fun q9 => gp (KC q9 = 7) (bnd (fX7_empty q9 m7) (fun m12 => bnd (m12.2.2 v0 2) (fun q14 => gp (KC q14 = 5) (if (m12.1 q14 1) = 0 then (bnd (m12.2.2 v0 6) (fun q17 => bnd (m12.2.2 v0 7) (fun q19 => lt1 (uR m12 v0 6 (some q19)) (fun m21 => lt1 (uR m21 v0 7 (some q17)) (fun m23 => bnd (m23.2.2 v0 6) (fun q25 => gp (KC q25 = 10) (bnd (m23.2.2 q25 3) (fun q28 => gp (KC q28 = 1) (some ((m23.1 q28 6).toInt64, m23)))))))))) else (lt1 (uI m12 v0 8 (m12.1 q14 1)) (fun m31 => bnd (m31.2.2 v0 2) (fun q33 => gp (KC q33 = 5) (some ((-9000000000000000100 : Int64) - ((m31.1 q33 2).toInt64), m31)))))))))))))))
set_option maxHeartbeats 4000000 in
set_option maxRecDepth 100000 in
theorem cX11_sea_ct (z : Zx) (ad : Nat → Nat) (v0 : Nat) (m m2 : Mem) (r : Int64) (hf : fX11_sea v0 m = some (r, m2)) : CtL z wC yX11_sea cX11_sea 2 (some .long) (Rm 11) ad 91 [.ref (ad v0)] m m2 r := by
  refine ct_ofL mi_X11_sea rfl (Nat.le_of_ble_eq_true rfl) (fun x X hret => ?_)
  refine g_lv [(0, .ref (ad v0))] [0] rfl ?_
  unfold fX11_sea at hf
  refine g_aload_n (pc := 0) X dX11_sea_0 rfl 0 rfl ?_
  obtain ⟨hk1, hf⟩ := gp_some hf
  obtain ⟨q2, hr3, hf⟩ := bnd_some hf
  refine g_getR (pc := 1) X fl_X11_27 (KClt hk1 (by decide)) hk1 hr3 dX11_sea_1 ?_
  refine g_aload_n (pc := 4) X dX11_sea_4 rfl 0 rfl ?_
  obtain ⟨q4, hr5, hf⟩ := bnd_some hf
  refine g_getR (pc := 5) X fl_X11_56 (KClt hk1 (by decide)) hk1 hr5 dX11_sea_5 ?_
  obtain ⟨hk8, hf⟩ := gp_some hf
  obtain ⟨m7, hq6, hf⟩ := bnd_some hf
  refine g_callVV (pc := 8) (As := [.ref (ad q4)]) (rest := []) X mi_X5_readInto im_X5_readInto se_X5_readInto (KClt hk8 (by decide)) hk8 clX5 ml_X11_117 (cX5_readInto_ct z ad q2 q4 m m7 hq6) rfl rfl (Nat.le_of_ble_eq_true rfl) ⟨rfl, rfl, by decide, by decide, Nat.le_refl _, Nat.le_refl _⟩ dX11_sea_8 ?_
  refine g_aload_n (pc := 11) X dX11_sea_11 rfl 0 rfl ?_
  obtain ⟨q9, hr10, hf⟩ := bnd_some hf
  refine g_getR (pc := 12) X fl_X11_18 (KClt hk1 (by decide)) hk1 hr10 dX11_sea_12 ?_
  obtain ⟨hk13, hf⟩ := gp_some hf
  obtain ⟨m12, hq11, hf⟩ := bnd_some hf
  refine g_callVV (pc := 15) (As := []) (rest := []) X mi_X7_empty im_X7_empty se_X7_empty (KClt hk13 (by decide)) hk13 clX7 ml_X11_121 (cX7_empty_ct z ad q9 m7 m12 hq11) rfl rfl (Nat.le_of_ble_eq_true rfl) ⟨rfl, rfl, by decide, by decide, Nat.le_refl _, Nat.le_refl _⟩ dX11_sea_15 ?_
  refine g_aload_n (pc := 18) X dX11_sea_18 rfl 0 rfl ?_
  obtain ⟨q14, hr15, hf⟩ := bnd_some hf
  refine g_getR (pc := 19) X fl_X11_27 (KClt hk1 (by decide)) hk1 hr15 dX11_sea_19 ?_
  obtain ⟨hk16, hf⟩ := gp_some hf
  refine g_getI (pc := 22) X fl_X11_124 (KClt hk16 (by decide)) hk16 dX11_sea_22 ?_
  refine g_if_eq (pc := 25) (tgt := 52) X dX11_sea_25 (by decide) (fun hc => ?_) (fun hc => ?_)
  · have hf := itp hc hf
    refine g_aload_n (pc := 52) X dX11_sea_52 rfl 0 rfl ?_
    obtain ⟨q17, hr18, hf⟩ := bnd_some hf
    refine g_getR (pc := 53) X fl_X11_52 (KClt hk1 (by decide)) hk1 hr18 dX11_sea_53 ?_
    refine g_astore_n (lv2 := [(0, .ref (ad v0)), (1, .ref (ad q17))]) (pc := 56) X dX11_sea_56 rfl (by decide) [1, 0] rfl ?_
    refine g_aload_n (pc := 57) X dX11_sea_57 rfl 0 rfl ?_
    refine g_aload_n (pc := 58) X dX11_sea_58 rfl 0 rfl ?_
    obtain ⟨q19, hr20, hf⟩ := bnd_some hf
    refine g_getR (pc := 59) X fl_X11_56 (KClt hk1 (by decide)) hk1 hr20 dX11_sea_59 ?_
    refine g_putR (pc := 62) X fl_X11_52 (KClt hk1 (by decide)) hk1 rfl rfl dX11_sea_62 ?_
    obtain ⟨m21, e22, hf⟩ := lt1_some hf
    refine g_mem e22 ?_
    refine g_aload_n (pc := 65) X dX11_sea_65 rfl 0 rfl ?_
    refine g_aload_n (pc := 66) X dX11_sea_66 rfl 1 rfl ?_
    refine g_putR (pc := 67) X fl_X11_56 (KClt hk1 (by decide)) hk1 rfl rfl dX11_sea_67 ?_
    obtain ⟨m23, e24, hf⟩ := lt1_some hf
    refine g_mem e24 ?_
    refine g_aload_n (pc := 70) X dX11_sea_70 rfl 0 rfl ?_
    obtain ⟨q25, hr26, hf⟩ := bnd_some hf
    refine g_getR (pc := 71) X fl_X11_52 (KClt hk1 (by decide)) hk1 hr26 dX11_sea_71 ?_
    obtain ⟨hk27, hf⟩ := gp_some hf
    obtain ⟨q28, hr29, hf⟩ := bnd_some hf
    refine g_getR (pc := 74) X fl_X11_135 (KClt hk27 (by decide)) hk27 hr29 dX11_sea_74 ?_
    obtain ⟨hk30, hf⟩ := gp_some hf
    refine g_getI (pc := 77) X fl_X11_139 (KClt hk30 (by decide)) hk30 dX11_sea_77 ?_
    refine g_i2l (pc := 80) X dX11_sea_80 ?_
    obtain ⟨rfl, rfl⟩ := som2 hf
    exact hret _ _ dX11_sea_81
  · have hf := itn hc hf
    refine g_aload_n (pc := 28) X dX11_sea_28 rfl 0 rfl ?_
    refine g_aload_n (pc := 29) X dX11_sea_29 rfl 0 rfl ?_
    refine g_getR (pc := 30) X fl_X11_27 (KClt hk1 (by decide)) hk1 hr15 dX11_sea_30 ?_
    refine g_getI (pc := 33) X fl_X11_124 (KClt hk16 (by decide)) hk16 dX11_sea_33 ?_
    refine g_putI (pc := 36) X fl_X11_127 (KClt hk1 (by decide)) hk1 rfl rfl dX11_sea_36 ?_
    obtain ⟨m31, e32, hf⟩ := lt1_some hf
    refine g_mem e32 ?_
    refine g_ldc2 (pc := 39) X dX11_sea_39 kl_X11_130 ?_
    refine g_aload_n (pc := 42) X dX11_sea_42 rfl 0 rfl ?_
    obtain ⟨q33, hr34, hf⟩ := bnd_some hf
    refine g_getR (pc := 43) X fl_X11_27 (KClt hk1 (by decide)) hk1 hr34 dX11_sea_43 ?_
    obtain ⟨hk35, hf⟩ := gp_some hf
    refine g_getI (pc := 46) X fl_X11_132 (KClt hk35 (by decide)) hk35 dX11_sea_46 ?_
    refine g_i2l (pc := 49) X dX11_sea_49 ?_
    refine g_lsub (pc := 50) X dX11_sea_50 ?_
    obtain ⟨rfl, rfl⟩ := som2 hf
    exact hret _ _ dX11_sea_51

noncomputable def fX11_fault (v0 : Nat) (m : Mem) : Option Int32 := gp (KC v0 = 11) (some (m.1 v0 8))
set_option maxHeartbeats 4000000 in
set_option maxRecDepth 100000 in
theorem cX11_fault_ct (z : Zx) (ad : Nat → Nat) (v0 : Nat) (m : Mem) (r : Int32) (hf : fX11_fault v0 m = some r) : CtI z wC yX11_fault cX11_fault 1 (some .int) (Rm 2) ad 91 [.ref (ad v0)] m m r := by
  refine ct_ofI mi_X11_fault rfl (Nat.le_of_ble_eq_true rfl) (fun x X hret => ?_)
  refine g_lv [(0, .ref (ad v0))] [0] rfl ?_
  unfold fX11_fault at hf
  refine g_aload_n (pc := 0) X dX11_fault_0 rfl 0 rfl ?_
  obtain ⟨hk1, hf⟩ := gp_some hf
  refine g_getI (pc := 1) X fl_X11_127 (KClt hk1 (by decide)) hk1 dX11_fault_1 ?_
  obtain rfl := Option.some.inj hf
  exact hret _ _ rfl dX11_fault_4

noncomputable def fX9_isCell (v0 : Nat) (v1 : Int32) (m : Mem) : Option Int32 := bnd (fX11_isWithin v1 (0 : Int32) (127 : Int32)) (fun r2 => if r2 = 0 then (some (0 : Int32)) else (gp (¬ (16 : Int32) = 0) (gp (¬ (16 : Int32) = 0) (gp (KC v0 = 9) (bnd (fX9_isInside v0 (v1 - v1 / (16 : Int32) * (16 : Int32)) (v1 / (16 : Int32)) m) (fun r6 => if r6 = 0 then (some (0 : Int32)) else (some (1 : Int32))))))))
set_option maxHeartbeats 4000000 in
set_option maxRecDepth 100000 in
theorem cX9_isCell_ct (z : Zx) (ad : Nat → Nat) (v0 : Nat) (v1 : Int32) (m : Mem) (r : Int32) (hf : fX9_isCell v0 v1 m = some r) : CtI z wC yX9_isCell cX9_isCell 2 (some .boolean) (Rm 4) ad 91 [.ref (ad v0), .int v1] m m r := by
  refine ct_ofI mi_X9_isCell rfl (Nat.le_of_ble_eq_true rfl) (fun x X hret => ?_)
  refine g_lv [(0, .ref (ad v0)), (1, .int v1)] [0, 1] rfl ?_
  unfold fX9_isCell at hf
  refine g_iload_n (pc := 0) X dX9_isCell_0 rfl 1 rfl ?_
  refine g_iconst (v := (0 : Int32)) (pc := 1) X dX9_isCell_1 (by decide) ?_
  refine g_bipush (v := (127 : Int32)) (pc := 2) X dX9_isCell_2 (by decide) ?_
  obtain ⟨r2, hq1, hf⟩ := bnd_some hf
  refine g_callSNI (pc := 4) (As := [.int v1, .int (0 : Int32), .int (127 : Int32)]) (rest := []) (q := 10) X mi_X11_isWithin sm_X11_isWithin rfl (cX11_isWithin_ct z ad v1 (0 : Int32) (127 : Int32) m r2 hq1) rfl rfl (Nat.le_of_ble_eq_true rfl) ⟨rfl, rfl, by decide, by decide, Nat.le_refl _, Nat.le_refl _⟩ dX9_isCell_4 ?_
  refine g_if_eq (pc := 7) (tgt := 29) X dX9_isCell_7 (by decide) (fun hc => ?_) (fun hc => ?_)
  · have hf := itp hc hf
    refine g_iconst (v := (0 : Int32)) (pc := 29) X dX9_isCell_29 (by decide) ?_
    obtain rfl := Option.some.inj hf
    exact hret _ _ (by decide) dX9_isCell_30
  · have hf := itn hc hf
    refine g_aload_n (pc := 10) X dX9_isCell_10 rfl 0 rfl ?_
    refine g_iload_n (pc := 11) X dX9_isCell_11 rfl 1 rfl ?_
    refine g_bipush (v := (16 : Int32)) (pc := 12) X dX9_isCell_12 (by decide) ?_
    obtain ⟨hz3, hf⟩ := gp_some hf
    refine g_irem (pc := 14) X dX9_isCell_14 hz3 ?_
    refine g_iload_n (pc := 15) X dX9_isCell_15 rfl 1 rfl ?_
    refine g_bipush (v := (16 : Int32)) (pc := 16) X dX9_isCell_16 (by decide) ?_
    obtain ⟨hz4, hf⟩ := gp_some hf
    refine g_idiv (pc := 18) X dX9_isCell_18 hz4 ?_
    obtain ⟨hk7, hf⟩ := gp_some hf
    obtain ⟨r6, hq5, hf⟩ := bnd_some hf
    refine g_callVI (pc := 19) (As := [.int (v1 - v1 / (16 : Int32) * (16 : Int32)), .int (v1 / (16 : Int32))]) (rest := []) X mi_X9_isInside im_X9_isInside se_X9_isInside (KClt hk7 (by decide)) hk7 clX9 ml_X9_40 (cX9_isInside_ct z ad v0 (v1 - v1 / (16 : Int32) * (16 : Int32)) (v1 / (16 : Int32)) m r6 hq5) rfl rfl (Nat.le_of_ble_eq_true rfl) ⟨rfl, rfl, by decide, by decide, Nat.le_refl _, Nat.le_refl _⟩ dX9_isCell_19 ?_
    refine g_if_eq (pc := 22) (tgt := 29) X dX9_isCell_22 (by decide) (fun hc => ?_) (fun hc => ?_)
    · have hf := itp hc hf
      refine g_iconst (v := (0 : Int32)) (pc := 29) X dX9_isCell_29 (by decide) ?_
      obtain rfl := Option.some.inj hf
      exact hret _ _ (by decide) dX9_isCell_30
    · have hf := itn hc hf
      refine g_iconst (v := (1 : Int32)) (pc := 25) X dX9_isCell_25 (by decide) ?_
      refine g_goto (pc := 26) (tgt := 30) X dX9_isCell_26 (by decide) ?_
      obtain rfl := Option.some.inj hf
      exact hret _ _ (by decide) dX9_isCell_30

noncomputable def fX11_isIn (v0 : Int32) (v1 : Int32) : Option Int32 := if ((v1 >>> (v0 &&& 31)) &&& (1 : Int32)) = (1 : Int32) then (some (1 : Int32)) else (some (0 : Int32))
set_option maxHeartbeats 4000000 in
set_option maxRecDepth 100000 in
theorem cX11_isIn_ct (z : Zx) (ad : Nat → Nat) (v0 : Int32) (v1 : Int32) (m : Mem) (r : Int32) (hf : fX11_isIn v0 v1 = some r) : CtI z wC yX11_isIn cX11_isIn 2 (some .boolean) (Rm 2) ad 91 [.int v0, .int v1] m m r := by
  refine ct_ofI mi_X11_isIn rfl (Nat.le_of_ble_eq_true rfl) (fun x X hret => ?_)
  refine g_lv [(0, .int v0), (1, .int v1)] [0, 1] rfl ?_
  unfold fX11_isIn at hf
  refine g_iload_n (pc := 0) X dX11_isIn_0 rfl 1 rfl ?_
  refine g_iload_n (pc := 1) X dX11_isIn_1 rfl 0 rfl ?_
  refine g_ishr (pc := 2) X dX11_isIn_2 ?_
  refine g_iconst (v := (1 : Int32)) (pc := 3) X dX11_isIn_3 (by decide) ?_
  refine g_iand (pc := 4) X dX11_isIn_4 ?_
  refine g_iconst (v := (1 : Int32)) (pc := 5) X dX11_isIn_5 (by decide) ?_
  refine g_icmp_ne (pc := 6) (tgt := 13) X dX11_isIn_6 (by decide) (fun hc => ?_) (fun hc => ?_)
  · have hf := itn hc hf
    refine g_iconst (v := (0 : Int32)) (pc := 13) X dX11_isIn_13 (by decide) ?_
    obtain rfl := Option.some.inj hf
    exact hret _ _ (by decide) dX11_isIn_14
  · have hf := itp hc hf
    refine g_iconst (v := (1 : Int32)) (pc := 9) X dX11_isIn_9 (by decide) ?_
    refine g_goto (pc := 10) (tgt := 14) X dX11_isIn_10 (by decide) ?_
    obtain rfl := Option.some.inj hf
    exact hret _ _ (by decide) dX11_isIn_14

noncomputable def fX9_isLand (v0 : Nat) (v1 : Int32) (m : Mem) : Option Int32 := gp (KC v0 = 9) (bnd (fX9_isCell v0 v1 m) (fun r2 => if r2 = 0 then (some (0 : Int32)) else (gp (¬ (16 : Int32) = 0) (bnd (m.2.2 v0 0) (fun q5 => gp (¬ (16 : Int32) = 0) (gp (KC q5 = 14) (gp (inb (v1 / (16 : Int32)) (NC q5) = true) (bnd (fX11_isIn (v1 - v1 / (16 : Int32) * (16 : Int32)) (m.1 q5 (v1 / (16 : Int32)).toNatClampNeg)) (fun r11 => if r11 = 0 then (some (0 : Int32)) else (some (1 : Int32)))))))))))
set_option maxHeartbeats 4000000 in
set_option maxRecDepth 100000 in
theorem cX9_isLand_ct (z : Zx) (ad : Nat → Nat) (v0 : Nat) (v1 : Int32) (m : Mem) (r : Int32) (hf : fX9_isLand v0 v1 m = some r) : CtI z wC yX9_isLand cX9_isLand 2 (some .boolean) (Rm 5) ad 91 [.ref (ad v0), .int v1] m m r := by
  refine ct_ofI mi_X9_isLand rfl (Nat.le_of_ble_eq_true rfl) (fun x X hret => ?_)
  refine g_lv [(0, .ref (ad v0)), (1, .int v1)] [0, 1] rfl ?_
  unfold fX9_isLand at hf
  refine g_aload_n (pc := 0) X dX9_isLand_0 rfl 0 rfl ?_
  refine g_iload_n (pc := 1) X dX9_isLand_1 rfl 1 rfl ?_
  obtain ⟨hk3, hf⟩ := gp_some hf
  obtain ⟨r2, hq1, hf⟩ := bnd_some hf
  refine g_callVI (pc := 2) (As := [.int v1]) (rest := []) X mi_X9_isCell im_X9_isCell se_X9_isCell (KClt hk3 (by decide)) hk3 clX9 ml_X9_48 (cX9_isCell_ct z ad v0 v1 m r2 hq1) rfl rfl (Nat.le_of_ble_eq_true rfl) ⟨rfl, rfl, by decide, by decide, Nat.le_refl _, Nat.le_refl _⟩ dX9_isLand_2 ?_
  refine g_if_eq (pc := 5) (tgt := 31) X dX9_isLand_5 (by decide) (fun hc => ?_) (fun hc => ?_)
  · have hf := itp hc hf
    refine g_iconst (v := (0 : Int32)) (pc := 31) X dX9_isLand_31 (by decide) ?_
    obtain rfl := Option.some.inj hf
    exact hret _ _ (by decide) dX9_isLand_32
  · have hf := itn hc hf
    refine g_iload_n (pc := 8) X dX9_isLand_8 rfl 1 rfl ?_
    refine g_bipush (v := (16 : Int32)) (pc := 9) X dX9_isLand_9 (by decide) ?_
    obtain ⟨hz4, hf⟩ := gp_some hf
    refine g_irem (pc := 11) X dX9_isLand_11 hz4 ?_
    refine g_aload_n (pc := 12) X dX9_isLand_12 rfl 0 rfl ?_
    obtain ⟨q5, hr6, hf⟩ := bnd_some hf
    refine g_getR (pc := 13) X fl_X9_9 (KClt hk3 (by decide)) hk3 hr6 dX9_isLand_13 ?_
    refine g_iload_n (pc := 16) X dX9_isLand_16 rfl 1 rfl ?_
    refine g_bipush (v := (16 : Int32)) (pc := 17) X dX9_isLand_17 (by decide) ?_
    obtain ⟨hz7, hf⟩ := gp_some hf
    refine g_idiv (pc := 19) X dX9_isLand_19 hz7 ?_
    obtain ⟨hk8, hf⟩ := gp_some hf
    obtain ⟨hi9, hf⟩ := gp_some hf
    refine g_iald (pc := 20) X (KClt hk8 (by decide)) hk8 hi9 dX9_isLand_20 ?_
    obtain ⟨r11, hq10, hf⟩ := bnd_some hf
    refine g_callSNI (pc := 21) (As := [.int (v1 - v1 / (16 : Int32) * (16 : Int32)), .int (m.1 q5 (v1 / (16 : Int32)).toNatClampNeg)]) (rest := []) (q := 12) X mi_X11_isIn sm_X11_isIn rfl (cX11_isIn_ct z ad (v1 - v1 / (16 : Int32) * (16 : Int32)) (m.1 q5 (v1 / (16 : Int32)).toNatClampNeg) m r11 hq10) rfl rfl (Nat.le_of_ble_eq_true rfl) ⟨rfl, rfl, by decide, by decide, Nat.le_refl _, Nat.le_refl _⟩ dX9_isLand_21 ?_
    refine g_if_eq (pc := 24) (tgt := 31) X dX9_isLand_24 (by decide) (fun hc => ?_) (fun hc => ?_)
    · have hf := itp hc hf
      refine g_iconst (v := (0 : Int32)) (pc := 31) X dX9_isLand_31 (by decide) ?_
      obtain rfl := Option.some.inj hf
      exact hret _ _ (by decide) dX9_isLand_32
    · have hf := itn hc hf
      refine g_iconst (v := (1 : Int32)) (pc := 27) X dX9_isLand_27 (by decide) ?_
      refine g_goto (pc := 28) (tgt := 32) X dX9_isLand_28 (by decide) ?_
      obtain rfl := Option.some.inj hf
      exact hret _ _ (by decide) dX9_isLand_32

noncomputable def fX11_put (v0 : Nat) (v1 : Int32) (v2 : Int32) (v3 : Int32) (m : Mem) : Option (Int64 × Mem) := gp (KC v0 = 11) (bnd (m.2.2 v0 6) (fun q2 => gp (KC q2 = 10) (if (m.1 q2 4) = 0 then (some ((-9000000000000000002 : Int64), m)) else (bnd (m.2.2 q2 0) (fun q5 => gp (KC q5 = 9) (bnd (fX9_isInside q5 v1 v2 m) (fun r8 => if r8 = 0 then (some ((-9000000000000000001 : Int64), m)) else (bnd (m.2.2 q2 1) (fun q10 => gp (KC q10 = 4) (bnd (fX11_isWithin v3 (0 : Int32) ((m.1 q10 2) - (1 : Int32))) (fun r14 => if r14 = 0 then (some ((-9000000000000000001 : Int64), m)) else (lt1 (v1 + ((16 : Int32) * v2)) (fun v4_15 => bnd (fX9_isLand q5 v4_15 m) (fun r18 => if r18 = 0 then (bnd (fX4_launch q10 v4_15 v3 m) (fun m20 => some ((1 : Int64), m20))) else (some ((-9000000000000000001 : Int64), m))))))))))))))))
set_option maxHeartbeats 4000000 in
set_option maxRecDepth 100000 in
theorem cX11_put_ct (z : Zx) (ad : Nat → Nat) (v0 : Nat) (v1 : Int32) (v2 : Int32) (v3 : Int32) (m m2 : Mem) (r : Int64) (hf : fX11_put v0 v1 v2 v3 m = some (r, m2)) : CtL z wC yX11_put cX11_put 5 (some .long) (Rm 6) ad 91 [.ref (ad v0), .int v1, .int v2, .int v3] m m2 r := by
  refine ct_ofL mi_X11_put rfl (Nat.le_of_ble_eq_true rfl) (fun x X hret => ?_)
  refine g_lv [(0, .ref (ad v0)), (1, .int v1), (2, .int v2), (3, .int v3)] [0, 1, 2, 3] rfl ?_
  unfold fX11_put at hf
  refine g_aload_n (pc := 0) X dX11_put_0 rfl 0 rfl ?_
  obtain ⟨hk1, hf⟩ := gp_some hf
  obtain ⟨q2, hr3, hf⟩ := bnd_some hf
  refine g_getR (pc := 1) X fl_X11_52 (KClt hk1 (by decide)) hk1 hr3 dX11_put_1 ?_
  obtain ⟨hk4, hf⟩ := gp_some hf
  refine g_getI (pc := 4) X fl_X11_144 (KClt hk4 (by decide)) hk4 dX11_put_4 ?_
  refine g_if_ne (pc := 7) (tgt := 14) X dX11_put_7 (by decide) (fun hc => ?_) (fun hc => ?_)
  · have hf := itn hc hf
    refine g_aload_n (pc := 14) X dX11_put_14 rfl 0 rfl ?_
    refine g_getR (pc := 15) X fl_X11_52 (KClt hk1 (by decide)) hk1 hr3 dX11_put_15 ?_
    obtain ⟨q5, hr6, hf⟩ := bnd_some hf
    refine g_getR (pc := 18) X fl_X11_150 (KClt hk4 (by decide)) hk4 hr6 dX11_put_18 ?_
    refine g_iload_n (pc := 21) X dX11_put_21 rfl 1 rfl ?_
    refine g_iload_n (pc := 22) X dX11_put_22 rfl 2 rfl ?_
    obtain ⟨hk9, hf⟩ := gp_some hf
    obtain ⟨r8, hq7, hf⟩ := bnd_some hf
    refine g_callVI (pc := 23) (As := [.int v1, .int v2]) (rest := []) X mi_X9_isInside im_X9_isInside se_X9_isInside (KClt hk9 (by decide)) hk9 clX9 ml_X11_154 (cX9_isInside_ct z ad q5 v1 v2 m r8 hq7) rfl rfl (Nat.le_of_ble_eq_true rfl) ⟨rfl, rfl, by decide, by decide, Nat.le_refl _, Nat.le_refl _⟩ dX11_put_23 ?_
    refine g_if_eq (pc := 26) (tgt := 49) X dX11_put_26 (by decide) (fun hc => ?_) (fun hc => ?_)
    · have hf := itp hc hf
      refine g_ldc2 (pc := 49) X dX11_put_49 kl_X11_64 ?_
      obtain ⟨rfl, rfl⟩ := som2 hf
      exact hret _ _ dX11_put_52
    · have hf := itn hc hf
      refine g_iload_n (pc := 29) X dX11_put_29 rfl 3 rfl ?_
      refine g_iconst (v := (0 : Int32)) (pc := 30) X dX11_put_30 (by decide) ?_
      refine g_aload_n (pc := 31) X dX11_put_31 rfl 0 rfl ?_
      refine g_getR (pc := 32) X fl_X11_52 (KClt hk1 (by decide)) hk1 hr3 dX11_put_32 ?_
      obtain ⟨q10, hr11, hf⟩ := bnd_some hf
      refine g_getR (pc := 35) X fl_X11_159 (KClt hk4 (by decide)) hk4 hr11 dX11_put_35 ?_
      obtain ⟨hk12, hf⟩ := gp_some hf
      refine g_getI (pc := 38) X fl_X11_163 (KClt hk12 (by decide)) hk12 dX11_put_38 ?_
      refine g_iconst (v := (1 : Int32)) (pc := 41) X dX11_put_41 (by decide) ?_
      refine g_isub (pc := 42) X dX11_put_42 ?_
      obtain ⟨r14, hq13, hf⟩ := bnd_some hf
      refine g_callSI (pc := 43) (As := [.int v3, .int (0 : Int32), .int ((m.1 q10 2) - (1 : Int32))]) (rest := []) X mi_X11_isWithin sm_X11_isWithin ml_X11_60 (cX11_isWithin_ct z ad v3 (0 : Int32) ((m.1 q10 2) - (1 : Int32)) m r14 hq13) rfl rfl (Nat.le_of_ble_eq_true rfl) ⟨rfl, rfl, by decide, by decide, Nat.le_refl _, Nat.le_refl _⟩ dX11_put_43 ?_
      refine g_if_ne (pc := 46) (tgt := 53) X dX11_put_46 (by decide) (fun hc => ?_) (fun hc => ?_)
      · have hf := itn hc hf
        refine g_iload_n (pc := 53) X dX11_put_53 rfl 1 rfl ?_
        refine g_bipush (v := (16 : Int32)) (pc := 54) X dX11_put_54 (by decide) ?_
        refine g_iload_n (pc := 56) X dX11_put_56 rfl 2 rfl ?_
        refine g_imul (pc := 57) X dX11_put_57 ?_
        refine g_iadd (pc := 58) X dX11_put_58 ?_
        obtain ⟨v4_15, e16, hf⟩ := lt1_some hf
        refine g_topi e16 ?_
        refine g_istore (lv2 := [(0, .ref (ad v0)), (1, .int v1), (2, .int v2), (3, .int v3), (4, .int v4_15)]) (pc := 59) X dX11_put_59 (by decide) [1, 2, 3, 4, 0] rfl ?_
        refine g_aload_n (pc := 61) X dX11_put_61 rfl 0 rfl ?_
        refine g_getR (pc := 62) X fl_X11_52 (KClt hk1 (by decide)) hk1 hr3 dX11_put_62 ?_
        refine g_getR (pc := 65) X fl_X11_150 (KClt hk4 (by decide)) hk4 hr6 dX11_put_65 ?_
        refine g_iload (pc := 68) X dX11_put_68 4 rfl ?_
        obtain ⟨r18, hq17, hf⟩ := bnd_some hf
        refine g_callVI (pc := 70) (As := [.int v4_15]) (rest := []) X mi_X9_isLand im_X9_isLand se_X9_isLand (KClt hk9 (by decide)) hk9 clX9 ml_X11_168 (cX9_isLand_ct z ad q5 v4_15 m r18 hq17) rfl rfl (Nat.le_of_ble_eq_true rfl) ⟨rfl, rfl, by decide, by decide, Nat.le_refl _, Nat.le_refl _⟩ dX11_put_70 ?_
        refine g_if_eq (pc := 73) (tgt := 80) X dX11_put_73 (by decide) (fun hc => ?_) (fun hc => ?_)
        · have hf := itp hc hf
          refine g_aload_n (pc := 80) X dX11_put_80 rfl 0 rfl ?_
          refine g_getR (pc := 81) X fl_X11_52 (KClt hk1 (by decide)) hk1 hr3 dX11_put_81 ?_
          refine g_getR (pc := 84) X fl_X11_159 (KClt hk4 (by decide)) hk4 hr11 dX11_put_84 ?_
          refine g_iload (pc := 87) X dX11_put_87 4 rfl ?_
          refine g_iload_n (pc := 89) X dX11_put_89 rfl 3 rfl ?_
          obtain ⟨m20, hq19, hf⟩ := bnd_some hf
          refine g_callVV (pc := 90) (As := [.int v4_15, .int v3]) (rest := []) X mi_X4_launch im_X4_launch se_X4_launch (KClt hk12 (by decide)) hk12 clX4 ml_X11_172 (cX4_launch_ct z ad q10 v4_15 v3 m m20 hq19) rfl rfl (Nat.le_of_ble_eq_true rfl) ⟨rfl, rfl, by decide, by decide, Nat.le_refl _, Nat.le_refl _⟩ dX11_put_90 ?_
          refine g_lconst (v := (1 : Int64)) (pc := 93) X dX11_put_93 (by decide) ?_
          obtain ⟨rfl, rfl⟩ := som2 hf
          exact hret _ _ dX11_put_94
        · have hf := itn hc hf
          refine g_ldc2 (pc := 76) X dX11_put_76 kl_X11_64 ?_
          obtain ⟨rfl, rfl⟩ := som2 hf
          exact hret _ _ dX11_put_79
      · have hf := itp hc hf
        refine g_ldc2 (pc := 49) X dX11_put_49 kl_X11_64 ?_
        obtain ⟨rfl, rfl⟩ := som2 hf
        exact hret _ _ dX11_put_52
  · have hf := itp hc hf
    refine g_ldc2 (pc := 10) X dX11_put_10 kl_X11_148 ?_
    obtain ⟨rfl, rfl⟩ := som2 hf
    exact hret _ _ dX11_put_13

noncomputable def fX11_head (v0 : Nat) (v1 : Int32) (m : Mem) : Option (Int64 × Mem) := gp (KC v0 = 11) (bnd (m.2.2 v0 6) (fun q2 => gp (KC q2 = 10) (if (m.1 q2 4) = 0 then (some ((-9000000000000000002 : Int64), m)) else (bnd (fX11_isWithin v1 (0 : Int32) (7 : Int32)) (fun r6 => if r6 = 0 then (some ((-9000000000000000001 : Int64), m)) else (bnd (m.2.2 q2 1) (fun q7 => gp (KC q7 = 4) (lt1 (m.1 q7 0) (fun v2_10 => lt1 (uI m q7 0 v1) (fun m12 => some (v2_10.toInt64, m12)))))))))))
set_option maxHeartbeats 4000000 in
set_option maxRecDepth 100000 in
theorem cX11_head_ct (z : Zx) (ad : Nat → Nat) (v0 : Nat) (v1 : Int32) (m m2 : Mem) (r : Int64) (hf : fX11_head v0 v1 m = some (r, m2)) : CtL z wC yX11_head cX11_head 3 (some .long) (Rm 3) ad 91 [.ref (ad v0), .int v1] m m2 r := by
  refine ct_ofL mi_X11_head rfl (Nat.le_of_ble_eq_true rfl) (fun x X hret => ?_)
  refine g_lv [(0, .ref (ad v0)), (1, .int v1)] [0, 1] rfl ?_
  unfold fX11_head at hf
  refine g_aload_n (pc := 0) X dX11_head_0 rfl 0 rfl ?_
  obtain ⟨hk1, hf⟩ := gp_some hf
  obtain ⟨q2, hr3, hf⟩ := bnd_some hf
  refine g_getR (pc := 1) X fl_X11_52 (KClt hk1 (by decide)) hk1 hr3 dX11_head_1 ?_
  obtain ⟨hk4, hf⟩ := gp_some hf
  refine g_getI (pc := 4) X fl_X11_144 (KClt hk4 (by decide)) hk4 dX11_head_4 ?_
  refine g_if_ne (pc := 7) (tgt := 14) X dX11_head_7 (by decide) (fun hc => ?_) (fun hc => ?_)
  · have hf := itn hc hf
    refine g_iload_n (pc := 14) X dX11_head_14 rfl 1 rfl ?_
    refine g_iconst (v := (0 : Int32)) (pc := 15) X dX11_head_15 (by decide) ?_
    refine g_bipush (v := (7 : Int32)) (pc := 16) X dX11_head_16 (by decide) ?_
    obtain ⟨r6, hq5, hf⟩ := bnd_some hf
    refine g_callSI (pc := 18) (As := [.int v1, .int (0 : Int32), .int (7 : Int32)]) (rest := []) X mi_X11_isWithin sm_X11_isWithin ml_X11_60 (cX11_isWithin_ct z ad v1 (0 : Int32) (7 : Int32) m r6 hq5) rfl rfl (Nat.le_of_ble_eq_true rfl) ⟨rfl, rfl, by decide, by decide, Nat.le_refl _, Nat.le_refl _⟩ dX11_head_18 ?_
    refine g_if_ne (pc := 21) (tgt := 28) X dX11_head_21 (by decide) (fun hc => ?_) (fun hc => ?_)
    · have hf := itn hc hf
      refine g_aload_n (pc := 28) X dX11_head_28 rfl 0 rfl ?_
      refine g_getR (pc := 29) X fl_X11_52 (KClt hk1 (by decide)) hk1 hr3 dX11_head_29 ?_
      obtain ⟨q7, hr8, hf⟩ := bnd_some hf
      refine g_getR (pc := 32) X fl_X11_159 (KClt hk4 (by decide)) hk4 hr8 dX11_head_32 ?_
      obtain ⟨hk9, hf⟩ := gp_some hf
      refine g_getI (pc := 35) X fl_X11_175 (KClt hk9 (by decide)) hk9 dX11_head_35 ?_
      obtain ⟨v2_10, e11, hf⟩ := lt1_some hf
      refine g_topi e11 ?_
      refine g_istore_n (lv2 := [(0, .ref (ad v0)), (1, .int v1), (2, .int v2_10)]) (pc := 38) X dX11_head_38 rfl (by decide) [1, 2, 0] rfl ?_
      refine g_aload_n (pc := 39) X dX11_head_39 rfl 0 rfl ?_
      refine g_getR (pc := 40) X fl_X11_52 (KClt hk1 (by decide)) hk1 hr3 dX11_head_40 ?_
      refine g_getR (pc := 43) X fl_X11_159 (KClt hk4 (by decide)) hk4 hr8 dX11_head_43 ?_
      refine g_iload_n (pc := 46) X dX11_head_46 rfl 1 rfl ?_
      refine g_putI (pc := 47) X fl_X11_175 (KClt hk9 (by decide)) hk9 rfl rfl dX11_head_47 ?_
      obtain ⟨m12, e13, hf⟩ := lt1_some hf
      refine g_mem e13 ?_
      refine g_iload_n (pc := 50) X dX11_head_50 rfl 2 rfl ?_
      refine g_i2l (pc := 51) X dX11_head_51 ?_
      obtain ⟨rfl, rfl⟩ := som2 hf
      exact hret _ _ dX11_head_52
    · have hf := itp hc hf
      refine g_ldc2 (pc := 24) X dX11_head_24 kl_X11_64 ?_
      obtain ⟨rfl, rfl⟩ := som2 hf
      exact hret _ _ dX11_head_27
  · have hf := itp hc hf
    refine g_ldc2 (pc := 10) X dX11_head_10 kl_X11_148 ?_
    obtain ⟨rfl, rfl⟩ := som2 hf
    exact hret _ _ dX11_head_13

noncomputable def fX9_drawWind_23b (v0 : Nat) (v3 : Int64) (v5 : Int32) (v6 : Int32) (m : Mem) : Option ((Int32 × Int32) ⊕ ((Int32) ⊕ Unit)) := gp (KC v0 = 9) (if (m.1 v0 5) ≤ v6 then (some (.inr (.inr ()))) else (bnd (m.2.2 v0 2) (fun q2 => gp (KC q2 = 14) (gp (inb v6 (NC q2) = true) (lt1 (v5 + (m.1 q2 v6.toNatClampNeg)) (fun v5_6 => if v5_6.toInt64 ≤ v3 then (lt1 (v6 + 1) (fun v6_8 => some (.inl (v5_6, v6_8)))) else (some (.inr (.inl (v6))))))))))
noncomputable def fX9_drawWind_23 (v0 : Nat) (v3 : Int64) (v5 : Int32) (v6 : Int32) (m : Mem) : Option Int32 := bnd (iter (fun s => fX9_drawWind_23b v0 v3 s.1 s.2 m) FU (v5, v6)) (Sum.elim (fun e => some e) (fun e => some (0 : Int32)))
noncomputable def fX9_drawWind (v0 : Nat) (v1 : Int64) (m : Mem) : Option Int32 := gp (KC v0 = 9) (if 0 < (m.1 v0 6) then (gp (¬ ((m.1 v0 6).toInt64) = 0) (lt1 (v1 - v1 / ((m.1 v0 6).toInt64) * ((m.1 v0 6).toInt64)) (fun v3_12 => lt1 ((0 : Int32)) (fun v5_14 => lt1 ((0 : Int32)) (fun v6_16 => fX9_drawWind_23 v0 v3_12 v5_14 v6_16 m))))) else (some (0 : Int32)))
set_option maxHeartbeats 4000000 in
set_option maxRecDepth 100000 in
theorem cX9_drawWind_ct (z : Zx) (ad : Nat → Nat) (v0 : Nat) (v1 : Int64) (m : Mem) (r : Int32) (hf : fX9_drawWind v0 v1 m = some r) : CtI z wC yX9_drawWind cX9_drawWind 7 (some .int) (Rm 2) ad 91 [.ref (ad v0), .long v1] m m r := by
  refine ct_ofI mi_X9_drawWind rfl (Nat.le_of_ble_eq_true rfl) (fun x X hret => ?_)
  refine g_lv [(0, .ref (ad v0)), (1, .long v1)] [0, 1] rfl ?_
  have hL23 : ∀ (v0 : Nat) (v3 : Int64) (v5 : Int32) (v6 : Int32), fX9_drawWind_23 v0 v3 v5 v6 m = some r → G z wC x 7 0 0 ad 91 m 23 [(0, .ref (ad v0)), (3, .long v3), (5, .int v5), (6, .int v6)] [] := by
    intro v0 v3 v5 v6 hf
    unfold fX9_drawWind_23 at hf
    obtain ⟨e23, hit23, hrest23⟩ := bnd_some hf
    refine iter_ok (Hd := fun (s : (Int32 × Int32)) => G z wC x 7 0 0 ad 91 m 23 [(0, .ref (ad v0)), (3, .long v3), (5, .int s.1), (6, .int s.2)] []) ?_ FU (v5, v6) hit23
    intro s ob23 hf hs23 he23
    obtain ⟨v5, v6⟩ := s
    have hf : fX9_drawWind_23b v0 v3 v5 v6 m = some ob23 := hf
    unfold fX9_drawWind_23b at hf
    refine g_iload (pc := 23) X dX9_drawWind_23 3 rfl ?_
    refine g_aload_n (pc := 25) X dX9_drawWind_25 rfl 0 rfl ?_
    obtain ⟨hk1, hf⟩ := gp_some hf
    refine g_getI (pc := 26) X fl_X9_28 (KClt hk1 (by decide)) hk1 dX9_drawWind_26 ?_
    refine g_icmp_ge (pc := 29) (tgt := 61) X dX9_drawWind_29 (by decide) (fun hc => ?_) (fun hc => ?_)
    · have hf := itp hc hf
      have he23 := he23 _ (Option.some.inj hf).symm
      subst he23
      have hf : some (0 : Int32) = some r := hrest23
      refine g_iconst (v := (0 : Int32)) (pc := 61) X dX9_drawWind_61 (by decide) ?_
      obtain rfl := Option.some.inj hf
      exact hret _ _ rfl dX9_drawWind_62
    · have hf := itn hc hf
      refine g_iload (pc := 32) X dX9_drawWind_32 2 rfl ?_
      refine g_aload_n (pc := 34) X dX9_drawWind_34 rfl 0 rfl ?_
      obtain ⟨q2, hr3, hf⟩ := bnd_some hf
      refine g_getR (pc := 35) X fl_X9_18 (KClt hk1 (by decide)) hk1 hr3 dX9_drawWind_35 ?_
      refine g_iload (pc := 38) X dX9_drawWind_38 3 rfl ?_
      obtain ⟨hk4, hf⟩ := gp_some hf
      obtain ⟨hi5, hf⟩ := gp_some hf
      refine g_iald (pc := 40) X (KClt hk4 (by decide)) hk4 hi5 dX9_drawWind_40 ?_
      refine g_iadd (pc := 41) X dX9_drawWind_41 ?_
      obtain ⟨v5_6, e7, hf⟩ := lt1_some hf
      refine g_topi e7 ?_
      refine g_istore (lv2 := [(0, .ref (ad v0)), (3, .long v3), (5, .int v5_6), (6, .int v6)]) (pc := 42) X dX9_drawWind_42 (by decide) [1, 2, 0, 3] rfl ?_
      refine g_iload (pc := 44) X dX9_drawWind_44 2 rfl ?_
      refine g_i2l (pc := 46) X dX9_drawWind_46 ?_
      refine g_lload_n (pc := 47) X dX9_drawWind_47 rfl 1 rfl ?_
      refine g_lcmp_le (pc := 48) (tgt := 55) X dX9_drawWind_48 dX9_drawWind_49 (by decide) (fun hc => ?_) (fun hc => ?_)
      · have hf := itp hc hf
        obtain ⟨v6_8, e9, hf⟩ := lt1_some hf
        refine g_iinc (v2 := v6_8) (lv2 := [(0, .ref (ad v0)), (3, .long v3), (5, .int v5_6), (6, .int v6_8)]) (pc := 55) X dX9_drawWind_55 3 rfl (by rw [e9]; rfl) (by decide) [1, 2, 3, 0] rfl ?_
        refine g_goto (pc := 58) (tgt := 23) X dX9_drawWind_58 (by decide) ?_
        exact hs23 (v5_6, v6_8) (Option.some.inj hf).symm
      · have hf := itn hc hf
        have he23 := he23 _ (Option.some.inj hf).symm
        subst he23
        have hf : some v6 = some r := hrest23
        refine g_iload (pc := 52) X dX9_drawWind_52 3 rfl ?_
        obtain rfl := Option.some.inj hf
        exact hret _ _ rfl dX9_drawWind_54
  unfold fX9_drawWind at hf
  refine g_aload_n (pc := 0) X dX9_drawWind_0 rfl 0 rfl ?_
  obtain ⟨hk10, hf⟩ := gp_some hf
  refine g_getI (pc := 1) X fl_X9_31 (KClt hk10 (by decide)) hk10 dX9_drawWind_1 ?_
  refine g_if_gt (pc := 4) (tgt := 9) X dX9_drawWind_4 (by decide) (fun hc => ?_) (fun hc => ?_)
  · have hf := itp hc hf
    refine g_lload_n (pc := 9) X dX9_drawWind_9 rfl 1 rfl ?_
    refine g_aload_n (pc := 10) X dX9_drawWind_10 rfl 0 rfl ?_
    refine g_getI (pc := 11) X fl_X9_31 (KClt hk10 (by decide)) hk10 dX9_drawWind_11 ?_
    refine g_i2l (pc := 14) X dX9_drawWind_14 ?_
    obtain ⟨hz11, hf⟩ := gp_some hf
    refine g_lrem (pc := 15) X dX9_drawWind_15 hz11 ?_
    obtain ⟨v3_12, e13, hf⟩ := lt1_some hf
    refine g_topl e13 ?_
    refine g_lstore_n (lv2 := [(0, .ref (ad v0)), (1, .long v1), (3, .long v3_12)]) (pc := 16) X dX9_drawWind_16 rfl (by decide) [1, 2, 0] rfl ?_
    refine g_iconst (v := (0 : Int32)) (pc := 17) X dX9_drawWind_17 (by decide) ?_
    obtain ⟨v5_14, e15, hf⟩ := lt1_some hf
    refine g_topi e15 ?_
    refine g_istore (lv2 := [(0, .ref (ad v0)), (1, .long v1), (3, .long v3_12), (5, .int v5_14)]) (pc := 18) X dX9_drawWind_18 (by decide) [1, 2, 3, 0] rfl ?_
    refine g_iconst (v := (0 : Int32)) (pc := 20) X dX9_drawWind_20 (by decide) ?_
    obtain ⟨v6_16, e17, hf⟩ := lt1_some hf
    refine g_topi e17 ?_
    refine g_istore (lv2 := [(0, .ref (ad v0)), (1, .long v1), (3, .long v3_12), (5, .int v5_14), (6, .int v6_16)]) (pc := 21) X dX9_drawWind_21 (by decide) [1, 2, 3, 4, 0] rfl ?_
    refine g_lv [(0, .ref (ad v0)), (3, .long v3_12), (5, .int v5_14), (6, .int v6_16)] [0, 2, 3, 4] rfl ?_
    exact hL23 _ _ _ _ hf
  · have hf := itn hc hf
    refine g_iconst (v := (0 : Int32)) (pc := 7) X dX9_drawWind_7 (by decide) ?_
    obtain rfl := Option.some.inj hf
    exact hret _ _ rfl dX9_drawWind_8

noncomputable def fX4_isSunk (v0 : Nat) (m : Mem) : Option Int32 := gp (KC v0 = 4) (if (m.1 v0 5) < (m.1 v0 2) then (some (0 : Int32)) else (some (1 : Int32)))
set_option maxHeartbeats 4000000 in
set_option maxRecDepth 100000 in
theorem cX4_isSunk_ct (z : Zx) (ad : Nat → Nat) (v0 : Nat) (m : Mem) (r : Int32) (hf : fX4_isSunk v0 m = some r) : CtI z wC yX4_isSunk cX4_isSunk 1 (some .boolean) (Rm 2) ad 91 [.ref (ad v0)] m m r := by
  refine ct_ofI mi_X4_isSunk rfl (Nat.le_of_ble_eq_true rfl) (fun x X hret => ?_)
  refine g_lv [(0, .ref (ad v0))] [0] rfl ?_
  unfold fX4_isSunk at hf
  refine g_aload_n (pc := 0) X dX4_isSunk_0 rfl 0 rfl ?_
  obtain ⟨hk1, hf⟩ := gp_some hf
  refine g_getI (pc := 1) X fl_X4_35 (KClt hk1 (by decide)) hk1 dX4_isSunk_1 ?_
  refine g_aload_n (pc := 4) X dX4_isSunk_4 rfl 0 rfl ?_
  refine g_getI (pc := 5) X fl_X4_25 (KClt hk1 (by decide)) hk1 dX4_isSunk_5 ?_
  refine g_icmp_lt (pc := 8) (tgt := 15) X dX4_isSunk_8 (by decide) (fun hc => ?_) (fun hc => ?_)
  · have hf := itp hc hf
    refine g_iconst (v := (0 : Int32)) (pc := 15) X dX4_isSunk_15 (by decide) ?_
    obtain rfl := Option.some.inj hf
    exact hret _ _ (by decide) dX4_isSunk_16
  · have hf := itn hc hf
    refine g_iconst (v := (1 : Int32)) (pc := 11) X dX4_isSunk_11 (by decide) ?_
    refine g_goto (pc := 12) (tgt := 16) X dX4_isSunk_12 (by decide) ?_
    obtain rfl := Option.some.inj hf
    exact hret _ _ (by decide) dX4_isSunk_16

noncomputable def fX9_cellBehind (v0 : Nat) (v1 : Int32) (v2 : Int32) (v3 : Int32) (m : Mem) : Option Int32 := bnd (fX11_isWithin v2 (0 : Int32) (3 : Int32)) (fun r2 => if r2 = 0 then (some v1) else (gp (KC v0 = 9) (bnd (m.2.2 v0 1) (fun q4 => gp (KC q4 = 14) (gp (inb v2 (NC q4) = true) (lt1 (((m.1 q4 v2.toNatClampNeg) + v3) &&& (7 : Int32)) (fun v4_8 => gp (¬ (16 : Int32) = 0) (gp (inb v4_8 8 = true) (lt1 ((v1 - v1 / (16 : Int32) * (16 : Int32)) + (eastF.getD v4_8.toNatClampNeg 0)) (fun v5_12 => gp (¬ (16 : Int32) = 0) (gp (inb v4_8 8 = true) (lt1 ((v1 / (16 : Int32)) + (southF.getD v4_8.toNatClampNeg 0)) (fun v6_16 => bnd (fX9_isInside v0 v5_12 v6_16 m) (fun r19 => if r19 = 0 then (some v1) else (some (v5_12 + ((16 : Int32) * v6_16)))))))))))))))))
set_option maxHeartbeats 4000000 in
set_option maxRecDepth 100000 in
theorem cX9_cellBehind_ct (z : Zx) (ad : Nat → Nat) (v0 : Nat) (v1 : Int32) (v2 : Int32) (v3 : Int32) (m : Mem) (r : Int32) (hf : fX9_cellBehind v0 v1 v2 v3 m = some r) : CtI z wC yX9_cellBehind cX9_cellBehind 7 (some .int) (Rm 4) ad 91 [.ref (ad v0), .int v1, .int v2, .int v3] m m r := by
  refine ct_ofI mi_X9_cellBehind rfl (Nat.le_of_ble_eq_true rfl) (fun x X hret => ?_)
  refine g_lv [(0, .ref (ad v0)), (1, .int v1), (2, .int v2), (3, .int v3)] [0, 1, 2, 3] rfl ?_
  unfold fX9_cellBehind at hf
  refine g_iload_n (pc := 0) X dX9_cellBehind_0 rfl 2 rfl ?_
  refine g_iconst (v := (0 : Int32)) (pc := 1) X dX9_cellBehind_1 (by decide) ?_
  refine g_iconst (v := (3 : Int32)) (pc := 2) X dX9_cellBehind_2 (by decide) ?_
  obtain ⟨r2, hq1, hf⟩ := bnd_some hf
  refine g_callSNI (pc := 3) (As := [.int v2, .int (0 : Int32), .int (3 : Int32)]) (rest := []) (q := 10) X mi_X11_isWithin sm_X11_isWithin rfl (cX11_isWithin_ct z ad v2 (0 : Int32) (3 : Int32) m r2 hq1) rfl rfl (Nat.le_of_ble_eq_true rfl) ⟨rfl, rfl, by decide, by decide, Nat.le_refl _, Nat.le_refl _⟩ dX9_cellBehind_3 ?_
  refine g_if_ne (pc := 6) (tgt := 11) X dX9_cellBehind_6 (by decide) (fun hc => ?_) (fun hc => ?_)
  · have hf := itn hc hf
    refine g_aload_n (pc := 11) X dX9_cellBehind_11 rfl 0 rfl ?_
    obtain ⟨hk3, hf⟩ := gp_some hf
    obtain ⟨q4, hr5, hf⟩ := bnd_some hf
    refine g_getR (pc := 12) X fl_X9_15 (KClt hk3 (by decide)) hk3 hr5 dX9_cellBehind_12 ?_
    refine g_iload_n (pc := 15) X dX9_cellBehind_15 rfl 2 rfl ?_
    obtain ⟨hk6, hf⟩ := gp_some hf
    obtain ⟨hi7, hf⟩ := gp_some hf
    refine g_iald (pc := 16) X (KClt hk6 (by decide)) hk6 hi7 dX9_cellBehind_16 ?_
    refine g_iload_n (pc := 17) X dX9_cellBehind_17 rfl 3 rfl ?_
    refine g_iadd (pc := 18) X dX9_cellBehind_18 ?_
    refine g_bipush (v := (7 : Int32)) (pc := 19) X dX9_cellBehind_19 (by decide) ?_
    refine g_iand (pc := 21) X dX9_cellBehind_21 ?_
    obtain ⟨v4_8, e9, hf⟩ := lt1_some hf
    refine g_topi e9 ?_
    refine g_istore (lv2 := [(0, .ref (ad v0)), (1, .int v1), (2, .int v2), (3, .int v3), (4, .int v4_8)]) (pc := 22) X dX9_cellBehind_22 (by decide) [1, 2, 3, 4, 0] rfl ?_
    refine g_iload_n (pc := 24) X dX9_cellBehind_24 rfl 1 rfl ?_
    refine g_bipush (v := (16 : Int32)) (pc := 25) X dX9_cellBehind_25 (by decide) ?_
    obtain ⟨hz10, hf⟩ := gp_some hf
    refine g_irem (pc := 27) X dX9_cellBehind_27 hz10 ?_
    obtain ⟨hi11, hf⟩ := gp_some hf
    refine g_EAST (pc := 28) X fs_X9_64 hi11 dX9_cellBehind_28 4 rfl dX9_cellBehind_31 dX9_cellBehind_33 ?_
    refine g_iadd (pc := 34) X dX9_cellBehind_34 ?_
    obtain ⟨v5_12, e13, hf⟩ := lt1_some hf
    refine g_topi e13 ?_
    refine g_istore (lv2 := [(0, .ref (ad v0)), (1, .int v1), (2, .int v2), (3, .int v3), (4, .int v4_8), (5, .int v5_12)]) (pc := 35) X dX9_cellBehind_35 (by decide) [1, 2, 3, 4, 5, 0] rfl ?_
    refine g_iload_n (pc := 37) X dX9_cellBehind_37 rfl 1 rfl ?_
    refine g_bipush (v := (16 : Int32)) (pc := 38) X dX9_cellBehind_38 (by decide) ?_
    obtain ⟨hz14, hf⟩ := gp_some hf
    refine g_idiv (pc := 40) X dX9_cellBehind_40 hz14 ?_
    obtain ⟨hi15, hf⟩ := gp_some hf
    refine g_SOUTH (pc := 41) X fs_X9_67 hi15 dX9_cellBehind_41 4 rfl dX9_cellBehind_44 dX9_cellBehind_46 ?_
    refine g_iadd (pc := 47) X dX9_cellBehind_47 ?_
    obtain ⟨v6_16, e17, hf⟩ := lt1_some hf
    refine g_topi e17 ?_
    refine g_istore (lv2 := [(0, .ref (ad v0)), (1, .int v1), (2, .int v2), (3, .int v3), (4, .int v4_8), (5, .int v5_12), (6, .int v6_16)]) (pc := 48) X dX9_cellBehind_48 (by decide) [1, 2, 3, 4, 5, 6, 0] rfl ?_
    refine g_aload_n (pc := 50) X dX9_cellBehind_50 rfl 0 rfl ?_
    refine g_iload (pc := 51) X dX9_cellBehind_51 5 rfl ?_
    refine g_iload (pc := 53) X dX9_cellBehind_53 6 rfl ?_
    obtain ⟨r19, hq18, hf⟩ := bnd_some hf
    refine g_callVI (pc := 55) (As := [.int v5_12, .int v6_16]) (rest := []) X mi_X9_isInside im_X9_isInside se_X9_isInside (KClt hk3 (by decide)) hk3 clX9 ml_X9_40 (cX9_isInside_ct z ad v0 v5_12 v6_16 m r19 hq18) rfl rfl (Nat.le_of_ble_eq_true rfl) ⟨rfl, rfl, by decide, by decide, Nat.le_refl _, Nat.le_refl _⟩ dX9_cellBehind_55 ?_
    refine g_if_eq (pc := 58) (tgt := 72) X dX9_cellBehind_58 (by decide) (fun hc => ?_) (fun hc => ?_)
    · have hf := itp hc hf
      refine g_iload_n (pc := 72) X dX9_cellBehind_72 rfl 1 rfl ?_
      obtain rfl := Option.some.inj hf
      exact hret _ _ rfl dX9_cellBehind_73
    · have hf := itn hc hf
      refine g_iload (pc := 61) X dX9_cellBehind_61 5 rfl ?_
      refine g_bipush (v := (16 : Int32)) (pc := 63) X dX9_cellBehind_63 (by decide) ?_
      refine g_iload (pc := 65) X dX9_cellBehind_65 6 rfl ?_
      refine g_imul (pc := 67) X dX9_cellBehind_67 ?_
      refine g_iadd (pc := 68) X dX9_cellBehind_68 ?_
      refine g_goto (pc := 69) (tgt := 73) X dX9_cellBehind_69 (by decide) ?_
      obtain rfl := Option.some.inj hf
      exact hret _ _ rfl dX9_cellBehind_73
  · have hf := itp hc hf
    refine g_iload_n (pc := 9) X dX9_cellBehind_9 rfl 1 rfl ?_
    obtain rfl := Option.some.inj hf
    exact hret _ _ rfl dX9_cellBehind_10

noncomputable def fX4_held (v0 : Nat) (v1 : Int32) (m : Mem) : Option Int32 := gp (KC v0 = 4) (some (if (0 : Int32) < (if v1 < (m.1 v0 2) then v1 else (m.1 v0 2)) then (if v1 < (m.1 v0 2) then v1 else (m.1 v0 2)) else (0 : Int32)))
set_option maxHeartbeats 4000000 in
set_option maxRecDepth 100000 in
theorem cX4_held_ct (z : Zx) (ad : Nat → Nat) (v0 : Nat) (v1 : Int32) (m : Mem) (r : Int32) (hf : fX4_held v0 v1 m = some r) : CtI z wC yX4_held cX4_held 2 (some .int) (Rm 2) ad 91 [.ref (ad v0), .int v1] m m r := by
  refine ct_ofI mi_X4_held rfl (Nat.le_of_ble_eq_true rfl) (fun x X hret => ?_)
  refine g_lv [(0, .ref (ad v0)), (1, .int v1)] [0, 1] rfl ?_
  unfold fX4_held at hf
  refine g_iconst (v := (0 : Int32)) (pc := 0) X dX4_held_0 (by decide) ?_
  refine g_aload_n (pc := 1) X dX4_held_1 rfl 0 rfl ?_
  obtain ⟨hk1, hf⟩ := gp_some hf
  refine g_getI (pc := 2) X fl_X4_25 (KClt hk1 (by decide)) hk1 dX4_held_2 ?_
  refine g_iload_n (pc := 5) X dX4_held_5 rfl 1 rfl ?_
  refine g_mmin (pc := 6) X ml_X4_67 sm_min in_math co_min (by decide) (by decide) (Nat.le_refl _) (Nat.le_refl _) dX4_held_6 ?_
  refine g_mmax (pc := 9) X ml_X4_73 sm_max in_math co_max (by decide) (by decide) (Nat.le_refl _) (Nat.le_refl _) dX4_held_9 ?_
  obtain rfl := Option.some.inj hf
  exact hret _ _ rfl dX4_held_12

noncomputable def fX4_passHour_77 (s0 : Nat) (s1 : Nat) (s2 : Int32) (s3 : Int32) (m : Mem) : Option Mem := gp (KC s1 = 4) (bnd (fX4_held s1 (s2 - s3) m) (fun r2 => gp (KC s0 = 4) (lt1 (uI m s0 5 r2) (fun m5 => some m5))))
noncomputable def fX4_passHour_54 (v0 : Nat) (v3 : Int32) (m : Mem) : Option Mem := gp (KC v0 = 4) (if v3 = 0 then (fX4_passHour_77 v0 v0 ((m.1 v0 5) + (m.1 v0 1)) (0 : Int32) m) else (fX4_passHour_77 v0 v0 ((m.1 v0 5) + (m.1 v0 1)) (m.1 v0 8) m))
noncomputable def fX4_passHour (v0 : Nat) (v1 : Nat) (v2 : Int32) (v3 : Int32) (m : Mem) : Option Mem := gp (KC v0 = 4) (lt1 (uI m v0 6 ((m.1 v0 6) + (1 : Int32))) (fun m9 => bnd (fX4_isSunk v0 m9) (fun r12 => if r12 = 0 then (if (m9.1 v0 7) = 0 then (gp (KC v1 = 9) (bnd (fX9_cellBehind v1 (m9.1 v0 4) v2 (m9.1 v0 0) m9) (fun r14 => lt1 (uI m9 v0 4 r14) (fun m16 => bnd (fX9_isLand v1 (m16.1 v0 4) m16) (fun r19 => gp (zb r19 = true) (lt1 (uI m16 v0 7 r19) (fun m21 => fX4_passHour_54 v0 v3 m21))))))) else (fX4_passHour_54 v0 v3 m9)) else (some m9))))
set_option maxHeartbeats 4000000 in
set_option maxRecDepth 100000 in
theorem cX4_passHour_ct (z : Zx) (ad : Nat → Nat) (v0 : Nat) (v1 : Nat) (v2 : Int32) (v3 : Int32) (m m2 : Mem) (hf : fX4_passHour v0 v1 v2 v3 m = some m2) : CtV z wC yX4_passHour cX4_passHour 4 none (Rm 6) ad 91 [.ref (ad v0), .ref (ad v1), .int v2, .int v3] m m2 := by
  refine ct_ofV mi_X4_passHour rfl (Nat.le_of_ble_eq_true rfl) (fun x X hret => ?_)
  refine g_lv [(0, .ref (ad v0)), (1, .ref (ad v1)), (2, .int v2), (3, .int v3)] [0, 1, 2, 3] rfl ?_
  have hL77 : ∀ (s0 : Nat) (s1 : Nat) (s2 : Int32) (s3 : Int32) (m : Mem), fX4_passHour_77 s0 s1 s2 s3 m = some m2 → G z wC x 4 0 0 ad 91 m 77 [] [.int s3, .int s2, .ref (ad s1), .ref (ad s0)] := by
    intro s0 s1 s2 s3 m hf
    unfold fX4_passHour_77 at hf
    refine g_isub (pc := 77) X dX4_passHour_77 ?_
    obtain ⟨hk3, hf⟩ := gp_some hf
    obtain ⟨r2, hq1, hf⟩ := bnd_some hf
    refine g_callVI (pc := 78) (As := [.int (s2 - s3)]) (rest := [.ref (ad s0)]) X mi_X4_held im_X4_held se_X4_held (KClt hk3 (by decide)) hk3 clX4 ml_X4_62 (cX4_held_ct z ad s1 (s2 - s3) m r2 hq1) rfl rfl (Nat.le_of_ble_eq_true rfl) ⟨rfl, rfl, by decide, by decide, Nat.le_refl _, Nat.le_refl _⟩ dX4_passHour_78 ?_
    obtain ⟨hk4, hf⟩ := gp_some hf
    refine g_putI (pc := 81) X fl_X4_35 (KClt hk4 (by decide)) hk4 rfl rfl dX4_passHour_81 ?_
    obtain ⟨m5, e6, hf⟩ := lt1_some hf
    refine g_mem e6 ?_
    obtain rfl := Option.some.inj hf
    exact hret _ _ dX4_passHour_84
  have hL54 : ∀ (v0 : Nat) (v3 : Int32) (m : Mem), fX4_passHour_54 v0 v3 m = some m2 → G z wC x 4 0 0 ad 91 m 54 [(0, .ref (ad v0)), (3, .int v3)] [] := by
    intro v0 v3 m hf
    unfold fX4_passHour_54 at hf
    refine g_aload_n (pc := 54) X dX4_passHour_54 rfl 0 rfl ?_
    refine g_aload_n (pc := 55) X dX4_passHour_55 rfl 0 rfl ?_
    refine g_aload_n (pc := 56) X dX4_passHour_56 rfl 0 rfl ?_
    obtain ⟨hk7, hf⟩ := gp_some hf
    refine g_getI (pc := 57) X fl_X4_35 (KClt hk7 (by decide)) hk7 dX4_passHour_57 ?_
    refine g_aload_n (pc := 60) X dX4_passHour_60 rfl 0 rfl ?_
    refine g_getI (pc := 61) X fl_X4_19 (KClt hk7 (by decide)) hk7 dX4_passHour_61 ?_
    refine g_iadd (pc := 64) X dX4_passHour_64 ?_
    refine g_iload_n (pc := 65) X dX4_passHour_65 rfl 1 rfl ?_
    refine g_if_eq (pc := 66) (tgt := 76) X dX4_passHour_66 (by decide) (fun hc => ?_) (fun hc => ?_)
    · have hf := itp hc hf
      refine g_iconst (v := (0 : Int32)) (pc := 76) X dX4_passHour_76 (by decide) ?_
      refine g_lv [] [] rfl ?_
      exact hL77 _ _ _ _ _ hf
    · have hf := itn hc hf
      refine g_aload_n (pc := 69) X dX4_passHour_69 rfl 0 rfl ?_
      refine g_getI (pc := 70) X fl_X4_22 (KClt hk7 (by decide)) hk7 dX4_passHour_70 ?_
      refine g_goto (pc := 73) (tgt := 77) X dX4_passHour_73 (by decide) ?_
      refine g_lv [] [] rfl ?_
      exact hL77 _ _ _ _ _ hf
  unfold fX4_passHour at hf
  refine g_aload_n (pc := 0) X dX4_passHour_0 rfl 0 rfl ?_
  refine g_dup (pc := 1) X dX4_passHour_1 rfl ?_
  obtain ⟨hk8, hf⟩ := gp_some hf
  refine g_getI (pc := 2) X fl_X4_38 (KClt hk8 (by decide)) hk8 dX4_passHour_2 ?_
  refine g_iconst (v := (1 : Int32)) (pc := 5) X dX4_passHour_5 (by decide) ?_
  refine g_iadd (pc := 6) X dX4_passHour_6 ?_
  refine g_putI (pc := 7) X fl_X4_38 (KClt hk8 (by decide)) hk8 rfl rfl dX4_passHour_7 ?_
  obtain ⟨m9, e10, hf⟩ := lt1_some hf
  refine g_mem e10 ?_
  refine g_aload_n (pc := 10) X dX4_passHour_10 rfl 0 rfl ?_
  obtain ⟨r12, hq11, hf⟩ := bnd_some hf
  refine g_callVI (pc := 11) (As := []) (rest := []) X mi_X4_isSunk im_X4_isSunk se_X4_isSunk (KClt hk8 (by decide)) hk8 clX4 ml_X4_48 (cX4_isSunk_ct z ad v0 m9 r12 hq11) rfl rfl (Nat.le_of_ble_eq_true rfl) ⟨rfl, rfl, by decide, by decide, Nat.le_refl _, Nat.le_refl _⟩ dX4_passHour_11 ?_
  refine g_if_eq (pc := 14) (tgt := 18) X dX4_passHour_14 (by decide) (fun hc => ?_) (fun hc => ?_)
  · have hf := itp hc hf
    refine g_aload_n (pc := 18) X dX4_passHour_18 rfl 0 rfl ?_
    refine g_getI (pc := 19) X fl_X4_41 (KClt hk8 (by decide)) hk8 dX4_passHour_19 ?_
    refine g_if_ne (pc := 22) (tgt := 54) X dX4_passHour_22 (by decide) (fun hc => ?_) (fun hc => ?_)
    · have hf := itn hc hf
      refine g_lv [(0, .ref (ad v0)), (3, .int v3)] [0, 3] rfl ?_
      exact hL54 _ _ _ hf
    · have hf := itp hc hf
      refine g_aload_n (pc := 25) X dX4_passHour_25 rfl 0 rfl ?_
      refine g_aload_n (pc := 26) X dX4_passHour_26 rfl 1 rfl ?_
      refine g_aload_n (pc := 27) X dX4_passHour_27 rfl 0 rfl ?_
      refine g_getI (pc := 28) X fl_X4_32 (KClt hk8 (by decide)) hk8 dX4_passHour_28 ?_
      refine g_iload_n (pc := 31) X dX4_passHour_31 rfl 2 rfl ?_
      refine g_aload_n (pc := 32) X dX4_passHour_32 rfl 0 rfl ?_
      refine g_getI (pc := 33) X fl_X4_15 (KClt hk8 (by decide)) hk8 dX4_passHour_33 ?_
      obtain ⟨hk15, hf⟩ := gp_some hf
      obtain ⟨r14, hq13, hf⟩ := bnd_some hf
      refine g_callVI (pc := 36) (As := [.int (m9.1 v0 4), .int v2, .int (m9.1 v0 0)]) (rest := [.ref (ad v0)]) X mi_X9_cellBehind im_X9_cellBehind se_X9_cellBehind (KClt hk15 (by decide)) hk15 clX9 ml_X4_52 (cX9_cellBehind_ct z ad v1 (m9.1 v0 4) v2 (m9.1 v0 0) m9 r14 hq13) rfl rfl (Nat.le_of_ble_eq_true rfl) ⟨rfl, rfl, by decide, by decide, Nat.le_refl _, Nat.le_refl _⟩ dX4_passHour_36 ?_
      refine g_putI (pc := 39) X fl_X4_32 (KClt hk8 (by decide)) hk8 rfl rfl dX4_passHour_39 ?_
      obtain ⟨m16, e17, hf⟩ := lt1_some hf
      refine g_mem e17 ?_
      refine g_aload_n (pc := 42) X dX4_passHour_42 rfl 0 rfl ?_
      refine g_aload_n (pc := 43) X dX4_passHour_43 rfl 1 rfl ?_
      refine g_aload_n (pc := 44) X dX4_passHour_44 rfl 0 rfl ?_
      refine g_getI (pc := 45) X fl_X4_32 (KClt hk8 (by decide)) hk8 dX4_passHour_45 ?_
      obtain ⟨r19, hq18, hf⟩ := bnd_some hf
      refine g_callVI (pc := 48) (As := [.int (m16.1 v0 4)]) (rest := [.ref (ad v0)]) X mi_X9_isLand im_X9_isLand se_X9_isLand (KClt hk15 (by decide)) hk15 clX9 ml_X4_58 (cX9_isLand_ct z ad v1 (m16.1 v0 4) m16 r19 hq18) rfl rfl (Nat.le_of_ble_eq_true rfl) ⟨rfl, rfl, by decide, by decide, Nat.le_refl _, Nat.le_refl _⟩ dX4_passHour_48 ?_
      obtain ⟨hb20, hf⟩ := gp_some hf
      refine g_putI (pc := 51) X fl_X4_41 (KClt hk8 (by decide)) hk8 (zb_nar hb20) (zb_fit hb20) dX4_passHour_51 ?_
      obtain ⟨m21, e22, hf⟩ := lt1_some hf
      refine g_mem e22 ?_
      refine g_lv [(0, .ref (ad v0)), (3, .int v3)] [0, 3] rfl ?_
      exact hL54 _ _ _ hf
  · have hf := itn hc hf
    obtain rfl := Option.some.inj hf
    exact hret _ _ dX4_passHour_17

noncomputable def fX11_sailed_120 (v0 : Nat) (m : Mem) : Option (Int64 × Mem) := gp (KC v0 = 11) (bnd (m.2.2 v0 6) (fun q2 => gp (KC q2 = 10) (bnd (m.2.2 q2 1) (fun q5 => gp (KC q5 = 4) (some ((m.1 q5 6).toInt64, m))))))
noncomputable def fX11_sailed_111 (v0 : Nat) (v1 : Int32) (v2 : Int32) (v4 : Int64) (v6 : Int32) (s0 : Nat) (s1 : Nat) (s2 : Int32) (s3 : Int32) (m : Mem) : Option ((Int64 × Int32 × Mem) ⊕ (Mem)) := gp (KC s0 = 4) (bnd (fX4_passHour s0 s1 s2 s3 m) (fun m9 => lt1 (v6 + 1) (fun v6_11 => some (.inl (v4, v6_11, m9)))))
noncomputable def fX11_sailed_57b (v0 : Nat) (v1 : Int32) (v2 : Int32) (v4 : Int64) (v6 : Int32) (m : Mem) : Option ((Int64 × Int32 × Mem) ⊕ (Mem)) := if v1 ≤ v6 then (some (.inr (m))) else (gp (¬ (2147483647 : Int64) = 0) (lt1 ((v4 * (16807 : Int64)) - (v4 * (16807 : Int64)) / (2147483647 : Int64) * (2147483647 : Int64)) (fun v4_14 => gp (KC v0 = 11) (bnd (m.2.2 v0 6) (fun q17 => gp (KC q17 = 10) (bnd (m.2.2 q17 1) (fun q20 => bnd (m.2.2 q17 0) (fun q22 => gp (KC q22 = 9) (bnd (fX9_drawWind q22 v4_14 m) (fun r25 => if v2 = (1 : Int32) then (fX11_sailed_111 v0 v1 v2 v4_14 v6 q20 q22 r25 (1 : Int32) m) else (fX11_sailed_111 v0 v1 v2 v4_14 v6 q20 q22 r25 (0 : Int32) m)))))))))))
noncomputable def fX11_sailed_57 (v0 : Nat) (v1 : Int32) (v2 : Int32) (v4 : Int64) (v6 : Int32) (m : Mem) : Option (Int64 × Mem) := bnd (iter (fun s => fX11_sailed_57b v0 v1 v2 s.1 s.2.1 s.2.2) FU (v4, v6, m)) (fun e => fX11_sailed_120 v0 e)
noncomputable def fX11_sailed (v0 : Nat) (v1 : Int32) (v2 : Int32) (v3 : Int32) (m : Mem) : Option (Int64 × Mem) := gp (KC v0 = 11) (bnd (m.2.2 v0 6) (fun q28 => gp (KC q28 = 10) (bnd (m.2.2 q28 1) (fun q31 => gp (KC q31 = 4) (if (m.1 q31 3) = 0 then (some ((-9000000000000000002 : Int64), m)) else (bnd (fX11_isWithin v1 (1 : Int32) (100 : Int32)) (fun r35 => if r35 = 0 then (some ((-9000000000000000001 : Int64), m)) else (bnd (fX11_isWithin v2 (0 : Int32) (1 : Int32)) (fun r37 => if r37 = 0 then (some ((-9000000000000000001 : Int64), m)) else (bnd (fX11_isWithin v3 (1 : Int32) (999999 : Int32)) (fun r39 => if r39 = 0 then (some ((-9000000000000000001 : Int64), m)) else (lt1 (v3.toInt64) (fun v4_40 => lt1 ((0 : Int32)) (fun v6_42 => fX11_sailed_57 v0 v1 v2 v4_40 v6_42 m))))))))))))))
set_option maxHeartbeats 4000000 in
set_option maxRecDepth 100000 in
theorem cX11_sailed_ct (z : Zx) (ad : Nat → Nat) (v0 : Nat) (v1 : Int32) (v2 : Int32) (v3 : Int32) (m m2 : Mem) (r : Int64) (hf : fX11_sailed v0 v1 v2 v3 m = some (r, m2)) : CtL z wC yX11_sailed cX11_sailed 7 (some .long) (Rm 7) ad 91 [.ref (ad v0), .int v1, .int v2, .int v3] m m2 r := by
  refine ct_ofL mi_X11_sailed rfl (Nat.le_of_ble_eq_true rfl) (fun x X hret => ?_)
  refine g_lv [(0, .ref (ad v0)), (1, .int v1), (2, .int v2), (3, .int v3)] [0, 1, 2, 3] rfl ?_
  have hL120 : ∀ (v0 : Nat) (m : Mem), fX11_sailed_120 v0 m = some (r, m2) → G z wC x 7 0 0 ad 91 m 120 [(0, .ref (ad v0))] [] := by
    intro v0 m hf
    unfold fX11_sailed_120 at hf
    refine g_aload_n (pc := 120) X dX11_sailed_120 rfl 0 rfl ?_
    obtain ⟨hk1, hf⟩ := gp_some hf
    obtain ⟨q2, hr3, hf⟩ := bnd_some hf
    refine g_getR (pc := 121) X fl_X11_52 (KClt hk1 (by decide)) hk1 hr3 dX11_sailed_121 ?_
    obtain ⟨hk4, hf⟩ := gp_some hf
    obtain ⟨q5, hr6, hf⟩ := bnd_some hf
    refine g_getR (pc := 124) X fl_X11_159 (KClt hk4 (by decide)) hk4 hr6 dX11_sailed_124 ?_
    obtain ⟨hk7, hf⟩ := gp_some hf
    refine g_getI (pc := 127) X fl_X11_194 (KClt hk7 (by decide)) hk7 dX11_sailed_127 ?_
    refine g_i2l (pc := 130) X dX11_sailed_130 ?_
    obtain ⟨rfl, rfl⟩ := som2 hf
    exact hret _ _ dX11_sailed_131
  have hL57 : ∀ (v0 : Nat) (v1 : Int32) (v2 : Int32) (v4 : Int64) (v6 : Int32) (m : Mem), fX11_sailed_57 v0 v1 v2 v4 v6 m = some (r, m2) → G z wC x 7 0 0 ad 91 m 57 [(0, .ref (ad v0)), (1, .int v1), (2, .int v2), (4, .long v4), (6, .int v6)] [] := by
    intro v0 v1 v2 v4 v6 m hf
    unfold fX11_sailed_57 at hf
    obtain ⟨e57, hit57, hrest57⟩ := bnd_some hf
    refine iter_ok (Hd := fun (s : (Int64 × Int32 × Mem)) => G z wC x 7 0 0 ad 91 s.2.2 57 [(0, .ref (ad v0)), (1, .int v1), (2, .int v2), (4, .long s.1), (6, .int s.2.1)] []) ?_ FU (v4, v6, m) hit57
    intro s ob57 hf hs57 he57
    obtain ⟨v4, v6, m⟩ := s
    have hf : fX11_sailed_57b v0 v1 v2 v4 v6 m = some ob57 := hf
    have hL111 : ∀ (v4 : Int64) (v6 : Int32) (s0 : Nat) (s1 : Nat) (s2 : Int32) (s3 : Int32) (m : Mem), fX11_sailed_111 v0 v1 v2 v4 v6 s0 s1 s2 s3 m = some ob57 → G z wC x 7 0 0 ad 91 m 111 [(0, .ref (ad v0)), (1, .int v1), (2, .int v2), (4, .long v4), (6, .int v6)] [.int s3, .int s2, .ref (ad s1), .ref (ad s0)] := by
      intro v4 v6 s0 s1 s2 s3 m hf
      unfold fX11_sailed_111 at hf
      obtain ⟨hk10, hf⟩ := gp_some hf
      obtain ⟨m9, hq8, hf⟩ := bnd_some hf
      refine g_callVV (pc := 111) (As := [.ref (ad s1), .int s2, .int s3]) (rest := []) X mi_X4_passHour im_X4_passHour se_X4_passHour (KClt hk10 (by decide)) hk10 clX4 ml_X11_190 (cX4_passHour_ct z ad s0 s1 s2 s3 m m9 hq8) rfl rfl (Nat.le_of_ble_eq_true rfl) ⟨rfl, rfl, by decide, by decide, Nat.le_refl _, Nat.le_refl _⟩ dX11_sailed_111 ?_
      obtain ⟨v6_11, e12, hf⟩ := lt1_some hf
      refine g_iinc (v2 := v6_11) (lv2 := [(0, .ref (ad v0)), (1, .int v1), (2, .int v2), (4, .long v4), (6, .int v6_11)]) (pc := 114) X dX11_sailed_114 4 rfl (by rw [e12]; rfl) (by decide) [1, 2, 3, 4, 0] rfl ?_
      refine g_goto (pc := 117) (tgt := 57) X dX11_sailed_117 (by decide) ?_
      exact hs57 (v4, v6_11, m9) (Option.some.inj hf).symm
    unfold fX11_sailed_57b at hf
    refine g_iload (pc := 57) X dX11_sailed_57 4 rfl ?_
    refine g_iload_n (pc := 59) X dX11_sailed_59 rfl 1 rfl ?_
    refine g_icmp_ge (pc := 60) (tgt := 120) X dX11_sailed_60 (by decide) (fun hc => ?_) (fun hc => ?_)
    · have hf := itp hc hf
      have he57 := he57 _ (Option.some.inj hf).symm
      subst he57
      have hf : fX11_sailed_120 v0 m = some (r, m2) := hrest57
      refine g_lv [(0, .ref (ad v0))] [0] rfl ?_
      exact hL120 _ _ hf
    · have hf := itn hc hf
      refine g_lload (pc := 63) X dX11_sailed_63 3 rfl ?_
      refine g_ldc2 (pc := 65) X dX11_sailed_65 kl_X11_182 ?_
      refine g_lmul (pc := 68) X dX11_sailed_68 ?_
      refine g_ldc2 (pc := 69) X dX11_sailed_69 kl_X11_184 ?_
      obtain ⟨hz13, hf⟩ := gp_some hf
      refine g_lrem (pc := 72) X dX11_sailed_72 hz13 ?_
      obtain ⟨v4_14, e15, hf⟩ := lt1_some hf
      refine g_topl e15 ?_
      refine g_lstore (lv2 := [(0, .ref (ad v0)), (1, .int v1), (2, .int v2), (4, .long v4_14), (6, .int v6)]) (pc := 73) X dX11_sailed_73 (by decide) [1, 2, 3, 0, 4] rfl ?_
      refine g_aload_n (pc := 75) X dX11_sailed_75 rfl 0 rfl ?_
      obtain ⟨hk16, hf⟩ := gp_some hf
      obtain ⟨q17, hr18, hf⟩ := bnd_some hf
      refine g_getR (pc := 76) X fl_X11_52 (KClt hk16 (by decide)) hk16 hr18 dX11_sailed_76 ?_
      obtain ⟨hk19, hf⟩ := gp_some hf
      obtain ⟨q20, hr21, hf⟩ := bnd_some hf
      refine g_getR (pc := 79) X fl_X11_159 (KClt hk19 (by decide)) hk19 hr21 dX11_sailed_79 ?_
      refine g_aload_n (pc := 82) X dX11_sailed_82 rfl 0 rfl ?_
      refine g_getR (pc := 83) X fl_X11_52 (KClt hk16 (by decide)) hk16 hr18 dX11_sailed_83 ?_
      obtain ⟨q22, hr23, hf⟩ := bnd_some hf
      refine g_getR (pc := 86) X fl_X11_150 (KClt hk19 (by decide)) hk19 hr23 dX11_sailed_86 ?_
      refine g_aload_n (pc := 89) X dX11_sailed_89 rfl 0 rfl ?_
      refine g_getR (pc := 90) X fl_X11_52 (KClt hk16 (by decide)) hk16 hr18 dX11_sailed_90 ?_
      refine g_getR (pc := 93) X fl_X11_150 (KClt hk19 (by decide)) hk19 hr23 dX11_sailed_93 ?_
      refine g_lload (pc := 96) X dX11_sailed_96 3 rfl ?_
      obtain ⟨hk26, hf⟩ := gp_some hf
      obtain ⟨r25, hq24, hf⟩ := bnd_some hf
      refine g_callVI (pc := 98) (As := [.long v4_14]) (rest := [.ref (ad q22), .ref (ad q20)]) X mi_X9_drawWind im_X9_drawWind se_X9_drawWind (KClt hk26 (by decide)) hk26 clX9 ml_X11_186 (cX9_drawWind_ct z ad q22 v4_14 m r25 hq24) rfl rfl (Nat.le_of_ble_eq_true rfl) ⟨rfl, rfl, by decide, by decide, Nat.le_refl _, Nat.le_refl _⟩ dX11_sailed_98 ?_
      refine g_iload_n (pc := 101) X dX11_sailed_101 rfl 2 rfl ?_
      refine g_iconst (v := (1 : Int32)) (pc := 102) X dX11_sailed_102 (by decide) ?_
      refine g_icmp_ne (pc := 103) (tgt := 110) X dX11_sailed_103 (by decide) (fun hc => ?_) (fun hc => ?_)
      · have hf := itn hc hf
        refine g_iconst (v := (0 : Int32)) (pc := 110) X dX11_sailed_110 (by decide) ?_
        exact hL111 _ _ _ _ _ _ _ hf
      · have hf := itp hc hf
        refine g_iconst (v := (1 : Int32)) (pc := 106) X dX11_sailed_106 (by decide) ?_
        refine g_goto (pc := 107) (tgt := 111) X dX11_sailed_107 (by decide) ?_
        exact hL111 _ _ _ _ _ _ _ hf
  unfold fX11_sailed at hf
  refine g_aload_n (pc := 0) X dX11_sailed_0 rfl 0 rfl ?_
  obtain ⟨hk27, hf⟩ := gp_some hf
  obtain ⟨q28, hr29, hf⟩ := bnd_some hf
  refine g_getR (pc := 1) X fl_X11_52 (KClt hk27 (by decide)) hk27 hr29 dX11_sailed_1 ?_
  obtain ⟨hk30, hf⟩ := gp_some hf
  obtain ⟨q31, hr32, hf⟩ := bnd_some hf
  refine g_getR (pc := 4) X fl_X11_159 (KClt hk30 (by decide)) hk30 hr32 dX11_sailed_4 ?_
  obtain ⟨hk33, hf⟩ := gp_some hf
  refine g_getI (pc := 7) X fl_X11_178 (KClt hk33 (by decide)) hk33 dX11_sailed_7 ?_
  refine g_if_ne (pc := 10) (tgt := 17) X dX11_sailed_10 (by decide) (fun hc => ?_) (fun hc => ?_)
  · have hf := itn hc hf
    refine g_iload_n (pc := 17) X dX11_sailed_17 rfl 1 rfl ?_
    refine g_iconst (v := (1 : Int32)) (pc := 18) X dX11_sailed_18 (by decide) ?_
    refine g_bipush (v := (100 : Int32)) (pc := 19) X dX11_sailed_19 (by decide) ?_
    obtain ⟨r35, hq34, hf⟩ := bnd_some hf
    refine g_callSI (pc := 21) (As := [.int v1, .int (1 : Int32), .int (100 : Int32)]) (rest := []) X mi_X11_isWithin sm_X11_isWithin ml_X11_60 (cX11_isWithin_ct z ad v1 (1 : Int32) (100 : Int32) m r35 hq34) rfl rfl (Nat.le_of_ble_eq_true rfl) ⟨rfl, rfl, by decide, by decide, Nat.le_refl _, Nat.le_refl _⟩ dX11_sailed_21 ?_
    refine g_if_eq (pc := 24) (tgt := 46) X dX11_sailed_24 (by decide) (fun hc => ?_) (fun hc => ?_)
    · have hf := itp hc hf
      refine g_ldc2 (pc := 46) X dX11_sailed_46 kl_X11_64 ?_
      obtain ⟨rfl, rfl⟩ := som2 hf
      exact hret _ _ dX11_sailed_49
    · have hf := itn hc hf
      refine g_iload_n (pc := 27) X dX11_sailed_27 rfl 2 rfl ?_
      refine g_iconst (v := (0 : Int32)) (pc := 28) X dX11_sailed_28 (by decide) ?_
      refine g_iconst (v := (1 : Int32)) (pc := 29) X dX11_sailed_29 (by decide) ?_
      obtain ⟨r37, hq36, hf⟩ := bnd_some hf
      refine g_callSI (pc := 30) (As := [.int v2, .int (0 : Int32), .int (1 : Int32)]) (rest := []) X mi_X11_isWithin sm_X11_isWithin ml_X11_60 (cX11_isWithin_ct z ad v2 (0 : Int32) (1 : Int32) m r37 hq36) rfl rfl (Nat.le_of_ble_eq_true rfl) ⟨rfl, rfl, by decide, by decide, Nat.le_refl _, Nat.le_refl _⟩ dX11_sailed_30 ?_
      refine g_if_eq (pc := 33) (tgt := 46) X dX11_sailed_33 (by decide) (fun hc => ?_) (fun hc => ?_)
      · have hf := itp hc hf
        refine g_ldc2 (pc := 46) X dX11_sailed_46 kl_X11_64 ?_
        obtain ⟨rfl, rfl⟩ := som2 hf
        exact hret _ _ dX11_sailed_49
      · have hf := itn hc hf
        refine g_iload_n (pc := 36) X dX11_sailed_36 rfl 3 rfl ?_
        refine g_iconst (v := (1 : Int32)) (pc := 37) X dX11_sailed_37 (by decide) ?_
        refine g_ldc (pc := 38) X dX11_sailed_38 k_X11_181 ?_
        obtain ⟨r39, hq38, hf⟩ := bnd_some hf
        refine g_callSI (pc := 40) (As := [.int v3, .int (1 : Int32), .int (999999 : Int32)]) (rest := []) X mi_X11_isWithin sm_X11_isWithin ml_X11_60 (cX11_isWithin_ct z ad v3 (1 : Int32) (999999 : Int32) m r39 hq38) rfl rfl (Nat.le_of_ble_eq_true rfl) ⟨rfl, rfl, by decide, by decide, Nat.le_refl _, Nat.le_refl _⟩ dX11_sailed_40 ?_
        refine g_if_ne (pc := 43) (tgt := 50) X dX11_sailed_43 (by decide) (fun hc => ?_) (fun hc => ?_)
        · have hf := itn hc hf
          refine g_iload_n (pc := 50) X dX11_sailed_50 rfl 3 rfl ?_
          refine g_i2l (pc := 51) X dX11_sailed_51 ?_
          obtain ⟨v4_40, e41, hf⟩ := lt1_some hf
          refine g_topl e41 ?_
          refine g_lstore (lv2 := [(0, .ref (ad v0)), (1, .int v1), (2, .int v2), (3, .int v3), (4, .long v4_40)]) (pc := 52) X dX11_sailed_52 (by decide) [1, 2, 3, 4, 0] rfl ?_
          refine g_iconst (v := (0 : Int32)) (pc := 54) X dX11_sailed_54 (by decide) ?_
          obtain ⟨v6_42, e43, hf⟩ := lt1_some hf
          refine g_topi e43 ?_
          refine g_istore (lv2 := [(0, .ref (ad v0)), (1, .int v1), (2, .int v2), (3, .int v3), (4, .long v4_40), (6, .int v6_42)]) (pc := 55) X dX11_sailed_55 (by decide) [1, 2, 3, 4, 5, 0] rfl ?_
          refine g_lv [(0, .ref (ad v0)), (1, .int v1), (2, .int v2), (4, .long v4_40), (6, .int v6_42)] [0, 1, 2, 4, 5] rfl ?_
          exact hL57 _ _ _ _ _ _ hf
        · have hf := itp hc hf
          refine g_ldc2 (pc := 46) X dX11_sailed_46 kl_X11_64 ?_
          obtain ⟨rfl, rfl⟩ := som2 hf
          exact hret _ _ dX11_sailed_49
  · have hf := itp hc hf
    refine g_ldc2 (pc := 13) X dX11_sailed_13 kl_X11_148 ?_
    obtain ⟨rfl, rfl⟩ := som2 hf
    exact hret _ _ dX11_sailed_16

noncomputable def fX6_isAllWithin_3b (v0 : Nat) (v1 : Int32) (v2 : Int32) (v3 : Int32) (v4 : Int32) (m : Mem) : Option ((Int32) ⊕ (Unit ⊕ Unit)) := if (v1 + v2) ≤ v4 then (some (.inr (.inr ()))) else (gp (KC v0 = 6) (bnd (m.2.2 v0 0) (fun q2 => gp (KC q2 = 14) (gp (inb v4 (NC q2) = true) (bnd (fX11_isWithin (m.1 q2 v4.toNatClampNeg) (0 : Int32) v3) (fun r7 => if r7 = 0 then (some (.inr (.inl ()))) else (lt1 (v4 + 1) (fun v4_8 => some (.inl (v4_8))))))))))
noncomputable def fX6_isAllWithin_3 (v0 : Nat) (v1 : Int32) (v2 : Int32) (v3 : Int32) (v4 : Int32) (m : Mem) : Option Int32 := bnd (iter (fun s => fX6_isAllWithin_3b v0 v1 v2 v3 s m) FU (v4)) (Sum.elim (fun e => some (0 : Int32)) (fun e => some (1 : Int32)))
noncomputable def fX6_isAllWithin (v0 : Nat) (v1 : Int32) (v2 : Int32) (v3 : Int32) (m : Mem) : Option Int32 := fX6_isAllWithin_3 v0 v1 v2 v3 v1 m
set_option maxHeartbeats 4000000 in
set_option maxRecDepth 100000 in
theorem cX6_isAllWithin_ct (z : Zx) (ad : Nat → Nat) (v0 : Nat) (v1 : Int32) (v2 : Int32) (v3 : Int32) (m : Mem) (r : Int32) (hf : fX6_isAllWithin v0 v1 v2 v3 m = some r) : CtI z wC yX6_isAllWithin cX6_isAllWithin 5 (some .boolean) (Rm 3) ad 91 [.ref (ad v0), .int v1, .int v2, .int v3] m m r := by
  refine ct_ofI mi_X6_isAllWithin rfl (Nat.le_of_ble_eq_true rfl) (fun x X hret => ?_)
  refine g_lv [(0, .ref (ad v0)), (1, .int v1), (2, .int v2), (3, .int v3)] [0, 1, 2, 3] rfl ?_
  have hL3 : ∀ (v0 : Nat) (v1 : Int32) (v2 : Int32) (v3 : Int32) (v4 : Int32), fX6_isAllWithin_3 v0 v1 v2 v3 v4 m = some r → G z wC x 5 0 0 ad 91 m 3 [(0, .ref (ad v0)), (1, .int v1), (2, .int v2), (3, .int v3), (4, .int v4)] [] := by
    intro v0 v1 v2 v3 v4 hf
    unfold fX6_isAllWithin_3 at hf
    obtain ⟨e3, hit3, hrest3⟩ := bnd_some hf
    refine iter_ok (Hd := fun (s : (Int32)) => G z wC x 5 0 0 ad 91 m 3 [(0, .ref (ad v0)), (1, .int v1), (2, .int v2), (3, .int v3), (4, .int s)] []) ?_ FU (v4) hit3
    intro v4 ob3 hf hs3 he3
    have hf : fX6_isAllWithin_3b v0 v1 v2 v3 v4 m = some ob3 := hf
    unfold fX6_isAllWithin_3b at hf
    refine g_iload (pc := 3) X dX6_isAllWithin_3 4 rfl ?_
    refine g_iload_n (pc := 5) X dX6_isAllWithin_5 rfl 1 rfl ?_
    refine g_iload_n (pc := 6) X dX6_isAllWithin_6 rfl 2 rfl ?_
    refine g_iadd (pc := 7) X dX6_isAllWithin_7 ?_
    refine g_icmp_ge (pc := 8) (tgt := 34) X dX6_isAllWithin_8 (by decide) (fun hc => ?_) (fun hc => ?_)
    · have hf := itp hc hf
      have he3 := he3 _ (Option.some.inj hf).symm
      subst he3
      have hf : some (1 : Int32) = some r := hrest3
      refine g_iconst (v := (1 : Int32)) (pc := 34) X dX6_isAllWithin_34 (by decide) ?_
      obtain rfl := Option.some.inj hf
      exact hret _ _ (by decide) dX6_isAllWithin_35
    · have hf := itn hc hf
      refine g_aload_n (pc := 11) X dX6_isAllWithin_11 rfl 0 rfl ?_
      obtain ⟨hk1, hf⟩ := gp_some hf
      obtain ⟨q2, hr3, hf⟩ := bnd_some hf
      refine g_getR (pc := 12) X fl_X6_9 (KClt hk1 (by decide)) hk1 hr3 dX6_isAllWithin_12 ?_
      refine g_iload (pc := 15) X dX6_isAllWithin_15 4 rfl ?_
      obtain ⟨hk4, hf⟩ := gp_some hf
      obtain ⟨hi5, hf⟩ := gp_some hf
      refine g_iald (pc := 17) X (KClt hk4 (by decide)) hk4 hi5 dX6_isAllWithin_17 ?_
      refine g_iconst (v := (0 : Int32)) (pc := 18) X dX6_isAllWithin_18 (by decide) ?_
      refine g_iload_n (pc := 19) X dX6_isAllWithin_19 rfl 3 rfl ?_
      obtain ⟨r7, hq6, hf⟩ := bnd_some hf
      refine g_callSNI (pc := 20) (As := [.int (m.1 q2 v4.toNatClampNeg), .int (0 : Int32), .int v3]) (rest := []) (q := 13) X mi_X11_isWithin sm_X11_isWithin rfl (cX11_isWithin_ct z ad (m.1 q2 v4.toNatClampNeg) (0 : Int32) v3 m r7 hq6) rfl rfl (Nat.le_of_ble_eq_true rfl) ⟨rfl, rfl, by decide, by decide, Nat.le_refl _, Nat.le_refl _⟩ dX6_isAllWithin_20 ?_
      refine g_if_ne (pc := 23) (tgt := 28) X dX6_isAllWithin_23 (by decide) (fun hc => ?_) (fun hc => ?_)
      · have hf := itn hc hf
        obtain ⟨v4_8, e9, hf⟩ := lt1_some hf
        refine g_iinc (v2 := v4_8) (lv2 := [(0, .ref (ad v0)), (1, .int v1), (2, .int v2), (3, .int v3), (4, .int v4_8)]) (pc := 28) X dX6_isAllWithin_28 4 rfl (by rw [e9]; rfl) (by decide) [1, 2, 3, 4, 0] rfl ?_
        refine g_goto (pc := 31) (tgt := 3) X dX6_isAllWithin_31 (by decide) ?_
        exact hs3 (v4_8) (Option.some.inj hf).symm
      · have hf := itp hc hf
        have he3 := he3 _ (Option.some.inj hf).symm
        subst he3
        have hf : some (0 : Int32) = some r := hrest3
        refine g_iconst (v := (0 : Int32)) (pc := 26) X dX6_isAllWithin_26 (by decide) ?_
        obtain rfl := Option.some.inj hf
        exact hret _ _ (by decide) dX6_isAllWithin_27
  unfold fX6_isAllWithin at hf
  refine g_iload_n (pc := 0) X dX6_isAllWithin_0 rfl 1 rfl ?_
  refine g_istore (lv2 := [(0, .ref (ad v0)), (1, .int v1), (2, .int v2), (3, .int v3), (4, .int v1)]) (pc := 1) X dX6_isAllWithin_1 (by decide) [1, 2, 3, 4, 0] rfl ?_
  exact hL3 _ _ _ _ _ hf

