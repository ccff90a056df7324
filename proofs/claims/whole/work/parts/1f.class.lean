noncomputable def fX2_leastWaterForAll_101 (v0 : Nat) (v1 : Int32) (v2 : Int32) (v3 : Int32) (v4 : Int32) (m : Mem) : Option ((Int32 × Int32) ⊕ (Int32)) := lt1 (v4 + 1) (fun v4_1 => some (.inl (v3, v4_1)))
noncomputable def fX2_leastWaterForAll_69 (v0 : Nat) (v1 : Int32) (v2 : Int32) (v3 : Int32) (v4 : Int32) (s0 : Int32) (m : Mem) : Option ((Int32 × Int32) ⊕ (Int32)) := if s0 = 0 then (fX2_leastWaterForAll_101 v0 v1 v2 v3 v4 m) else (gp (KC v0 = 2) (bnd (m.2.2 v0 0) (fun q4 => gp (KC q4 = 14) (gp (inb v4 (NC q4) = true) (bnd (fX2_leaving v0 (m.1 q4 v4.toNatClampNeg) v1 (0 : Int32) m) (fun r9 => if r9 = v2 then (gp (inb v4 (NC q4) = true) (lt1 (m.1 q4 v4.toNatClampNeg) (fun v3_11 => fX2_leastWaterForAll_101 v0 v1 v2 v3_11 v4 m))) else (fX2_leastWaterForAll_101 v0 v1 v2 v3 v4 m)))))))
noncomputable def fX2_leastWaterForAll_64 (v0 : Nat) (v1 : Int32) (v2 : Int32) (v3 : Int32) (v4 : Int32) (m : Mem) : Option ((Int32 × Int32) ⊕ (Int32)) := fX2_leastWaterForAll_69 v0 v1 v2 v3 v4 (1 : Int32) m
noncomputable def fX2_leastWaterForAll_38b (v0 : Nat) (v1 : Int32) (v2 : Int32) (v3 : Int32) (v4 : Int32) (m : Mem) : Option ((Int32 × Int32) ⊕ (Int32)) := gp (KC v0 = 2) (if (m.1 v0 2) ≤ v4 then (some (.inr (v3))) else (if v3 = (-1000000 : Int32) then (fX2_leastWaterForAll_64 v0 v1 v2 v3 v4 m) else (bnd (m.2.2 v0 0) (fun q14 => gp (KC q14 = 14) (gp (inb v4 (NC q14) = true) (if v3 ≤ (m.1 q14 v4.toNatClampNeg) then (fX2_leastWaterForAll_69 v0 v1 v2 v3 v4 (0 : Int32) m) else (fX2_leastWaterForAll_64 v0 v1 v2 v3 v4 m)))))))
noncomputable def fX2_leastWaterForAll_38 (v0 : Nat) (v1 : Int32) (v2 : Int32) (v3 : Int32) (v4 : Int32) (m : Mem) : Option Int32 := bnd (iter (fun s => fX2_leastWaterForAll_38b v0 v1 v2 s.1 s.2 m) FU (v3, v4)) (fun e => some e)
noncomputable def fX2_leastWaterForAll (v0 : Nat) (v1 : Int32) (m : Mem) : Option Int32 := gp (KC v0 = 2) (lt1 (((1 : Int32) <<< ((m.1 v0 2) &&& 31)) - (1 : Int32)) (fun v2_19 => if (m.1 v0 2) = 0 then (some (-1000000 : Int32)) else (bnd (fX2_leaving v0 (1 : Int32) v1 (0 : Int32) m) (fun r22 => if r22 = v2_19 then (some (1 : Int32)) else (lt1 ((-1000000 : Int32)) (fun v3_23 => lt1 ((0 : Int32)) (fun v4_25 => fX2_leastWaterForAll_38 v0 v1 v2_19 v3_23 v4_25 m)))))))
set_option maxHeartbeats 4000000 in
set_option maxRecDepth 100000 in
theorem cX2_leastWaterForAll_ct (z : Zx) (ad : Nat → Nat) (v0 : Nat) (v1 : Int32) (m : Mem) (r : Int32) (hf : fX2_leastWaterForAll v0 v1 m = some r) : CtI z wC yX2_leastWaterForAll cX2_leastWaterForAll 6 (some .int) (Rm 5) ad 91 [.ref (ad v0), .int v1] m m r := by
  refine ct_ofI mi_X2_leastWaterForAll rfl (Nat.le_of_ble_eq_true rfl) (fun x X hret => ?_)
  refine g_lv [(0, .ref (ad v0)), (1, .int v1)] [0, 1] rfl ?_
  have hL38 : ∀ (v0 : Nat) (v1 : Int32) (v2 : Int32) (v3 : Int32) (v4 : Int32), fX2_leastWaterForAll_38 v0 v1 v2 v3 v4 m = some r → G z wC x 6 0 0 ad 91 m 38 [(0, .ref (ad v0)), (1, .int v1), (2, .int v2), (3, .int v3), (4, .int v4)] [] := by
    intro v0 v1 v2 v3 v4 hf
    unfold fX2_leastWaterForAll_38 at hf
    obtain ⟨e38, hit38, hrest38⟩ := bnd_some hf
    refine iter_ok (Hd := fun (s : (Int32 × Int32)) => G z wC x 6 0 0 ad 91 m 38 [(0, .ref (ad v0)), (1, .int v1), (2, .int v2), (3, .int s.1), (4, .int s.2)] []) ?_ FU (v3, v4) hit38
    intro s ob38 hf hs38 he38
    obtain ⟨v3, v4⟩ := s
    have hf : fX2_leastWaterForAll_38b v0 v1 v2 v3 v4 m = some ob38 := hf
    have hL101 : ∀ (v3 : Int32) (v4 : Int32), fX2_leastWaterForAll_101 v0 v1 v2 v3 v4 m = some ob38 → G z wC x 6 0 0 ad 91 m 101 [(0, .ref (ad v0)), (1, .int v1), (2, .int v2), (3, .int v3), (4, .int v4)] [] := by
      intro v3 v4 hf
      unfold fX2_leastWaterForAll_101 at hf
      obtain ⟨v4_1, e2, hf⟩ := lt1_some hf
      refine g_iinc (v2 := v4_1) (lv2 := [(0, .ref (ad v0)), (1, .int v1), (2, .int v2), (3, .int v3), (4, .int v4_1)]) (pc := 101) X dX2_leastWaterForAll_101 4 rfl (by rw [e2]; rfl) (by decide) [1, 2, 3, 4, 0] rfl ?_
      refine g_goto (pc := 104) (tgt := 38) X dX2_leastWaterForAll_104 (by decide) ?_
      exact hs38 (v3, v4_1) (Option.some.inj hf).symm
    have hL69 : ∀ (v3 : Int32) (v4 : Int32) (s0 : Int32), fX2_leastWaterForAll_69 v0 v1 v2 v3 v4 s0 m = some ob38 → G z wC x 6 0 0 ad 91 m 69 [(0, .ref (ad v0)), (1, .int v1), (2, .int v2), (3, .int v3), (4, .int v4)] [.int s0] := by
      intro v3 v4 s0 hf
      unfold fX2_leastWaterForAll_69 at hf
      refine g_istore (lv2 := [(0, .ref (ad v0)), (1, .int v1), (2, .int v2), (3, .int v3), (4, .int v4), (5, .int s0)]) (pc := 69) X dX2_leastWaterForAll_69 (by decide) [1, 2, 3, 4, 5, 0] rfl ?_
      refine g_iload (pc := 71) X dX2_leastWaterForAll_71 5 rfl ?_
      refine g_if_eq (pc := 73) (tgt := 101) X dX2_leastWaterForAll_73 (by decide) (fun hc => ?_) (fun hc => ?_)
      · have hf := itp hc hf
        refine g_lv [(0, .ref (ad v0)), (1, .int v1), (2, .int v2), (3, .int v3), (4, .int v4)] [0, 1, 2, 3, 4] rfl ?_
        exact hL101 _ _ hf
      · have hf := itn hc hf
        refine g_aload_n (pc := 76) X dX2_leastWaterForAll_76 rfl 0 rfl ?_
        refine g_aload_n (pc := 77) X dX2_leastWaterForAll_77 rfl 0 rfl ?_
        obtain ⟨hk3, hf⟩ := gp_some hf
        obtain ⟨q4, hr5, hf⟩ := bnd_some hf
        refine g_getR (pc := 78) X fl_X2_9 (KClt hk3 (by decide)) hk3 hr5 dX2_leastWaterForAll_78 ?_
        refine g_iload (pc := 81) X dX2_leastWaterForAll_81 4 rfl ?_
        obtain ⟨hk6, hf⟩ := gp_some hf
        obtain ⟨hi7, hf⟩ := gp_some hf
        refine g_iald (pc := 83) X (KClt hk6 (by decide)) hk6 hi7 dX2_leastWaterForAll_83 ?_
        refine g_iload_n (pc := 84) X dX2_leastWaterForAll_84 rfl 1 rfl ?_
        refine g_iconst (v := (0 : Int32)) (pc := 85) X dX2_leastWaterForAll_85 (by decide) ?_
        obtain ⟨r9, hq8, hf⟩ := bnd_some hf
        refine g_callVI (pc := 86) (As := [.int (m.1 q4 v4.toNatClampNeg), .int v1, .int (0 : Int32)]) (rest := []) X mi_X2_leaving im_X2_leaving se_X2_leaving (KClt hk3 (by decide)) hk3 clX2 ml_X2_33 (cX2_leaving_ct z ad v0 (m.1 q4 v4.toNatClampNeg) v1 (0 : Int32) m r9 hq8) rfl rfl (Nat.le_of_ble_eq_true rfl) ⟨rfl, rfl, by decide, by decide, Nat.le_refl _, Nat.le_refl _⟩ dX2_leastWaterForAll_86 ?_
        refine g_iload_n (pc := 89) X dX2_leastWaterForAll_89 rfl 2 rfl ?_
        refine g_icmp_ne (pc := 90) (tgt := 101) X dX2_leastWaterForAll_90 (by decide) (fun hc => ?_) (fun hc => ?_)
        · have hf := itn hc hf
          refine g_lv [(0, .ref (ad v0)), (1, .int v1), (2, .int v2), (3, .int v3), (4, .int v4)] [0, 1, 2, 3, 4] rfl ?_
          exact hL101 _ _ hf
        · have hf := itp hc hf
          refine g_aload_n (pc := 93) X dX2_leastWaterForAll_93 rfl 0 rfl ?_
          refine g_getR (pc := 94) X fl_X2_9 (KClt hk3 (by decide)) hk3 hr5 dX2_leastWaterForAll_94 ?_
          refine g_iload (pc := 97) X dX2_leastWaterForAll_97 4 rfl ?_
          obtain ⟨hi10, hf⟩ := gp_some hf
          refine g_iald (pc := 99) X (KClt hk6 (by decide)) hk6 hi10 dX2_leastWaterForAll_99 ?_
          obtain ⟨v3_11, e12, hf⟩ := lt1_some hf
          refine g_topi e12 ?_
          refine g_istore_n (lv2 := [(0, .ref (ad v0)), (1, .int v1), (2, .int v2), (3, .int v3_11), (4, .int v4), (5, .int s0)]) (pc := 100) X dX2_leastWaterForAll_100 rfl (by decide) [1, 2, 3, 0, 4, 5] rfl ?_
          refine g_lv [(0, .ref (ad v0)), (1, .int v1), (2, .int v2), (3, .int v3_11), (4, .int v4)] [0, 1, 2, 3, 4] rfl ?_
          exact hL101 _ _ hf
    have hL64 : ∀ (v3 : Int32) (v4 : Int32), fX2_leastWaterForAll_64 v0 v1 v2 v3 v4 m = some ob38 → G z wC x 6 0 0 ad 91 m 64 [(0, .ref (ad v0)), (1, .int v1), (2, .int v2), (3, .int v3), (4, .int v4)] [] := by
      intro v3 v4 hf
      unfold fX2_leastWaterForAll_64 at hf
      refine g_iconst (v := (1 : Int32)) (pc := 64) X dX2_leastWaterForAll_64 (by decide) ?_
      refine g_goto (pc := 65) (tgt := 69) X dX2_leastWaterForAll_65 (by decide) ?_
      exact hL69 _ _ _ hf
    unfold fX2_leastWaterForAll_38b at hf
    refine g_iload (pc := 38) X dX2_leastWaterForAll_38 4 rfl ?_
    refine g_aload_n (pc := 40) X dX2_leastWaterForAll_40 rfl 0 rfl ?_
    obtain ⟨hk13, hf⟩ := gp_some hf
    refine g_getI (pc := 41) X fl_X2_18 (KClt hk13 (by decide)) hk13 dX2_leastWaterForAll_41 ?_
    refine g_icmp_ge (pc := 44) (tgt := 107) X dX2_leastWaterForAll_44 (by decide) (fun hc => ?_) (fun hc => ?_)
    · have hf := itp hc hf
      have he38 := he38 _ (Option.some.inj hf).symm
      subst he38
      have hf : some v3 = some r := hrest38
      refine g_iload_n (pc := 107) X dX2_leastWaterForAll_107 rfl 3 rfl ?_
      obtain rfl := Option.some.inj hf
      exact hret _ _ rfl dX2_leastWaterForAll_108
    · have hf := itn hc hf
      refine g_iload_n (pc := 47) X dX2_leastWaterForAll_47 rfl 3 rfl ?_
      refine g_ldc (pc := 48) X dX2_leastWaterForAll_48 k_X2_32 ?_
      refine g_icmp_eq (pc := 50) (tgt := 64) X dX2_leastWaterForAll_50 (by decide) (fun hc => ?_) (fun hc => ?_)
      · have hf := itp hc hf
        exact hL64 _ _ hf
      · have hf := itn hc hf
        refine g_aload_n (pc := 53) X dX2_leastWaterForAll_53 rfl 0 rfl ?_
        obtain ⟨q14, hr15, hf⟩ := bnd_some hf
        refine g_getR (pc := 54) X fl_X2_9 (KClt hk13 (by decide)) hk13 hr15 dX2_leastWaterForAll_54 ?_
        refine g_iload (pc := 57) X dX2_leastWaterForAll_57 4 rfl ?_
        obtain ⟨hk16, hf⟩ := gp_some hf
        obtain ⟨hi17, hf⟩ := gp_some hf
        refine g_iald (pc := 59) X (KClt hk16 (by decide)) hk16 hi17 dX2_leastWaterForAll_59 ?_
        refine g_iload_n (pc := 60) X dX2_leastWaterForAll_60 rfl 3 rfl ?_
        refine g_icmp_ge (pc := 61) (tgt := 68) X dX2_leastWaterForAll_61 (by decide) (fun hc => ?_) (fun hc => ?_)
        · have hf := itp hc hf
          refine g_iconst (v := (0 : Int32)) (pc := 68) X dX2_leastWaterForAll_68 (by decide) ?_
          exact hL69 _ _ _ hf
        · have hf := itn hc hf
          exact hL64 _ _ hf
  unfold fX2_leastWaterForAll at hf
  refine g_iconst (v := (1 : Int32)) (pc := 0) X dX2_leastWaterForAll_0 (by decide) ?_
  refine g_aload_n (pc := 1) X dX2_leastWaterForAll_1 rfl 0 rfl ?_
  obtain ⟨hk18, hf⟩ := gp_some hf
  refine g_getI (pc := 2) X fl_X2_18 (KClt hk18 (by decide)) hk18 dX2_leastWaterForAll_2 ?_
  refine g_ishl (pc := 5) X dX2_leastWaterForAll_5 ?_
  refine g_iconst (v := (1 : Int32)) (pc := 6) X dX2_leastWaterForAll_6 (by decide) ?_
  refine g_isub (pc := 7) X dX2_leastWaterForAll_7 ?_
  obtain ⟨v2_19, e20, hf⟩ := lt1_some hf
  refine g_topi e20 ?_
  refine g_istore_n (lv2 := [(0, .ref (ad v0)), (1, .int v1), (2, .int v2_19)]) (pc := 8) X dX2_leastWaterForAll_8 rfl (by decide) [1, 2, 0] rfl ?_
  refine g_aload_n (pc := 9) X dX2_leastWaterForAll_9 rfl 0 rfl ?_
  refine g_getI (pc := 10) X fl_X2_18 (KClt hk18 (by decide)) hk18 dX2_leastWaterForAll_10 ?_
  refine g_if_ne (pc := 13) (tgt := 19) X dX2_leastWaterForAll_13 (by decide) (fun hc => ?_) (fun hc => ?_)
  · have hf := itn hc hf
    refine g_aload_n (pc := 19) X dX2_leastWaterForAll_19 rfl 0 rfl ?_
    refine g_iconst (v := (1 : Int32)) (pc := 20) X dX2_leastWaterForAll_20 (by decide) ?_
    refine g_iload_n (pc := 21) X dX2_leastWaterForAll_21 rfl 1 rfl ?_
    refine g_iconst (v := (0 : Int32)) (pc := 22) X dX2_leastWaterForAll_22 (by decide) ?_
    obtain ⟨r22, hq21, hf⟩ := bnd_some hf
    refine g_callVI (pc := 23) (As := [.int (1 : Int32), .int v1, .int (0 : Int32)]) (rest := []) X mi_X2_leaving im_X2_leaving se_X2_leaving (KClt hk18 (by decide)) hk18 clX2 ml_X2_33 (cX2_leaving_ct z ad v0 (1 : Int32) v1 (0 : Int32) m r22 hq21) rfl rfl (Nat.le_of_ble_eq_true rfl) ⟨rfl, rfl, by decide, by decide, Nat.le_refl _, Nat.le_refl _⟩ dX2_leastWaterForAll_23 ?_
    refine g_iload_n (pc := 26) X dX2_leastWaterForAll_26 rfl 2 rfl ?_
    refine g_icmp_ne (pc := 27) (tgt := 32) X dX2_leastWaterForAll_27 (by decide) (fun hc => ?_) (fun hc => ?_)
    · have hf := itn hc hf
      refine g_ldc (pc := 32) X dX2_leastWaterForAll_32 k_X2_32 ?_
      obtain ⟨v3_23, e24, hf⟩ := lt1_some hf
      refine g_topi e24 ?_
      refine g_istore_n (lv2 := [(0, .ref (ad v0)), (1, .int v1), (2, .int v2_19), (3, .int v3_23)]) (pc := 34) X dX2_leastWaterForAll_34 rfl (by decide) [1, 2, 3, 0] rfl ?_
      refine g_iconst (v := (0 : Int32)) (pc := 35) X dX2_leastWaterForAll_35 (by decide) ?_
      obtain ⟨v4_25, e26, hf⟩ := lt1_some hf
      refine g_topi e26 ?_
      refine g_istore (lv2 := [(0, .ref (ad v0)), (1, .int v1), (2, .int v2_19), (3, .int v3_23), (4, .int v4_25)]) (pc := 36) X dX2_leastWaterForAll_36 (by decide) [1, 2, 3, 4, 0] rfl ?_
      exact hL38 _ _ _ _ _ hf
    · have hf := itp hc hf
      refine g_iconst (v := (1 : Int32)) (pc := 30) X dX2_leastWaterForAll_30 (by decide) ?_
      obtain rfl := Option.some.inj hf
      exact hret _ _ rfl dX2_leastWaterForAll_31
  · have hf := itp hc hf
    refine g_ldc (pc := 16) X dX2_leastWaterForAll_16 k_X2_32 ?_
    obtain rfl := Option.some.inj hf
    exact hret _ _ rfl dX2_leastWaterForAll_18

noncomputable def fX11_leastWater (v0 : Nat) (v1 : Int32) (m : Mem) : Option Int64 := gp (KC v0 = 11) (bnd (m.2.2 v0 6) (fun q2 => gp (KC q2 = 10) (if (m.1 q2 4) = 0 then (some (-9000000000000000002 : Int64)) else (bnd (fX11_isWithin v1 (0 : Int32) (50 : Int32)) (fun r6 => if r6 = 0 then (some (-9000000000000000001 : Int64)) else (bnd (m.2.2 q2 2) (fun q7 => gp (KC q7 = 2) (bnd (fX2_leastWaterForAll q7 v1 m) (fun r10 => some r10.toInt64)))))))))
set_option maxHeartbeats 4000000 in
set_option maxRecDepth 100000 in
theorem cX11_leastWater_ct (z : Zx) (ad : Nat → Nat) (v0 : Nat) (v1 : Int32) (m : Mem) (r : Int64) (hf : fX11_leastWater v0 v1 m = some r) : CtL z wC yX11_leastWater cX11_leastWater 2 (some .long) (Rm 6) ad 91 [.ref (ad v0), .int v1] m m r := by
  refine ct_ofL mi_X11_leastWater rfl (Nat.le_of_ble_eq_true rfl) (fun x X hret => ?_)
  refine g_lv [(0, .ref (ad v0)), (1, .int v1)] [0, 1] rfl ?_
  unfold fX11_leastWater at hf
  refine g_aload_n (pc := 0) X dX11_leastWater_0 rfl 0 rfl ?_
  obtain ⟨hk1, hf⟩ := gp_some hf
  obtain ⟨q2, hr3, hf⟩ := bnd_some hf
  refine g_getR (pc := 1) X fl_X11_52 (KClt hk1 (by decide)) hk1 hr3 dX11_leastWater_1 ?_
  obtain ⟨hk4, hf⟩ := gp_some hf
  refine g_getI (pc := 4) X fl_X11_144 (KClt hk4 (by decide)) hk4 dX11_leastWater_4 ?_
  refine g_if_ne (pc := 7) (tgt := 14) X dX11_leastWater_7 (by decide) (fun hc => ?_) (fun hc => ?_)
  · have hf := itn hc hf
    refine g_iload_n (pc := 14) X dX11_leastWater_14 rfl 1 rfl ?_
    refine g_iconst (v := (0 : Int32)) (pc := 15) X dX11_leastWater_15 (by decide) ?_
    refine g_bipush (v := (50 : Int32)) (pc := 16) X dX11_leastWater_16 (by decide) ?_
    obtain ⟨r6, hq5, hf⟩ := bnd_some hf
    refine g_callSI (pc := 18) (As := [.int v1, .int (0 : Int32), .int (50 : Int32)]) (rest := []) X mi_X11_isWithin sm_X11_isWithin ml_X11_60 (cX11_isWithin_ct z ad v1 (0 : Int32) (50 : Int32) m r6 hq5) rfl rfl (Nat.le_of_ble_eq_true rfl) ⟨rfl, rfl, by decide, by decide, Nat.le_refl _, Nat.le_refl _⟩ dX11_leastWater_18 ?_
    refine g_if_ne (pc := 21) (tgt := 28) X dX11_leastWater_21 (by decide) (fun hc => ?_) (fun hc => ?_)
    · have hf := itn hc hf
      refine g_aload_n (pc := 28) X dX11_leastWater_28 rfl 0 rfl ?_
      refine g_getR (pc := 29) X fl_X11_52 (KClt hk1 (by decide)) hk1 hr3 dX11_leastWater_29 ?_
      obtain ⟨q7, hr8, hf⟩ := bnd_some hf
      refine g_getR (pc := 32) X fl_X11_281 (KClt hk4 (by decide)) hk4 hr8 dX11_leastWater_32 ?_
      refine g_iload_n (pc := 35) X dX11_leastWater_35 rfl 1 rfl ?_
      obtain ⟨hk11, hf⟩ := gp_some hf
      obtain ⟨r10, hq9, hf⟩ := bnd_some hf
      refine g_callVI (pc := 36) (As := [.int v1]) (rest := []) X mi_X2_leastWaterForAll im_X2_leastWaterForAll se_X2_leastWaterForAll (KClt hk11 (by decide)) hk11 clX2 ml_X11_290 (cX2_leastWaterForAll_ct z ad q7 v1 m r10 hq9) rfl rfl (Nat.le_of_ble_eq_true rfl) ⟨rfl, rfl, by decide, by decide, Nat.le_refl _, Nat.le_refl _⟩ dX11_leastWater_36 ?_
      refine g_i2l (pc := 39) X dX11_leastWater_39 ?_
      obtain rfl := Option.some.inj hf
      exact hret _ _ dX11_leastWater_40
    · have hf := itp hc hf
      refine g_ldc2 (pc := 24) X dX11_leastWater_24 kl_X11_64 ?_
      obtain rfl := Option.some.inj hf
      exact hret _ _ dX11_leastWater_27
  · have hf := itp hc hf
    refine g_ldc2 (pc := 10) X dX11_leastWater_10 kl_X11_148 ?_
    obtain rfl := Option.some.inj hf
    exact hret _ _ dX11_leastWater_13

noncomputable def fX1_storiesWith_39 (v0 : Nat) (v1 : Int32) (v2 : Nat) (v3 : Int32) (v4 : Int32) (m : Mem) : Option ((Int32 × Int32) ⊕ (Int32)) := lt1 (v4 + 1) (fun v4_1 => some (.inl (v3, v4_1)))
noncomputable def fX1_storiesWith_5b (v0 : Nat) (v1 : Int32) (v2 : Nat) (v3 : Int32) (v4 : Int32) (m : Mem) : Option ((Int32 × Int32) ⊕ (Int32)) := gp (KC v0 = 1) (if (m.1 v0 6) ≤ v4 then (some (.inr (v3))) else (gp (KC v2 = 14) (if (Int32.ofNat (NC v2)) ≤ v4 then (some (.inr (v3))) else (gp (inb v4 (NC v2) = true) (bnd (fX11_isIn v1 (m.1 v2 v4.toNatClampNeg)) (fun r7 => if r7 = 0 then (fX1_storiesWith_39 v0 v1 v2 v3 v4 m) else (lt1 (v3 ||| ((1 : Int32) <<< (v4 &&& 31))) (fun v3_8 => fX1_storiesWith_39 v0 v1 v2 v3_8 v4 m))))))))
noncomputable def fX1_storiesWith_5 (v0 : Nat) (v1 : Int32) (v2 : Nat) (v3 : Int32) (v4 : Int32) (m : Mem) : Option Int32 := bnd (iter (fun s => fX1_storiesWith_5b v0 v1 v2 s.1 s.2 m) FU (v3, v4)) (fun e => some e)
noncomputable def fX1_storiesWith (v0 : Nat) (v1 : Int32) (v2 : Nat) (m : Mem) : Option Int32 := lt1 ((0 : Int32)) (fun v3_10 => lt1 ((0 : Int32)) (fun v4_12 => fX1_storiesWith_5 v0 v1 v2 v3_10 v4_12 m))
set_option maxHeartbeats 4000000 in
set_option maxRecDepth 100000 in
theorem cX1_storiesWith_ct (z : Zx) (ad : Nat → Nat) (v0 : Nat) (v1 : Int32) (v2 : Nat) (m : Mem) (r : Int32) (hf : fX1_storiesWith v0 v1 v2 m = some r) : CtI z wC yX1_storiesWith cX1_storiesWith 5 (some .int) (Rm 3) ad 91 [.ref (ad v0), .int v1, .ref (ad v2)] m m r := by
  refine ct_ofI mi_X1_storiesWith rfl (Nat.le_of_ble_eq_true rfl) (fun x X hret => ?_)
  refine g_lv [(0, .ref (ad v0)), (1, .int v1), (2, .ref (ad v2))] [0, 1, 2] rfl ?_
  have hL5 : ∀ (v0 : Nat) (v1 : Int32) (v2 : Nat) (v3 : Int32) (v4 : Int32), fX1_storiesWith_5 v0 v1 v2 v3 v4 m = some r → G z wC x 5 0 0 ad 91 m 5 [(0, .ref (ad v0)), (1, .int v1), (2, .ref (ad v2)), (3, .int v3), (4, .int v4)] [] := by
    intro v0 v1 v2 v3 v4 hf
    unfold fX1_storiesWith_5 at hf
    obtain ⟨e5, hit5, hrest5⟩ := bnd_some hf
    refine iter_ok (Hd := fun (s : (Int32 × Int32)) => G z wC x 5 0 0 ad 91 m 5 [(0, .ref (ad v0)), (1, .int v1), (2, .ref (ad v2)), (3, .int s.1), (4, .int s.2)] []) ?_ FU (v3, v4) hit5
    intro s ob5 hf hs5 he5
    obtain ⟨v3, v4⟩ := s
    have hf : fX1_storiesWith_5b v0 v1 v2 v3 v4 m = some ob5 := hf
    have hL39 : ∀ (v3 : Int32) (v4 : Int32), fX1_storiesWith_39 v0 v1 v2 v3 v4 m = some ob5 → G z wC x 5 0 0 ad 91 m 39 [(0, .ref (ad v0)), (1, .int v1), (2, .ref (ad v2)), (3, .int v3), (4, .int v4)] [] := by
      intro v3 v4 hf
      unfold fX1_storiesWith_39 at hf
      obtain ⟨v4_1, e2, hf⟩ := lt1_some hf
      refine g_iinc (v2 := v4_1) (lv2 := [(0, .ref (ad v0)), (1, .int v1), (2, .ref (ad v2)), (3, .int v3), (4, .int v4_1)]) (pc := 39) X dX1_storiesWith_39 4 rfl (by rw [e2]; rfl) (by decide) [1, 2, 3, 4, 0] rfl ?_
      refine g_goto (pc := 42) (tgt := 5) X dX1_storiesWith_42 (by decide) ?_
      exact hs5 (v3, v4_1) (Option.some.inj hf).symm
    unfold fX1_storiesWith_5b at hf
    refine g_iload (pc := 5) X dX1_storiesWith_5 4 rfl ?_
    refine g_aload_n (pc := 7) X dX1_storiesWith_7 rfl 0 rfl ?_
    obtain ⟨hk3, hf⟩ := gp_some hf
    refine g_getI (pc := 8) X fl_X1_31 (KClt hk3 (by decide)) hk3 dX1_storiesWith_8 ?_
    refine g_icmp_ge (pc := 11) (tgt := 45) X dX1_storiesWith_11 (by decide) (fun hc => ?_) (fun hc => ?_)
    · have hf := itp hc hf
      have he5 := he5 _ (Option.some.inj hf).symm
      subst he5
      have hf : some v3 = some r := hrest5
      refine g_iload_n (pc := 45) X dX1_storiesWith_45 rfl 3 rfl ?_
      obtain rfl := Option.some.inj hf
      exact hret _ _ rfl dX1_storiesWith_46
    · have hf := itn hc hf
      refine g_iload (pc := 14) X dX1_storiesWith_14 4 rfl ?_
      refine g_aload_n (pc := 16) X dX1_storiesWith_16 rfl 2 rfl ?_
      obtain ⟨hk4, hf⟩ := gp_some hf
      refine g_alen (pc := 17) X (KClt hk4 (by decide)) hk4 dX1_storiesWith_17 ?_
      refine g_icmp_ge (pc := 18) (tgt := 45) X dX1_storiesWith_18 (by decide) (fun hc => ?_) (fun hc => ?_)
      · have hf := itp hc hf
        have he5 := he5 _ (Option.some.inj hf).symm
        subst he5
        have hf : some v3 = some r := hrest5
        refine g_iload_n (pc := 45) X dX1_storiesWith_45 rfl 3 rfl ?_
        obtain rfl := Option.some.inj hf
        exact hret _ _ rfl dX1_storiesWith_46
      · have hf := itn hc hf
        refine g_iload_n (pc := 21) X dX1_storiesWith_21 rfl 1 rfl ?_
        refine g_aload_n (pc := 22) X dX1_storiesWith_22 rfl 2 rfl ?_
        refine g_iload (pc := 23) X dX1_storiesWith_23 4 rfl ?_
        obtain ⟨hi5, hf⟩ := gp_some hf
        refine g_iald (pc := 25) X (KClt hk4 (by decide)) hk4 hi5 dX1_storiesWith_25 ?_
        obtain ⟨r7, hq6, hf⟩ := bnd_some hf
        refine g_callSNI (pc := 26) (As := [.int v1, .int (m.1 v2 v4.toNatClampNeg)]) (rest := []) (q := 15) X mi_X11_isIn sm_X11_isIn rfl (cX11_isIn_ct z ad v1 (m.1 v2 v4.toNatClampNeg) m r7 hq6) rfl rfl (Nat.le_of_ble_eq_true rfl) ⟨rfl, rfl, by decide, by decide, Nat.le_refl _, Nat.le_refl _⟩ dX1_storiesWith_26 ?_
        refine g_if_eq (pc := 29) (tgt := 39) X dX1_storiesWith_29 (by decide) (fun hc => ?_) (fun hc => ?_)
        · have hf := itp hc hf
          exact hL39 _ _ hf
        · have hf := itn hc hf
          refine g_iload_n (pc := 32) X dX1_storiesWith_32 rfl 3 rfl ?_
          refine g_iconst (v := (1 : Int32)) (pc := 33) X dX1_storiesWith_33 (by decide) ?_
          refine g_iload (pc := 34) X dX1_storiesWith_34 4 rfl ?_
          refine g_ishl (pc := 36) X dX1_storiesWith_36 ?_
          refine g_ior (pc := 37) X dX1_storiesWith_37 ?_
          obtain ⟨v3_8, e9, hf⟩ := lt1_some hf
          refine g_topi e9 ?_
          refine g_istore_n (lv2 := [(0, .ref (ad v0)), (1, .int v1), (2, .ref (ad v2)), (3, .int v3_8), (4, .int v4)]) (pc := 38) X dX1_storiesWith_38 rfl (by decide) [1, 2, 3, 0, 4] rfl ?_
          exact hL39 _ _ hf
  unfold fX1_storiesWith at hf
  refine g_iconst (v := (0 : Int32)) (pc := 0) X dX1_storiesWith_0 (by decide) ?_
  obtain ⟨v3_10, e11, hf⟩ := lt1_some hf
  refine g_topi e11 ?_
  refine g_istore_n (lv2 := [(0, .ref (ad v0)), (1, .int v1), (2, .ref (ad v2)), (3, .int v3_10)]) (pc := 1) X dX1_storiesWith_1 rfl (by decide) [1, 2, 3, 0] rfl ?_
  refine g_iconst (v := (0 : Int32)) (pc := 2) X dX1_storiesWith_2 (by decide) ?_
  obtain ⟨v4_12, e13, hf⟩ := lt1_some hf
  refine g_topi e13 ?_
  refine g_istore (lv2 := [(0, .ref (ad v0)), (1, .int v1), (2, .ref (ad v2)), (3, .int v3_10), (4, .int v4_12)]) (pc := 3) X dX1_storiesWith_3 (by decide) [1, 2, 3, 4, 0] rfl ?_
  exact hL5 _ _ _ _ _ hf

noncomputable def fX11_sign (v0 : Nat) (v1 : Int32) (v2 : Int32) (m : Mem) : Option Int64 := gp (KC v0 = 11) (bnd (m.2.2 v0 6) (fun q2 => gp (KC q2 = 10) (bnd (m.2.2 q2 3) (fun q5 => gp (KC q5 = 1) (bnd (fX1_isSign q5 v1 m) (fun r8 => if r8 = 0 then (some (-9000000000000000001 : Int64)) else (if v2 = 0 then (bnd (m.2.2 q5 1) (fun q10 => gp (KC q10 = 14) (gp (inb v1 (NC q10) = true) (some ((m.1 q10 v1.toNatClampNeg).toInt64))))) else if v2 = 1 then (bnd (m.2.2 q5 2) (fun q15 => bnd (fX1_storiesWith q5 v1 q15 m) (fun r18 => some r18.toInt64))) else if v2 = 2 then (bnd (m.2.2 q5 3) (fun q20 => bnd (fX1_storiesWith q5 v1 q20 m) (fun r23 => some r23.toInt64))) else some (-9000000000000000001 : Int64))))))))
set_option maxHeartbeats 4000000 in
set_option maxRecDepth 100000 in
theorem cX11_sign_ct (z : Zx) (ad : Nat → Nat) (v0 : Nat) (v1 : Int32) (v2 : Int32) (m : Mem) (r : Int64) (hf : fX11_sign v0 v1 v2 m = some r) : CtL z wC yX11_sign cX11_sign 3 (some .long) (Rm 4) ad 91 [.ref (ad v0), .int v1, .int v2] m m r := by
  refine ct_ofL mi_X11_sign rfl (Nat.le_of_ble_eq_true rfl) (fun x X hret => ?_)
  refine g_lv [(0, .ref (ad v0)), (1, .int v1), (2, .int v2)] [0, 1, 2] rfl ?_
  unfold fX11_sign at hf
  refine g_aload_n (pc := 0) X dX11_sign_0 rfl 0 rfl ?_
  obtain ⟨hk1, hf⟩ := gp_some hf
  obtain ⟨q2, hr3, hf⟩ := bnd_some hf
  refine g_getR (pc := 1) X fl_X11_52 (KClt hk1 (by decide)) hk1 hr3 dX11_sign_1 ?_
  obtain ⟨hk4, hf⟩ := gp_some hf
  obtain ⟨q5, hr6, hf⟩ := bnd_some hf
  refine g_getR (pc := 4) X fl_X11_135 (KClt hk4 (by decide)) hk4 hr6 dX11_sign_4 ?_
  refine g_iload_n (pc := 7) X dX11_sign_7 rfl 1 rfl ?_
  obtain ⟨hk9, hf⟩ := gp_some hf
  obtain ⟨r8, hq7, hf⟩ := bnd_some hf
  refine g_callVI (pc := 8) (As := [.int v1]) (rest := []) X mi_X1_isSign im_X1_isSign se_X1_isSign (KClt hk9 (by decide)) hk9 clX1 ml_X11_293 (cX1_isSign_ct z ad q5 v1 m r8 hq7) rfl rfl (Nat.le_of_ble_eq_true rfl) ⟨rfl, rfl, by decide, by decide, Nat.le_refl _, Nat.le_refl _⟩ dX11_sign_8 ?_
  refine g_if_ne (pc := 11) (tgt := 18) X dX11_sign_11 (by decide) (fun hc => ?_) (fun hc => ?_)
  · have hf := itn hc hf
    refine g_iload_n (pc := 18) X dX11_sign_18 rfl 2 rfl ?_
    by_cases hw14 : v2 = 0
    · have hf := itp hw14 hf
      refine g_tblIn (pc := 19) (tgt := 44) (off := 25) X dX11_sign_19 (by rw [hw14]; decide) (by rw [hw14]; decide) (by rw [hw14]; rfl) (by decide) ?_
      refine g_aload_n (pc := 44) X dX11_sign_44 rfl 0 rfl ?_
      refine g_getR (pc := 45) X fl_X11_52 (KClt hk1 (by decide)) hk1 hr3 dX11_sign_45 ?_
      refine g_getR (pc := 48) X fl_X11_135 (KClt hk4 (by decide)) hk4 hr6 dX11_sign_48 ?_
      obtain ⟨q10, hr11, hf⟩ := bnd_some hf
      refine g_getR (pc := 51) X fl_X11_296 (KClt hk9 (by decide)) hk9 hr11 dX11_sign_51 ?_
      refine g_iload_n (pc := 54) X dX11_sign_54 rfl 1 rfl ?_
      obtain ⟨hk12, hf⟩ := gp_some hf
      obtain ⟨hi13, hf⟩ := gp_some hf
      refine g_iald (pc := 55) X (KClt hk12 (by decide)) hk12 hi13 dX11_sign_55 ?_
      refine g_i2l (pc := 56) X dX11_sign_56 ?_
      obtain rfl := Option.some.inj hf
      exact hret _ _ dX11_sign_57
    have hf := itn hw14 hf
    by_cases hw19 : v2 = 1
    · have hf := itp hw19 hf
      refine g_tblIn (pc := 19) (tgt := 58) (off := 39) X dX11_sign_19 (by rw [hw19]; decide) (by rw [hw19]; decide) (by rw [hw19]; rfl) (by decide) ?_
      refine g_aload_n (pc := 58) X dX11_sign_58 rfl 0 rfl ?_
      refine g_getR (pc := 59) X fl_X11_52 (KClt hk1 (by decide)) hk1 hr3 dX11_sign_59 ?_
      refine g_getR (pc := 62) X fl_X11_135 (KClt hk4 (by decide)) hk4 hr6 dX11_sign_62 ?_
      refine g_iload_n (pc := 65) X dX11_sign_65 rfl 1 rfl ?_
      refine g_aload_n (pc := 66) X dX11_sign_66 rfl 0 rfl ?_
      refine g_getR (pc := 67) X fl_X11_52 (KClt hk1 (by decide)) hk1 hr3 dX11_sign_67 ?_
      refine g_getR (pc := 70) X fl_X11_135 (KClt hk4 (by decide)) hk4 hr6 dX11_sign_70 ?_
      obtain ⟨q15, hr16, hf⟩ := bnd_some hf
      refine g_getR (pc := 73) X fl_X11_299 (KClt hk9 (by decide)) hk9 hr16 dX11_sign_73 ?_
      obtain ⟨r18, hq17, hf⟩ := bnd_some hf
      refine g_callVI (pc := 76) (As := [.int v1, .ref (ad q15)]) (rest := []) X mi_X1_storiesWith im_X1_storiesWith se_X1_storiesWith (KClt hk9 (by decide)) hk9 clX1 ml_X11_302 (cX1_storiesWith_ct z ad q5 v1 q15 m r18 hq17) rfl rfl (Nat.le_of_ble_eq_true rfl) ⟨rfl, rfl, by decide, by decide, Nat.le_refl _, Nat.le_refl _⟩ dX11_sign_76 ?_
      refine g_i2l (pc := 79) X dX11_sign_79 ?_
      obtain rfl := Option.some.inj hf
      exact hret _ _ dX11_sign_80
    have hf := itn hw19 hf
    by_cases hw24 : v2 = 2
    · have hf := itp hw24 hf
      refine g_tblIn (pc := 19) (tgt := 81) (off := 62) X dX11_sign_19 (by rw [hw24]; decide) (by rw [hw24]; decide) (by rw [hw24]; rfl) (by decide) ?_
      refine g_aload_n (pc := 81) X dX11_sign_81 rfl 0 rfl ?_
      refine g_getR (pc := 82) X fl_X11_52 (KClt hk1 (by decide)) hk1 hr3 dX11_sign_82 ?_
      refine g_getR (pc := 85) X fl_X11_135 (KClt hk4 (by decide)) hk4 hr6 dX11_sign_85 ?_
      refine g_iload_n (pc := 88) X dX11_sign_88 rfl 1 rfl ?_
      refine g_aload_n (pc := 89) X dX11_sign_89 rfl 0 rfl ?_
      refine g_getR (pc := 90) X fl_X11_52 (KClt hk1 (by decide)) hk1 hr3 dX11_sign_90 ?_
      refine g_getR (pc := 93) X fl_X11_135 (KClt hk4 (by decide)) hk4 hr6 dX11_sign_93 ?_
      obtain ⟨q20, hr21, hf⟩ := bnd_some hf
      refine g_getR (pc := 96) X fl_X11_306 (KClt hk9 (by decide)) hk9 hr21 dX11_sign_96 ?_
      obtain ⟨r23, hq22, hf⟩ := bnd_some hf
      refine g_callVI (pc := 99) (As := [.int v1, .ref (ad q20)]) (rest := []) X mi_X1_storiesWith im_X1_storiesWith se_X1_storiesWith (KClt hk9 (by decide)) hk9 clX1 ml_X11_302 (cX1_storiesWith_ct z ad q5 v1 q20 m r23 hq22) rfl rfl (Nat.le_of_ble_eq_true rfl) ⟨rfl, rfl, by decide, by decide, Nat.le_refl _, Nat.le_refl _⟩ dX11_sign_99 ?_
      refine g_i2l (pc := 102) X dX11_sign_102 ?_
      obtain rfl := Option.some.inj hf
      exact hret _ _ dX11_sign_103
    have hf := itn hw24 hf
    have hsw : v2.toInt < 0 ∨ 2 < v2.toInt := by
      have nhw14 : ¬ v2.toInt = 0 := fun h => hw14 (Int32.toInt_inj.mp (by rw [h]; rfl))
      have nhw19 : ¬ v2.toInt = 1 := fun h => hw19 (Int32.toInt_inj.mp (by rw [h]; rfl))
      have nhw24 : ¬ v2.toInt = 2 := fun h => hw24 (Int32.toInt_inj.mp (by rw [h]; rfl))
      omega
    refine g_tblOut (pc := 19) (tgt := 104) X dX11_sign_19 hsw (by decide) ?_
    refine g_ldc2 (pc := 104) X dX11_sign_104 kl_X11_64 ?_
    obtain rfl := Option.some.inj hf
    exact hret _ _ dX11_sign_107
  · have hf := itp hc hf
    refine g_ldc2 (pc := 14) X dX11_sign_14 kl_X11_64 ?_
    obtain rfl := Option.some.inj hf
    exact hret _ _ dX11_sign_17

noncomputable def fX1_underOath_39 (v0 : Nat) (v1 : Int32) (v2 : Int32) (v3 : Int32) (m : Mem) : Option ((Int32 × Int32) ⊕ (Int32)) := lt1 (v3 + 1) (fun v3_1 => some (.inl (v2, v3_1)))
noncomputable def fX1_underOath_4b (v0 : Nat) (v1 : Int32) (v2 : Int32) (v3 : Int32) (m : Mem) : Option ((Int32 × Int32) ⊕ (Int32)) := gp (KC v0 = 1) (if (m.1 v0 5) ≤ v3 then (some (.inr (v2))) else (bnd (m.2.2 v0 0) (fun q4 => gp (KC q4 = 14) (gp (inb v3 (NC q4) = true) (if (m.1 q4 v3.toNatClampNeg) = (7 : Int32) then (fX1_underOath_39 v0 v1 v2 v3 m) else (bnd (m.2.2 v0 1) (fun q8 => gp (KC q8 = 14) (gp (inb v3 (NC q8) = true) (if v1 < (m.1 q8 v3.toNatClampNeg) then (fX1_underOath_39 v0 v1 v2 v3 m) else (lt1 (v2 ||| ((1 : Int32) <<< (v3 &&& 31))) (fun v2_12 => fX1_underOath_39 v0 v1 v2_12 v3 m)))))))))))
noncomputable def fX1_underOath_4 (v0 : Nat) (v1 : Int32) (v2 : Int32) (v3 : Int32) (m : Mem) : Option Int32 := bnd (iter (fun s => fX1_underOath_4b v0 v1 s.1 s.2 m) FU (v2, v3)) (fun e => some e)
noncomputable def fX1_underOath (v0 : Nat) (v1 : Int32) (m : Mem) : Option Int32 := lt1 ((0 : Int32)) (fun v2_14 => lt1 ((0 : Int32)) (fun v3_16 => fX1_underOath_4 v0 v1 v2_14 v3_16 m))
set_option maxHeartbeats 4000000 in
set_option maxRecDepth 100000 in
theorem cX1_underOath_ct (z : Zx) (ad : Nat → Nat) (v0 : Nat) (v1 : Int32) (m : Mem) (r : Int32) (hf : fX1_underOath v0 v1 m = some r) : CtI z wC yX1_underOath cX1_underOath 4 (some .int) (Rm 2) ad 91 [.ref (ad v0), .int v1] m m r := by
  refine ct_ofI mi_X1_underOath rfl (Nat.le_of_ble_eq_true rfl) (fun x X hret => ?_)
  refine g_lv [(0, .ref (ad v0)), (1, .int v1)] [0, 1] rfl ?_
  have hL4 : ∀ (v0 : Nat) (v1 : Int32) (v2 : Int32) (v3 : Int32), fX1_underOath_4 v0 v1 v2 v3 m = some r → G z wC x 4 0 0 ad 91 m 4 [(0, .ref (ad v0)), (1, .int v1), (2, .int v2), (3, .int v3)] [] := by
    intro v0 v1 v2 v3 hf
    unfold fX1_underOath_4 at hf
    obtain ⟨e4, hit4, hrest4⟩ := bnd_some hf
    refine iter_ok (Hd := fun (s : (Int32 × Int32)) => G z wC x 4 0 0 ad 91 m 4 [(0, .ref (ad v0)), (1, .int v1), (2, .int s.1), (3, .int s.2)] []) ?_ FU (v2, v3) hit4
    intro s ob4 hf hs4 he4
    obtain ⟨v2, v3⟩ := s
    have hf : fX1_underOath_4b v0 v1 v2 v3 m = some ob4 := hf
    have hL39 : ∀ (v2 : Int32) (v3 : Int32), fX1_underOath_39 v0 v1 v2 v3 m = some ob4 → G z wC x 4 0 0 ad 91 m 39 [(0, .ref (ad v0)), (1, .int v1), (2, .int v2), (3, .int v3)] [] := by
      intro v2 v3 hf
      unfold fX1_underOath_39 at hf
      obtain ⟨v3_1, e2, hf⟩ := lt1_some hf
      refine g_iinc (v2 := v3_1) (lv2 := [(0, .ref (ad v0)), (1, .int v1), (2, .int v2), (3, .int v3_1)]) (pc := 39) X dX1_underOath_39 3 rfl (by rw [e2]; rfl) (by decide) [1, 2, 3, 0] rfl ?_
      refine g_goto (pc := 42) (tgt := 4) X dX1_underOath_42 (by decide) ?_
      exact hs4 (v2, v3_1) (Option.some.inj hf).symm
    unfold fX1_underOath_4b at hf
    refine g_iload_n (pc := 4) X dX1_underOath_4 rfl 3 rfl ?_
    refine g_aload_n (pc := 5) X dX1_underOath_5 rfl 0 rfl ?_
    obtain ⟨hk3, hf⟩ := gp_some hf
    refine g_getI (pc := 6) X fl_X1_27 (KClt hk3 (by decide)) hk3 dX1_underOath_6 ?_
    refine g_icmp_ge (pc := 9) (tgt := 45) X dX1_underOath_9 (by decide) (fun hc => ?_) (fun hc => ?_)
    · have hf := itp hc hf
      have he4 := he4 _ (Option.some.inj hf).symm
      subst he4
      have hf : some v2 = some r := hrest4
      refine g_iload_n (pc := 45) X dX1_underOath_45 rfl 2 rfl ?_
      obtain rfl := Option.some.inj hf
      exact hret _ _ rfl dX1_underOath_46
    · have hf := itn hc hf
      refine g_aload_n (pc := 12) X dX1_underOath_12 rfl 0 rfl ?_
      obtain ⟨q4, hr5, hf⟩ := bnd_some hf
      refine g_getR (pc := 13) X fl_X1_9 (KClt hk3 (by decide)) hk3 hr5 dX1_underOath_13 ?_
      refine g_iload_n (pc := 16) X dX1_underOath_16 rfl 3 rfl ?_
      obtain ⟨hk6, hf⟩ := gp_some hf
      obtain ⟨hi7, hf⟩ := gp_some hf
      refine g_iald (pc := 17) X (KClt hk6 (by decide)) hk6 hi7 dX1_underOath_17 ?_
      refine g_bipush (v := (7 : Int32)) (pc := 18) X dX1_underOath_18 (by decide) ?_
      refine g_icmp_eq (pc := 20) (tgt := 39) X dX1_underOath_20 (by decide) (fun hc => ?_) (fun hc => ?_)
      · have hf := itp hc hf
        exact hL39 _ _ hf
      · have hf := itn hc hf
        refine g_aload_n (pc := 23) X dX1_underOath_23 rfl 0 rfl ?_
        obtain ⟨q8, hr9, hf⟩ := bnd_some hf
        refine g_getR (pc := 24) X fl_X1_15 (KClt hk3 (by decide)) hk3 hr9 dX1_underOath_24 ?_
        refine g_iload_n (pc := 27) X dX1_underOath_27 rfl 3 rfl ?_
        obtain ⟨hk10, hf⟩ := gp_some hf
        obtain ⟨hi11, hf⟩ := gp_some hf
        refine g_iald (pc := 28) X (KClt hk10 (by decide)) hk10 hi11 dX1_underOath_28 ?_
        refine g_iload_n (pc := 29) X dX1_underOath_29 rfl 1 rfl ?_
        refine g_icmp_gt (pc := 30) (tgt := 39) X dX1_underOath_30 (by decide) (fun hc => ?_) (fun hc => ?_)
        · have hf := itp hc hf
          exact hL39 _ _ hf
        · have hf := itn hc hf
          refine g_iload_n (pc := 33) X dX1_underOath_33 rfl 2 rfl ?_
          refine g_iconst (v := (1 : Int32)) (pc := 34) X dX1_underOath_34 (by decide) ?_
          refine g_iload_n (pc := 35) X dX1_underOath_35 rfl 3 rfl ?_
          refine g_ishl (pc := 36) X dX1_underOath_36 ?_
          refine g_ior (pc := 37) X dX1_underOath_37 ?_
          obtain ⟨v2_12, e13, hf⟩ := lt1_some hf
          refine g_topi e13 ?_
          refine g_istore_n (lv2 := [(0, .ref (ad v0)), (1, .int v1), (2, .int v2_12), (3, .int v3)]) (pc := 38) X dX1_underOath_38 rfl (by decide) [1, 2, 0, 3] rfl ?_
          exact hL39 _ _ hf
  unfold fX1_underOath at hf
  refine g_iconst (v := (0 : Int32)) (pc := 0) X dX1_underOath_0 (by decide) ?_
  obtain ⟨v2_14, e15, hf⟩ := lt1_some hf
  refine g_topi e15 ?_
  refine g_istore_n (lv2 := [(0, .ref (ad v0)), (1, .int v1), (2, .int v2_14)]) (pc := 1) X dX1_underOath_1 rfl (by decide) [1, 2, 0] rfl ?_
  refine g_iconst (v := (0 : Int32)) (pc := 2) X dX1_underOath_2 (by decide) ?_
  obtain ⟨v3_16, e17, hf⟩ := lt1_some hf
  refine g_topi e17 ?_
  refine g_istore_n (lv2 := [(0, .ref (ad v0)), (1, .int v1), (2, .int v2_14), (3, .int v3_16)]) (pc := 3) X dX1_underOath_3 rfl (by decide) [1, 2, 3, 0] rfl ?_
  exact hL4 _ _ _ _ hf

noncomputable def fX11_oath (v0 : Nat) (v1 : Int32) (m : Mem) : Option Int64 := gp (KC v0 = 11) (bnd (m.2.2 v0 6) (fun q2 => gp (KC q2 = 10) (if (m.1 q2 4) = 0 then (some (-9000000000000000002 : Int64)) else (bnd (fX11_isWithin v1 (0 : Int32) (9 : Int32)) (fun r6 => if r6 = 0 then (some (-9000000000000000001 : Int64)) else (bnd (m.2.2 q2 3) (fun q7 => gp (KC q7 = 1) (bnd (fX1_underOath q7 v1 m) (fun r10 => some r10.toInt64)))))))))
set_option maxHeartbeats 4000000 in
set_option maxRecDepth 100000 in
theorem cX11_oath_ct (z : Zx) (ad : Nat → Nat) (v0 : Nat) (v1 : Int32) (m : Mem) (r : Int64) (hf : fX11_oath v0 v1 m = some r) : CtL z wC yX11_oath cX11_oath 2 (some .long) (Rm 3) ad 91 [.ref (ad v0), .int v1] m m r := by
  refine ct_ofL mi_X11_oath rfl (Nat.le_of_ble_eq_true rfl) (fun x X hret => ?_)
  refine g_lv [(0, .ref (ad v0)), (1, .int v1)] [0, 1] rfl ?_
  unfold fX11_oath at hf
  refine g_aload_n (pc := 0) X dX11_oath_0 rfl 0 rfl ?_
  obtain ⟨hk1, hf⟩ := gp_some hf
  obtain ⟨q2, hr3, hf⟩ := bnd_some hf
  refine g_getR (pc := 1) X fl_X11_52 (KClt hk1 (by decide)) hk1 hr3 dX11_oath_1 ?_
  obtain ⟨hk4, hf⟩ := gp_some hf
  refine g_getI (pc := 4) X fl_X11_144 (KClt hk4 (by decide)) hk4 dX11_oath_4 ?_
  refine g_if_ne (pc := 7) (tgt := 14) X dX11_oath_7 (by decide) (fun hc => ?_) (fun hc => ?_)
  · have hf := itn hc hf
    refine g_iload_n (pc := 14) X dX11_oath_14 rfl 1 rfl ?_
    refine g_iconst (v := (0 : Int32)) (pc := 15) X dX11_oath_15 (by decide) ?_
    refine g_bipush (v := (9 : Int32)) (pc := 16) X dX11_oath_16 (by decide) ?_
    obtain ⟨r6, hq5, hf⟩ := bnd_some hf
    refine g_callSI (pc := 18) (As := [.int v1, .int (0 : Int32), .int (9 : Int32)]) (rest := []) X mi_X11_isWithin sm_X11_isWithin ml_X11_60 (cX11_isWithin_ct z ad v1 (0 : Int32) (9 : Int32) m r6 hq5) rfl rfl (Nat.le_of_ble_eq_true rfl) ⟨rfl, rfl, by decide, by decide, Nat.le_refl _, Nat.le_refl _⟩ dX11_oath_18 ?_
    refine g_if_ne (pc := 21) (tgt := 28) X dX11_oath_21 (by decide) (fun hc => ?_) (fun hc => ?_)
    · have hf := itn hc hf
      refine g_aload_n (pc := 28) X dX11_oath_28 rfl 0 rfl ?_
      refine g_getR (pc := 29) X fl_X11_52 (KClt hk1 (by decide)) hk1 hr3 dX11_oath_29 ?_
      obtain ⟨q7, hr8, hf⟩ := bnd_some hf
      refine g_getR (pc := 32) X fl_X11_135 (KClt hk4 (by decide)) hk4 hr8 dX11_oath_32 ?_
      refine g_iload_n (pc := 35) X dX11_oath_35 rfl 1 rfl ?_
      obtain ⟨hk11, hf⟩ := gp_some hf
      obtain ⟨r10, hq9, hf⟩ := bnd_some hf
      refine g_callVI (pc := 36) (As := [.int v1]) (rest := []) X mi_X1_underOath im_X1_underOath se_X1_underOath (KClt hk11 (by decide)) hk11 clX1 ml_X11_309 (cX1_underOath_ct z ad q7 v1 m r10 hq9) rfl rfl (Nat.le_of_ble_eq_true rfl) ⟨rfl, rfl, by decide, by decide, Nat.le_refl _, Nat.le_refl _⟩ dX11_oath_36 ?_
      refine g_i2l (pc := 39) X dX11_oath_39 ?_
      obtain rfl := Option.some.inj hf
      exact hret _ _ dX11_oath_40
    · have hf := itp hc hf
      refine g_ldc2 (pc := 24) X dX11_oath_24 kl_X11_64 ?_
      obtain rfl := Option.some.inj hf
      exact hret _ _ dX11_oath_27
  · have hf := itp hc hf
    refine g_ldc2 (pc := 10) X dX11_oath_10 kl_X11_148 ?_
    obtain rfl := Option.some.inj hf
    exact hret _ _ dX11_oath_13

noncomputable def fX1_inventedFor_50 (v0 : Nat) (v1 : Int32) (v2 : Int32) (v3 : Int32) (m : Mem) : Option ((Int32 × Int32) ⊕ (Int32)) := lt1 (v3 + 1) (fun v3_1 => some (.inl (v2, v3_1)))
noncomputable def fX1_inventedFor_44 (v0 : Nat) (v1 : Int32) (v2 : Int32) (v3 : Int32) (m : Mem) : Option ((Int32 × Int32) ⊕ (Int32)) := lt1 (v2 ||| ((1 : Int32) <<< (v3 &&& 31))) (fun v2_3 => fX1_inventedFor_50 v0 v1 v2_3 v3 m)
noncomputable def fX1_inventedFor_4b (v0 : Nat) (v1 : Int32) (v2 : Int32) (v3 : Int32) (m : Mem) : Option ((Int32 × Int32) ⊕ (Int32)) := gp (KC v0 = 1) (if (m.1 v0 5) ≤ v3 then (some (.inr (v2))) else (bnd (m.2.2 v0 0) (fun q6 => gp (KC q6 = 14) (gp (inb v3 (NC q6) = true) (if (m.1 q6 v3.toNatClampNeg) = (7 : Int32) then (fX1_inventedFor_44 v0 v1 v2 v3 m) else (gp (inb v3 (NC q6) = true) (if (m.1 q6 v3.toNatClampNeg) = (6 : Int32) then (bnd (m.2.2 v0 1) (fun q11 => gp (KC q11 = 14) (gp (inb v3 (NC q11) = true) (if (m.1 q11 v3.toNatClampNeg) ≤ v1 then (fX1_inventedFor_50 v0 v1 v2 v3 m) else (fX1_inventedFor_44 v0 v1 v2 v3 m))))) else (fX1_inventedFor_50 v0 v1 v2 v3 m))))))))
noncomputable def fX1_inventedFor_4 (v0 : Nat) (v1 : Int32) (v2 : Int32) (v3 : Int32) (m : Mem) : Option Int32 := bnd (iter (fun s => fX1_inventedFor_4b v0 v1 s.1 s.2 m) FU (v2, v3)) (fun e => some e)
noncomputable def fX1_inventedFor (v0 : Nat) (v1 : Int32) (m : Mem) : Option Int32 := lt1 ((0 : Int32)) (fun v2_15 => lt1 ((0 : Int32)) (fun v3_17 => fX1_inventedFor_4 v0 v1 v2_15 v3_17 m))
set_option maxHeartbeats 4000000 in
set_option maxRecDepth 100000 in
theorem cX1_inventedFor_ct (z : Zx) (ad : Nat → Nat) (v0 : Nat) (v1 : Int32) (m : Mem) (r : Int32) (hf : fX1_inventedFor v0 v1 m = some r) : CtI z wC yX1_inventedFor cX1_inventedFor 4 (some .int) (Rm 2) ad 91 [.ref (ad v0), .int v1] m m r := by
  refine ct_ofI mi_X1_inventedFor rfl (Nat.le_of_ble_eq_true rfl) (fun x X hret => ?_)
  refine g_lv [(0, .ref (ad v0)), (1, .int v1)] [0, 1] rfl ?_
  have hL4 : ∀ (v0 : Nat) (v1 : Int32) (v2 : Int32) (v3 : Int32), fX1_inventedFor_4 v0 v1 v2 v3 m = some r → G z wC x 4 0 0 ad 91 m 4 [(0, .ref (ad v0)), (1, .int v1), (2, .int v2), (3, .int v3)] [] := by
    intro v0 v1 v2 v3 hf
    unfold fX1_inventedFor_4 at hf
    obtain ⟨e4, hit4, hrest4⟩ := bnd_some hf
    refine iter_ok (Hd := fun (s : (Int32 × Int32)) => G z wC x 4 0 0 ad 91 m 4 [(0, .ref (ad v0)), (1, .int v1), (2, .int s.1), (3, .int s.2)] []) ?_ FU (v2, v3) hit4
    intro s ob4 hf hs4 he4
    obtain ⟨v2, v3⟩ := s
    have hf : fX1_inventedFor_4b v0 v1 v2 v3 m = some ob4 := hf
    have hL50 : ∀ (v2 : Int32) (v3 : Int32), fX1_inventedFor_50 v0 v1 v2 v3 m = some ob4 → G z wC x 4 0 0 ad 91 m 50 [(0, .ref (ad v0)), (1, .int v1), (2, .int v2), (3, .int v3)] [] := by
      intro v2 v3 hf
      unfold fX1_inventedFor_50 at hf
      obtain ⟨v3_1, e2, hf⟩ := lt1_some hf
      refine g_iinc (v2 := v3_1) (lv2 := [(0, .ref (ad v0)), (1, .int v1), (2, .int v2), (3, .int v3_1)]) (pc := 50) X dX1_inventedFor_50 3 rfl (by rw [e2]; rfl) (by decide) [1, 2, 3, 0] rfl ?_
      refine g_goto (pc := 53) (tgt := 4) X dX1_inventedFor_53 (by decide) ?_
      exact hs4 (v2, v3_1) (Option.some.inj hf).symm
    have hL44 : ∀ (v2 : Int32) (v3 : Int32), fX1_inventedFor_44 v0 v1 v2 v3 m = some ob4 → G z wC x 4 0 0 ad 91 m 44 [(0, .ref (ad v0)), (1, .int v1), (2, .int v2), (3, .int v3)] [] := by
      intro v2 v3 hf
      unfold fX1_inventedFor_44 at hf
      refine g_iload_n (pc := 44) X dX1_inventedFor_44 rfl 2 rfl ?_
      refine g_iconst (v := (1 : Int32)) (pc := 45) X dX1_inventedFor_45 (by decide) ?_
      refine g_iload_n (pc := 46) X dX1_inventedFor_46 rfl 3 rfl ?_
      refine g_ishl (pc := 47) X dX1_inventedFor_47 ?_
      refine g_ior (pc := 48) X dX1_inventedFor_48 ?_
      obtain ⟨v2_3, e4, hf⟩ := lt1_some hf
      refine g_topi e4 ?_
      refine g_istore_n (lv2 := [(0, .ref (ad v0)), (1, .int v1), (2, .int v2_3), (3, .int v3)]) (pc := 49) X dX1_inventedFor_49 rfl (by decide) [1, 2, 0, 3] rfl ?_
      exact hL50 _ _ hf
    unfold fX1_inventedFor_4b at hf
    refine g_iload_n (pc := 4) X dX1_inventedFor_4 rfl 3 rfl ?_
    refine g_aload_n (pc := 5) X dX1_inventedFor_5 rfl 0 rfl ?_
    obtain ⟨hk5, hf⟩ := gp_some hf
    refine g_getI (pc := 6) X fl_X1_27 (KClt hk5 (by decide)) hk5 dX1_inventedFor_6 ?_
    refine g_icmp_ge (pc := 9) (tgt := 56) X dX1_inventedFor_9 (by decide) (fun hc => ?_) (fun hc => ?_)
    · have hf := itp hc hf
      have he4 := he4 _ (Option.some.inj hf).symm
      subst he4
      have hf : some v2 = some r := hrest4
      refine g_iload_n (pc := 56) X dX1_inventedFor_56 rfl 2 rfl ?_
      obtain rfl := Option.some.inj hf
      exact hret _ _ rfl dX1_inventedFor_57
    · have hf := itn hc hf
      refine g_aload_n (pc := 12) X dX1_inventedFor_12 rfl 0 rfl ?_
      obtain ⟨q6, hr7, hf⟩ := bnd_some hf
      refine g_getR (pc := 13) X fl_X1_9 (KClt hk5 (by decide)) hk5 hr7 dX1_inventedFor_13 ?_
      refine g_iload_n (pc := 16) X dX1_inventedFor_16 rfl 3 rfl ?_
      obtain ⟨hk8, hf⟩ := gp_some hf
      obtain ⟨hi9, hf⟩ := gp_some hf
      refine g_iald (pc := 17) X (KClt hk8 (by decide)) hk8 hi9 dX1_inventedFor_17 ?_
      refine g_bipush (v := (7 : Int32)) (pc := 18) X dX1_inventedFor_18 (by decide) ?_
      refine g_icmp_eq (pc := 20) (tgt := 44) X dX1_inventedFor_20 (by decide) (fun hc => ?_) (fun hc => ?_)
      · have hf := itp hc hf
        exact hL44 _ _ hf
      · have hf := itn hc hf
        refine g_aload_n (pc := 23) X dX1_inventedFor_23 rfl 0 rfl ?_
        refine g_getR (pc := 24) X fl_X1_9 (KClt hk5 (by decide)) hk5 hr7 dX1_inventedFor_24 ?_
        refine g_iload_n (pc := 27) X dX1_inventedFor_27 rfl 3 rfl ?_
        obtain ⟨hi10, hf⟩ := gp_some hf
        refine g_iald (pc := 28) X (KClt hk8 (by decide)) hk8 hi10 dX1_inventedFor_28 ?_
        refine g_bipush (v := (6 : Int32)) (pc := 29) X dX1_inventedFor_29 (by decide) ?_
        refine g_icmp_ne (pc := 31) (tgt := 50) X dX1_inventedFor_31 (by decide) (fun hc => ?_) (fun hc => ?_)
        · have hf := itn hc hf
          exact hL50 _ _ hf
        · have hf := itp hc hf
          refine g_aload_n (pc := 34) X dX1_inventedFor_34 rfl 0 rfl ?_
          obtain ⟨q11, hr12, hf⟩ := bnd_some hf
          refine g_getR (pc := 35) X fl_X1_15 (KClt hk5 (by decide)) hk5 hr12 dX1_inventedFor_35 ?_
          refine g_iload_n (pc := 38) X dX1_inventedFor_38 rfl 3 rfl ?_
          obtain ⟨hk13, hf⟩ := gp_some hf
          obtain ⟨hi14, hf⟩ := gp_some hf
          refine g_iald (pc := 39) X (KClt hk13 (by decide)) hk13 hi14 dX1_inventedFor_39 ?_
          refine g_iload_n (pc := 40) X dX1_inventedFor_40 rfl 1 rfl ?_
          refine g_icmp_le (pc := 41) (tgt := 50) X dX1_inventedFor_41 (by decide) (fun hc => ?_) (fun hc => ?_)
          · have hf := itp hc hf
            exact hL50 _ _ hf
          · have hf := itn hc hf
            exact hL44 _ _ hf
  unfold fX1_inventedFor at hf
  refine g_iconst (v := (0 : Int32)) (pc := 0) X dX1_inventedFor_0 (by decide) ?_
  obtain ⟨v2_15, e16, hf⟩ := lt1_some hf
  refine g_topi e16 ?_
  refine g_istore_n (lv2 := [(0, .ref (ad v0)), (1, .int v1), (2, .int v2_15)]) (pc := 1) X dX1_inventedFor_1 rfl (by decide) [1, 2, 0] rfl ?_
  refine g_iconst (v := (0 : Int32)) (pc := 2) X dX1_inventedFor_2 (by decide) ?_
  obtain ⟨v3_17, e18, hf⟩ := lt1_some hf
  refine g_topi e18 ?_
  refine g_istore_n (lv2 := [(0, .ref (ad v0)), (1, .int v1), (2, .int v2_15), (3, .int v3_17)]) (pc := 3) X dX1_inventedFor_3 rfl (by decide) [1, 2, 3, 0] rfl ?_
  exact hL4 _ _ _ _ hf

noncomputable def fX11_madeUp (v0 : Nat) (v1 : Int32) (m : Mem) : Option Int64 := gp (KC v0 = 11) (bnd (m.2.2 v0 6) (fun q2 => gp (KC q2 = 10) (if (m.1 q2 4) = 0 then (some (-9000000000000000002 : Int64)) else (bnd (fX11_isWithin v1 (0 : Int32) (9 : Int32)) (fun r6 => if r6 = 0 then (some (-9000000000000000001 : Int64)) else (bnd (m.2.2 q2 3) (fun q7 => gp (KC q7 = 1) (bnd (fX1_inventedFor q7 v1 m) (fun r10 => some r10.toInt64)))))))))
set_option maxHeartbeats 4000000 in
set_option maxRecDepth 100000 in
theorem cX11_madeUp_ct (z : Zx) (ad : Nat → Nat) (v0 : Nat) (v1 : Int32) (m : Mem) (r : Int64) (hf : fX11_madeUp v0 v1 m = some r) : CtL z wC yX11_madeUp cX11_madeUp 2 (some .long) (Rm 3) ad 91 [.ref (ad v0), .int v1] m m r := by
  refine ct_ofL mi_X11_madeUp rfl (Nat.le_of_ble_eq_true rfl) (fun x X hret => ?_)
  refine g_lv [(0, .ref (ad v0)), (1, .int v1)] [0, 1] rfl ?_
  unfold fX11_madeUp at hf
  refine g_aload_n (pc := 0) X dX11_madeUp_0 rfl 0 rfl ?_
  obtain ⟨hk1, hf⟩ := gp_some hf
  obtain ⟨q2, hr3, hf⟩ := bnd_some hf
  refine g_getR (pc := 1) X fl_X11_52 (KClt hk1 (by decide)) hk1 hr3 dX11_madeUp_1 ?_
  obtain ⟨hk4, hf⟩ := gp_some hf
  refine g_getI (pc := 4) X fl_X11_144 (KClt hk4 (by decide)) hk4 dX11_madeUp_4 ?_
  refine g_if_ne (pc := 7) (tgt := 14) X dX11_madeUp_7 (by decide) (fun hc => ?_) (fun hc => ?_)
  · have hf := itn hc hf
    refine g_iload_n (pc := 14) X dX11_madeUp_14 rfl 1 rfl ?_
    refine g_iconst (v := (0 : Int32)) (pc := 15) X dX11_madeUp_15 (by decide) ?_
    refine g_bipush (v := (9 : Int32)) (pc := 16) X dX11_madeUp_16 (by decide) ?_
    obtain ⟨r6, hq5, hf⟩ := bnd_some hf
    refine g_callSI (pc := 18) (As := [.int v1, .int (0 : Int32), .int (9 : Int32)]) (rest := []) X mi_X11_isWithin sm_X11_isWithin ml_X11_60 (cX11_isWithin_ct z ad v1 (0 : Int32) (9 : Int32) m r6 hq5) rfl rfl (Nat.le_of_ble_eq_true rfl) ⟨rfl, rfl, by decide, by decide, Nat.le_refl _, Nat.le_refl _⟩ dX11_madeUp_18 ?_
    refine g_if_ne (pc := 21) (tgt := 28) X dX11_madeUp_21 (by decide) (fun hc => ?_) (fun hc => ?_)
    · have hf := itn hc hf
      refine g_aload_n (pc := 28) X dX11_madeUp_28 rfl 0 rfl ?_
      refine g_getR (pc := 29) X fl_X11_52 (KClt hk1 (by decide)) hk1 hr3 dX11_madeUp_29 ?_
      obtain ⟨q7, hr8, hf⟩ := bnd_some hf
      refine g_getR (pc := 32) X fl_X11_135 (KClt hk4 (by decide)) hk4 hr8 dX11_madeUp_32 ?_
      refine g_iload_n (pc := 35) X dX11_madeUp_35 rfl 1 rfl ?_
      obtain ⟨hk11, hf⟩ := gp_some hf
      obtain ⟨r10, hq9, hf⟩ := bnd_some hf
      refine g_callVI (pc := 36) (As := [.int v1]) (rest := []) X mi_X1_inventedFor im_X1_inventedFor se_X1_inventedFor (KClt hk11 (by decide)) hk11 clX1 ml_X11_312 (cX1_inventedFor_ct z ad q7 v1 m r10 hq9) rfl rfl (Nat.le_of_ble_eq_true rfl) ⟨rfl, rfl, by decide, by decide, Nat.le_refl _, Nat.le_refl _⟩ dX11_madeUp_36 ?_
      refine g_i2l (pc := 39) X dX11_madeUp_39 ?_
      obtain rfl := Option.some.inj hf
      exact hret _ _ dX11_madeUp_40
    · have hf := itp hc hf
      refine g_ldc2 (pc := 24) X dX11_madeUp_24 kl_X11_64 ?_
      obtain rfl := Option.some.inj hf
      exact hret _ _ dX11_madeUp_27
  · have hf := itp hc hf
    refine g_ldc2 (pc := 10) X dX11_madeUp_10 kl_X11_148 ?_
    obtain rfl := Option.some.inj hf
    exact hret _ _ dX11_madeUp_13

noncomputable def fX1_isStory (v0 : Nat) (v1 : Int32) (m : Mem) : Option Int32 := gp (KC v0 = 1) (bnd (fX11_isWithin v1 (0 : Int32) ((m.1 v0 6) - (1 : Int32))) (fun r3 => gp (zb r3 = true) (some r3)))
set_option maxHeartbeats 4000000 in
set_option maxRecDepth 100000 in
theorem cX1_isStory_ct (z : Zx) (ad : Nat → Nat) (v0 : Nat) (v1 : Int32) (m : Mem) (r : Int32) (hf : fX1_isStory v0 v1 m = some r) : CtI z wC yX1_isStory cX1_isStory 2 (some .boolean) (Rm 3) ad 91 [.ref (ad v0), .int v1] m m r := by
  refine ct_ofI mi_X1_isStory rfl (Nat.le_of_ble_eq_true rfl) (fun x X hret => ?_)
  refine g_lv [(0, .ref (ad v0)), (1, .int v1)] [0, 1] rfl ?_
  unfold fX1_isStory at hf
  refine g_iload_n (pc := 0) X dX1_isStory_0 rfl 1 rfl ?_
  refine g_iconst (v := (0 : Int32)) (pc := 1) X dX1_isStory_1 (by decide) ?_
  refine g_aload_n (pc := 2) X dX1_isStory_2 rfl 0 rfl ?_
  obtain ⟨hk1, hf⟩ := gp_some hf
  refine g_getI (pc := 3) X fl_X1_31 (KClt hk1 (by decide)) hk1 dX1_isStory_3 ?_
  refine g_iconst (v := (1 : Int32)) (pc := 6) X dX1_isStory_6 (by decide) ?_
  refine g_isub (pc := 7) X dX1_isStory_7 ?_
  obtain ⟨r3, hq2, hf⟩ := bnd_some hf
  refine g_callSNI (pc := 8) (As := [.int v1, .int (0 : Int32), .int ((m.1 v0 6) - (1 : Int32))]) (rest := []) (q := 11) X mi_X11_isWithin sm_X11_isWithin rfl (cX11_isWithin_ct z ad v1 (0 : Int32) ((m.1 v0 6) - (1 : Int32)) m r3 hq2) rfl rfl (Nat.le_of_ble_eq_true rfl) ⟨rfl, rfl, by decide, by decide, Nat.le_refl _, Nat.le_refl _⟩ dX1_isStory_8 ?_
  obtain ⟨hzr, hf⟩ := gp_some hf
  obtain rfl := Option.some.inj hf
  exact hret _ _ (zb_nar hzr) dX1_isStory_11

noncomputable def fX1_isSetOfSigns (v0 : Nat) (v1 : Int32) (m : Mem) : Option Int32 := gp (KC v0 = 1) (bnd (fX11_isWithin v1 (0 : Int32) (((1 : Int32) <<< ((m.1 v0 5) &&& 31)) - (1 : Int32))) (fun r3 => gp (zb r3 = true) (some r3)))
set_option maxHeartbeats 4000000 in
set_option maxRecDepth 100000 in
theorem cX1_isSetOfSigns_ct (z : Zx) (ad : Nat → Nat) (v0 : Nat) (v1 : Int32) (m : Mem) (r : Int32) (hf : fX1_isSetOfSigns v0 v1 m = some r) : CtI z wC yX1_isSetOfSigns cX1_isSetOfSigns 2 (some .boolean) (Rm 3) ad 91 [.ref (ad v0), .int v1] m m r := by
  refine ct_ofI mi_X1_isSetOfSigns rfl (Nat.le_of_ble_eq_true rfl) (fun x X hret => ?_)
  refine g_lv [(0, .ref (ad v0)), (1, .int v1)] [0, 1] rfl ?_
  unfold fX1_isSetOfSigns at hf
  refine g_iload_n (pc := 0) X dX1_isSetOfSigns_0 rfl 1 rfl ?_
  refine g_iconst (v := (0 : Int32)) (pc := 1) X dX1_isSetOfSigns_1 (by decide) ?_
  refine g_iconst (v := (1 : Int32)) (pc := 2) X dX1_isSetOfSigns_2 (by decide) ?_
  refine g_aload_n (pc := 3) X dX1_isSetOfSigns_3 rfl 0 rfl ?_
  obtain ⟨hk1, hf⟩ := gp_some hf
  refine g_getI (pc := 4) X fl_X1_27 (KClt hk1 (by decide)) hk1 dX1_isSetOfSigns_4 ?_
  refine g_ishl (pc := 7) X dX1_isSetOfSigns_7 ?_
  refine g_iconst (v := (1 : Int32)) (pc := 8) X dX1_isSetOfSigns_8 (by decide) ?_
  refine g_isub (pc := 9) X dX1_isSetOfSigns_9 ?_
  obtain ⟨r3, hq2, hf⟩ := bnd_some hf
  refine g_callSNI (pc := 10) (As := [.int v1, .int (0 : Int32), .int (((1 : Int32) <<< ((m.1 v0 5) &&& 31)) - (1 : Int32))]) (rest := []) (q := 11) X mi_X11_isWithin sm_X11_isWithin rfl (cX11_isWithin_ct z ad v1 (0 : Int32) (((1 : Int32) <<< ((m.1 v0 5) &&& 31)) - (1 : Int32)) m r3 hq2) rfl rfl (Nat.le_of_ble_eq_true rfl) ⟨rfl, rfl, by decide, by decide, Nat.le_refl _, Nat.le_refl _⟩ dX1_isSetOfSigns_10 ?_
  obtain ⟨hzr, hf⟩ := gp_some hf
  obtain rfl := Option.some.inj hf
  exact hret _ _ (zb_nar hzr) dX1_isSetOfSigns_13

noncomputable def fX1_weight_106 (v0 : Nat) (v1 : Int32) (v2 : Int32) (v3 : Int64) (v5 : Int32) (m : Mem) : Option ((Int64 × Int32) ⊕ (Int64)) := lt1 (v5 + 1) (fun v5_1 => some (.inl (v3, v5_1)))
noncomputable def fX1_weight_104 (v0 : Nat) (v1 : Int32) (v2 : Int32) (v5 : Int32) (s0 : Int64) (s1 : Int64) (m : Mem) : Option ((Int64 × Int32) ⊕ (Int64)) := lt1 (s0 * s1) (fun v3_3 => fX1_weight_106 v0 v1 v2 v3_3 v5 m)
noncomputable def fX1_weight_65 (v0 : Nat) (v1 : Int32) (v2 : Int32) (v5 : Int32) (s0 : Int64) (s1 : Int64) (m : Mem) : Option ((Int64 × Int32) ⊕ (Int64)) := lt1 (s0 * s1) (fun v3_5 => fX1_weight_106 v0 v1 v2 v3_5 v5 m)
noncomputable def fX1_weight_21b (v0 : Nat) (v1 : Int32) (v2 : Int32) (v3 : Int64) (v5 : Int32) (m : Mem) : Option ((Int64 × Int32) ⊕ (Int64)) := gp (KC v0 = 1) (if (m.1 v0 5) ≤ v5 then (some (.inr (v3))) else (bnd (m.2.2 v0 2) (fun q8 => gp (KC q8 = 14) (gp (inb v1 (NC q8) = true) (bnd (fX11_isIn v5 (m.1 q8 v1.toNatClampNeg)) (fun r13 => bnd (fX11_isIn v5 v2) (fun r15 => if r15 = 0 then (if r13 = 0 then (fX1_weight_65 v0 v1 v2 v5 v3 (2 : Int64) m) else (fX1_weight_65 v0 v1 v2 v5 v3 (1 : Int64) m)) else (bnd (m.2.2 v0 3) (fun q16 => gp (KC q16 = 14) (gp (inb v1 (NC q16) = true) (bnd (fX11_isIn v5 (m.1 q16 v1.toNatClampNeg)) (fun r21 => if r21 = 0 then (if r13 = 0 then (fX1_weight_104 v0 v1 v2 v5 v3 (2 : Int64) m) else (fX1_weight_104 v0 v1 v2 v5 v3 (4 : Int64) m)) else (lt1 ((0 : Int64)) (fun v3_22 => fX1_weight_106 v0 v1 v2 v3_22 v5 m))))))))))))))
noncomputable def fX1_weight_21 (v0 : Nat) (v1 : Int32) (v2 : Int32) (v3 : Int64) (v5 : Int32) (m : Mem) : Option Int64 := bnd (iter (fun s => fX1_weight_21b v0 v1 v2 s.1 s.2 m) FU (v3, v5)) (fun e => some e)
noncomputable def fX1_weight (v0 : Nat) (v1 : Int32) (v2 : Int32) (m : Mem) : Option Int64 := gp (KC v0 = 1) (bnd (fX1_isStory v0 v1 m) (fun r25 => if r25 = 0 then (some (0 : Int64)) else (bnd (m.2.2 v0 4) (fun q27 => gp (KC q27 = 14) (gp (inb v1 (NC q27) = true) (lt1 ((m.1 q27 v1.toNatClampNeg).toInt64) (fun v3_31 => lt1 ((0 : Int32)) (fun v5_33 => fX1_weight_21 v0 v1 v2 v3_31 v5_33 m))))))))
set_option maxHeartbeats 4000000 in
set_option maxRecDepth 100000 in
theorem cX1_weight_ct (z : Zx) (ad : Nat → Nat) (v0 : Nat) (v1 : Int32) (v2 : Int32) (m : Mem) (r : Int64) (hf : fX1_weight v0 v1 v2 m = some r) : CtL z wC yX1_weight cX1_weight 7 (some .long) (Rm 4) ad 91 [.ref (ad v0), .int v1, .int v2] m m r := by
  refine ct_ofL mi_X1_weight rfl (Nat.le_of_ble_eq_true rfl) (fun x X hret => ?_)
  refine g_lv [(0, .ref (ad v0)), (1, .int v1), (2, .int v2)] [0, 1, 2] rfl ?_
  have hL21 : ∀ (v0 : Nat) (v1 : Int32) (v2 : Int32) (v3 : Int64) (v5 : Int32), fX1_weight_21 v0 v1 v2 v3 v5 m = some r → G z wC x 7 0 0 ad 91 m 21 [(0, .ref (ad v0)), (1, .int v1), (2, .int v2), (3, .long v3), (5, .int v5)] [] := by
    intro v0 v1 v2 v3 v5 hf
    unfold fX1_weight_21 at hf
    obtain ⟨e21, hit21, hrest21⟩ := bnd_some hf
    refine iter_ok (Hd := fun (s : (Int64 × Int32)) => G z wC x 7 0 0 ad 91 m 21 [(0, .ref (ad v0)), (1, .int v1), (2, .int v2), (3, .long s.1), (5, .int s.2)] []) ?_ FU (v3, v5) hit21
    intro s ob21 hf hs21 he21
    obtain ⟨v3, v5⟩ := s
    have hf : fX1_weight_21b v0 v1 v2 v3 v5 m = some ob21 := hf
    have hL106 : ∀ (v3 : Int64) (v5 : Int32), fX1_weight_106 v0 v1 v2 v3 v5 m = some ob21 → G z wC x 7 0 0 ad 91 m 106 [(0, .ref (ad v0)), (1, .int v1), (2, .int v2), (3, .long v3), (5, .int v5)] [] := by
      intro v3 v5 hf
      unfold fX1_weight_106 at hf
      obtain ⟨v5_1, e2, hf⟩ := lt1_some hf
      refine g_iinc (v2 := v5_1) (lv2 := [(0, .ref (ad v0)), (1, .int v1), (2, .int v2), (3, .long v3), (5, .int v5_1)]) (pc := 106) X dX1_weight_106 4 rfl (by rw [e2]; rfl) (by decide) [1, 2, 3, 4, 0] rfl ?_
      refine g_goto (pc := 109) (tgt := 21) X dX1_weight_109 (by decide) ?_
      exact hs21 (v3, v5_1) (Option.some.inj hf).symm
    have hL104 : ∀ (v5 : Int32) (s0 : Int64) (s1 : Int64), fX1_weight_104 v0 v1 v2 v5 s0 s1 m = some ob21 → G z wC x 7 0 0 ad 91 m 104 [(0, .ref (ad v0)), (1, .int v1), (2, .int v2), (5, .int v5)] [.long s1, .long s0] := by
      intro v5 s0 s1 hf
      unfold fX1_weight_104 at hf
      refine g_lmul (pc := 104) X dX1_weight_104 ?_
      obtain ⟨v3_3, e4, hf⟩ := lt1_some hf
      refine g_topl e4 ?_
      refine g_lstore_n (lv2 := [(0, .ref (ad v0)), (1, .int v1), (2, .int v2), (3, .long v3_3), (5, .int v5)]) (pc := 105) X dX1_weight_105 rfl (by decide) [1, 2, 3, 0, 4] rfl ?_
      exact hL106 _ _ hf
    have hL65 : ∀ (v5 : Int32) (s0 : Int64) (s1 : Int64), fX1_weight_65 v0 v1 v2 v5 s0 s1 m = some ob21 → G z wC x 7 0 0 ad 91 m 65 [(0, .ref (ad v0)), (1, .int v1), (2, .int v2), (5, .int v5)] [.long s1, .long s0] := by
      intro v5 s0 s1 hf
      unfold fX1_weight_65 at hf
      refine g_lmul (pc := 65) X dX1_weight_65 ?_
      obtain ⟨v3_5, e6, hf⟩ := lt1_some hf
      refine g_topl e6 ?_
      refine g_lstore_n (lv2 := [(0, .ref (ad v0)), (1, .int v1), (2, .int v2), (3, .long v3_5), (5, .int v5)]) (pc := 66) X dX1_weight_66 rfl (by decide) [1, 2, 3, 0, 4] rfl ?_
      refine g_goto (pc := 67) (tgt := 106) X dX1_weight_67 (by decide) ?_
      exact hL106 _ _ hf
    unfold fX1_weight_21b at hf
    refine g_iload (pc := 21) X dX1_weight_21 4 rfl ?_
    refine g_aload_n (pc := 23) X dX1_weight_23 rfl 0 rfl ?_
    obtain ⟨hk7, hf⟩ := gp_some hf
    refine g_getI (pc := 24) X fl_X1_27 (KClt hk7 (by decide)) hk7 dX1_weight_24 ?_
    refine g_icmp_ge (pc := 27) (tgt := 112) X dX1_weight_27 (by decide) (fun hc => ?_) (fun hc => ?_)
    · have hf := itp hc hf
      have he21 := he21 _ (Option.some.inj hf).symm
      subst he21
      have hf : some v3 = some r := hrest21
      refine g_lload_n (pc := 112) X dX1_weight_112 rfl 3 rfl ?_
      obtain rfl := Option.some.inj hf
      exact hret _ _ dX1_weight_113
    · have hf := itn hc hf
      refine g_iload (pc := 30) X dX1_weight_30 4 rfl ?_
      refine g_aload_n (pc := 32) X dX1_weight_32 rfl 0 rfl ?_
      obtain ⟨q8, hr9, hf⟩ := bnd_some hf
      refine g_getR (pc := 33) X fl_X1_18 (KClt hk7 (by decide)) hk7 hr9 dX1_weight_33 ?_
      refine g_iload_n (pc := 36) X dX1_weight_36 rfl 1 rfl ?_
      obtain ⟨hk10, hf⟩ := gp_some hf
      obtain ⟨hi11, hf⟩ := gp_some hf
      refine g_iald (pc := 37) X (KClt hk10 (by decide)) hk10 hi11 dX1_weight_37 ?_
      obtain ⟨r13, hq12, hf⟩ := bnd_some hf
      refine g_callSNI (pc := 38) (As := [.int v5, .int (m.1 q8 v1.toNatClampNeg)]) (rest := []) (q := 15) X mi_X11_isIn sm_X11_isIn rfl (cX11_isIn_ct z ad v5 (m.1 q8 v1.toNatClampNeg) m r13 hq12) rfl rfl (Nat.le_of_ble_eq_true rfl) ⟨rfl, rfl, by decide, by decide, Nat.le_refl _, Nat.le_refl _⟩ dX1_weight_38 ?_
      refine g_istore (lv2 := [(0, .ref (ad v0)), (1, .int v1), (2, .int v2), (3, .long v3), (5, .int v5), (6, .int r13)]) (pc := 41) X dX1_weight_41 (by decide) [1, 2, 3, 4, 5, 0] rfl ?_
      refine g_iload (pc := 43) X dX1_weight_43 4 rfl ?_
      refine g_iload_n (pc := 45) X dX1_weight_45 rfl 2 rfl ?_
      obtain ⟨r15, hq14, hf⟩ := bnd_some hf
      refine g_callSNI (pc := 46) (As := [.int v5, .int v2]) (rest := []) (q := 15) X mi_X11_isIn sm_X11_isIn rfl (cX11_isIn_ct z ad v5 v2 m r15 hq14) rfl rfl (Nat.le_of_ble_eq_true rfl) ⟨rfl, rfl, by decide, by decide, Nat.le_refl _, Nat.le_refl _⟩ dX1_weight_46 ?_
      refine g_if_ne (pc := 49) (tgt := 70) X dX1_weight_49 (by decide) (fun hc => ?_) (fun hc => ?_)
      · have hf := itn hc hf
        refine g_iload (pc := 70) X dX1_weight_70 4 rfl ?_
        refine g_aload_n (pc := 72) X dX1_weight_72 rfl 0 rfl ?_
        obtain ⟨q16, hr17, hf⟩ := bnd_some hf
        refine g_getR (pc := 73) X fl_X1_21 (KClt hk7 (by decide)) hk7 hr17 dX1_weight_73 ?_
        refine g_iload_n (pc := 76) X dX1_weight_76 rfl 1 rfl ?_
        obtain ⟨hk18, hf⟩ := gp_some hf
        obtain ⟨hi19, hf⟩ := gp_some hf
        refine g_iald (pc := 77) X (KClt hk18 (by decide)) hk18 hi19 dX1_weight_77 ?_
        obtain ⟨r21, hq20, hf⟩ := bnd_some hf
        refine g_callSNI (pc := 78) (As := [.int v5, .int (m.1 q16 v1.toNatClampNeg)]) (rest := []) (q := 15) X mi_X11_isIn sm_X11_isIn rfl (cX11_isIn_ct z ad v5 (m.1 q16 v1.toNatClampNeg) m r21 hq20) rfl rfl (Nat.le_of_ble_eq_true rfl) ⟨rfl, rfl, by decide, by decide, Nat.le_refl _, Nat.le_refl _⟩ dX1_weight_78 ?_
        refine g_if_eq (pc := 81) (tgt := 89) X dX1_weight_81 (by decide) (fun hc => ?_) (fun hc => ?_)
        · have hf := itp hc hf
          refine g_lload_n (pc := 89) X dX1_weight_89 rfl 3 rfl ?_
          refine g_iload (pc := 90) X dX1_weight_90 5 rfl ?_
          refine g_if_eq (pc := 92) (tgt := 101) X dX1_weight_92 (by decide) (fun hc => ?_) (fun hc => ?_)
          · have hf := itp hc hf
            refine g_ldc2 (pc := 101) X dX1_weight_101 kl_X1_55 ?_
            refine g_lv [(0, .ref (ad v0)), (1, .int v1), (2, .int v2), (5, .int v5)] [0, 1, 2, 4] rfl ?_
            exact hL104 _ _ _ hf
          · have hf := itn hc hf
            refine g_ldc2 (pc := 95) X dX1_weight_95 kl_X1_57 ?_
            refine g_goto (pc := 98) (tgt := 104) X dX1_weight_98 (by decide) ?_
            refine g_lv [(0, .ref (ad v0)), (1, .int v1), (2, .int v2), (5, .int v5)] [0, 1, 2, 4] rfl ?_
            exact hL104 _ _ _ hf
        · have hf := itn hc hf
          refine g_lconst (v := (0 : Int64)) (pc := 84) X dX1_weight_84 (by decide) ?_
          obtain ⟨v3_22, e23, hf⟩ := lt1_some hf
          refine g_topl e23 ?_
          refine g_lstore_n (lv2 := [(0, .ref (ad v0)), (1, .int v1), (2, .int v2), (3, .long v3_22), (5, .int v5), (6, .int r13)]) (pc := 85) X dX1_weight_85 rfl (by decide) [1, 2, 3, 0, 4, 5] rfl ?_
          refine g_goto (pc := 86) (tgt := 106) X dX1_weight_86 (by decide) ?_
          refine g_lv [(0, .ref (ad v0)), (1, .int v1), (2, .int v2), (3, .long v3_22), (5, .int v5)] [0, 1, 2, 3, 4] rfl ?_
          exact hL106 _ _ hf
      · have hf := itp hc hf
        refine g_lload_n (pc := 52) X dX1_weight_52 rfl 3 rfl ?_
        refine g_iload (pc := 53) X dX1_weight_53 5 rfl ?_
        refine g_if_eq (pc := 55) (tgt := 62) X dX1_weight_55 (by decide) (fun hc => ?_) (fun hc => ?_)
        · have hf := itp hc hf
          refine g_ldc2 (pc := 62) X dX1_weight_62 kl_X1_55 ?_
          refine g_lv [(0, .ref (ad v0)), (1, .int v1), (2, .int v2), (5, .int v5)] [0, 1, 2, 4] rfl ?_
          exact hL65 _ _ _ hf
        · have hf := itn hc hf
          refine g_lconst (v := (1 : Int64)) (pc := 58) X dX1_weight_58 (by decide) ?_
          refine g_goto (pc := 59) (tgt := 65) X dX1_weight_59 (by decide) ?_
          refine g_lv [(0, .ref (ad v0)), (1, .int v1), (2, .int v2), (5, .int v5)] [0, 1, 2, 4] rfl ?_
          exact hL65 _ _ _ hf
  unfold fX1_weight at hf
  refine g_aload_n (pc := 0) X dX1_weight_0 rfl 0 rfl ?_
  refine g_iload_n (pc := 1) X dX1_weight_1 rfl 1 rfl ?_
  obtain ⟨hk26, hf⟩ := gp_some hf
  obtain ⟨r25, hq24, hf⟩ := bnd_some hf
  refine g_callVI (pc := 2) (As := [.int v1]) (rest := []) X mi_X1_isStory im_X1_isStory se_X1_isStory (KClt hk26 (by decide)) hk26 clX1 ml_X1_52 (cX1_isStory_ct z ad v0 v1 m r25 hq24) rfl rfl (Nat.le_of_ble_eq_true rfl) ⟨rfl, rfl, by decide, by decide, Nat.le_refl _, Nat.le_refl _⟩ dX1_weight_2 ?_
  refine g_if_ne (pc := 5) (tgt := 10) X dX1_weight_5 (by decide) (fun hc => ?_) (fun hc => ?_)
  · have hf := itn hc hf
    refine g_aload_n (pc := 10) X dX1_weight_10 rfl 0 rfl ?_
    obtain ⟨q27, hr28, hf⟩ := bnd_some hf
    refine g_getR (pc := 11) X fl_X1_24 (KClt hk26 (by decide)) hk26 hr28 dX1_weight_11 ?_
    refine g_iload_n (pc := 14) X dX1_weight_14 rfl 1 rfl ?_
    obtain ⟨hk29, hf⟩ := gp_some hf
    obtain ⟨hi30, hf⟩ := gp_some hf
    refine g_iald (pc := 15) X (KClt hk29 (by decide)) hk29 hi30 dX1_weight_15 ?_
    refine g_i2l (pc := 16) X dX1_weight_16 ?_
    obtain ⟨v3_31, e32, hf⟩ := lt1_some hf
    refine g_topl e32 ?_
    refine g_lstore_n (lv2 := [(0, .ref (ad v0)), (1, .int v1), (2, .int v2), (3, .long v3_31)]) (pc := 17) X dX1_weight_17 rfl (by decide) [1, 2, 3, 0] rfl ?_
    refine g_iconst (v := (0 : Int32)) (pc := 18) X dX1_weight_18 (by decide) ?_
    obtain ⟨v5_33, e34, hf⟩ := lt1_some hf
    refine g_topi e34 ?_
    refine g_istore (lv2 := [(0, .ref (ad v0)), (1, .int v1), (2, .int v2), (3, .long v3_31), (5, .int v5_33)]) (pc := 19) X dX1_weight_19 (by decide) [1, 2, 3, 4, 0] rfl ?_
    exact hL21 _ _ _ _ _ hf
  · have hf := itp hc hf
    refine g_lconst (v := (0 : Int64)) (pc := 8) X dX1_weight_8 (by decide) ?_
    obtain rfl := Option.some.inj hf
    exact hret _ _ dX1_weight_9

noncomputable def fX11_odds_75 (v1 : Int32) (v2 : Int32) (v3 : Int32) (v4 : Nat) (v5 : Int64) (m : Mem) : Option Int64 := gp (KC v4 = 1) (bnd (fX1_weight v4 v1 v2 m) (fun r2 => bnd (fX11_partOfFraction r2 v5 v3) (fun r5 => some r5)))
noncomputable def fX11_odds_46b (v1 : Int32) (v2 : Int32) (v3 : Int32) (v4 : Nat) (v5 : Int64) (v7 : Int32) (m : Mem) : Option ((Int64 × Int32) ⊕ (Int64)) := gp (KC v4 = 1) (if (m.1 v4 6) ≤ v7 then (some (.inr (v5))) else (bnd (fX1_weight v4 v7 v2 m) (fun r8 => lt1 (v5 + r8) (fun v5_9 => lt1 (v7 + 1) (fun v7_11 => some (.inl (v5_9, v7_11)))))))
noncomputable def fX11_odds_46 (v1 : Int32) (v2 : Int32) (v3 : Int32) (v4 : Nat) (v5 : Int64) (v7 : Int32) (m : Mem) : Option Int64 := bnd (iter (fun s => fX11_odds_46b v1 v2 v3 v4 s.1 s.2 m) FU (v5, v7)) (fun e => fX11_odds_75 v1 v2 v3 v4 e m)
noncomputable def fX11_odds (v0 : Nat) (v1 : Int32) (v2 : Int32) (v3 : Int32) (m : Mem) : Option Int64 := gp (KC v0 = 11) (bnd (m.2.2 v0 6) (fun q14 => gp (KC q14 = 10) (bnd (m.2.2 q14 3) (fun q17 => gp (KC q17 = 1) (bnd (fX1_isStory q17 v1 m) (fun r20 => if r20 = 0 then (some (-9000000000000000001 : Int64)) else (bnd (fX1_isSetOfSigns q17 v2 m) (fun r23 => if r23 = 0 then (some (-9000000000000000001 : Int64)) else (bnd (fX11_isWithin v3 (0 : Int32) (1 : Int32)) (fun r25 => if r25 = 0 then (some (-9000000000000000001 : Int64)) else (lt1 ((0 : Int64)) (fun v5_26 => lt1 ((0 : Int32)) (fun v7_28 => fX11_odds_46 v1 v2 v3 q17 v5_26 v7_28 m)))))))))))))
set_option maxHeartbeats 4000000 in
set_option maxRecDepth 100000 in
theorem cX11_odds_ct (z : Zx) (ad : Nat → Nat) (v0 : Nat) (v1 : Int32) (v2 : Int32) (v3 : Int32) (m : Mem) (r : Int64) (hf : fX11_odds v0 v1 v2 v3 m = some r) : CtL z wC yX11_odds cX11_odds 8 (some .long) (Rm 5) ad 91 [.ref (ad v0), .int v1, .int v2, .int v3] m m r := by
  refine ct_ofL mi_X11_odds rfl (Nat.le_of_ble_eq_true rfl) (fun x X hret => ?_)
  refine g_lv [(0, .ref (ad v0)), (1, .int v1), (2, .int v2), (3, .int v3)] [0, 1, 2, 3] rfl ?_
  have hL75 : ∀ (v1 : Int32) (v2 : Int32) (v3 : Int32) (v4 : Nat) (v5 : Int64), fX11_odds_75 v1 v2 v3 v4 v5 m = some r → G z wC x 8 0 0 ad 91 m 75 [(1, .int v1), (2, .int v2), (3, .int v3), (4, .ref (ad v4)), (5, .long v5)] [] := by
    intro v1 v2 v3 v4 v5 hf
    unfold fX11_odds_75 at hf
    refine g_aload (pc := 75) X dX11_odds_75 3 rfl ?_
    refine g_iload_n (pc := 77) X dX11_odds_77 rfl 0 rfl ?_
    refine g_iload_n (pc := 78) X dX11_odds_78 rfl 1 rfl ?_
    obtain ⟨hk3, hf⟩ := gp_some hf
    obtain ⟨r2, hq1, hf⟩ := bnd_some hf
    refine g_callVL (pc := 79) (As := [.int v1, .int v2]) (rest := []) X mi_X1_weight im_X1_weight se_X1_weight (KClt hk3 (by decide)) hk3 clX1 ml_X11_321 (cX1_weight_ct z ad v4 v1 v2 m r2 hq1) rfl rfl (Nat.le_of_ble_eq_true rfl) ⟨rfl, rfl, by decide, by decide, Nat.le_refl _, Nat.le_refl _⟩ dX11_odds_79 ?_
    refine g_lload (pc := 82) X dX11_odds_82 4 rfl ?_
    refine g_iload_n (pc := 84) X dX11_odds_84 rfl 2 rfl ?_
    obtain ⟨r5, hq4, hf⟩ := bnd_some hf
    refine g_callSL (pc := 85) (As := [.long r2, .long v5, .int v3]) (rest := []) X mi_X11_partOfFraction sm_X11_partOfFraction ml_X11_239 (cX11_partOfFraction_ct z ad r2 v5 v3 m r5 hq4) rfl rfl (Nat.le_of_ble_eq_true rfl) ⟨rfl, rfl, by decide, by decide, Nat.le_refl _, Nat.le_refl _⟩ dX11_odds_85 ?_
    obtain rfl := Option.some.inj hf
    exact hret _ _ dX11_odds_88
  have hL46 : ∀ (v1 : Int32) (v2 : Int32) (v3 : Int32) (v4 : Nat) (v5 : Int64) (v7 : Int32), fX11_odds_46 v1 v2 v3 v4 v5 v7 m = some r → G z wC x 8 0 0 ad 91 m 46 [(1, .int v1), (2, .int v2), (3, .int v3), (4, .ref (ad v4)), (5, .long v5), (7, .int v7)] [] := by
    intro v1 v2 v3 v4 v5 v7 hf
    unfold fX11_odds_46 at hf
    obtain ⟨e46, hit46, hrest46⟩ := bnd_some hf
    refine iter_ok (Hd := fun (s : (Int64 × Int32)) => G z wC x 8 0 0 ad 91 m 46 [(1, .int v1), (2, .int v2), (3, .int v3), (4, .ref (ad v4)), (5, .long s.1), (7, .int s.2)] []) ?_ FU (v5, v7) hit46
    intro s ob46 hf hs46 he46
    obtain ⟨v5, v7⟩ := s
    have hf : fX11_odds_46b v1 v2 v3 v4 v5 v7 m = some ob46 := hf
    unfold fX11_odds_46b at hf
    refine g_iload (pc := 46) X dX11_odds_46 5 rfl ?_
    refine g_aload (pc := 48) X dX11_odds_48 3 rfl ?_
    obtain ⟨hk6, hf⟩ := gp_some hf
    refine g_getI (pc := 50) X fl_X11_139 (KClt hk6 (by decide)) hk6 dX11_odds_50 ?_
    refine g_icmp_ge (pc := 53) (tgt := 75) X dX11_odds_53 (by decide) (fun hc => ?_) (fun hc => ?_)
    · have hf := itp hc hf
      have he46 := he46 _ (Option.some.inj hf).symm
      subst he46
      have hf : fX11_odds_75 v1 v2 v3 v4 v5 m = some r := hrest46
      refine g_lv [(1, .int v1), (2, .int v2), (3, .int v3), (4, .ref (ad v4)), (5, .long v5)] [0, 1, 2, 3, 4] rfl ?_
      exact hL75 _ _ _ _ _ hf
    · have hf := itn hc hf
      refine g_lload (pc := 56) X dX11_odds_56 4 rfl ?_
      refine g_aload (pc := 58) X dX11_odds_58 3 rfl ?_
      refine g_iload (pc := 60) X dX11_odds_60 5 rfl ?_
      refine g_iload_n (pc := 62) X dX11_odds_62 rfl 1 rfl ?_
      obtain ⟨r8, hq7, hf⟩ := bnd_some hf
      refine g_callVL (pc := 63) (As := [.int v7, .int v2]) (rest := [.long v5]) X mi_X1_weight im_X1_weight se_X1_weight (KClt hk6 (by decide)) hk6 clX1 ml_X11_321 (cX1_weight_ct z ad v4 v7 v2 m r8 hq7) rfl rfl (Nat.le_of_ble_eq_true rfl) ⟨rfl, rfl, by decide, by decide, Nat.le_refl _, Nat.le_refl _⟩ dX11_odds_63 ?_
      refine g_ladd (pc := 66) X dX11_odds_66 ?_
      obtain ⟨v5_9, e10, hf⟩ := lt1_some hf
      refine g_topl e10 ?_
      refine g_lstore (lv2 := [(1, .int v1), (2, .int v2), (3, .int v3), (4, .ref (ad v4)), (5, .long v5_9), (7, .int v7)]) (pc := 67) X dX11_odds_67 (by decide) [1, 2, 3, 4, 0, 5] rfl ?_
      obtain ⟨v7_11, e12, hf⟩ := lt1_some hf
      refine g_iinc (v2 := v7_11) (lv2 := [(1, .int v1), (2, .int v2), (3, .int v3), (4, .ref (ad v4)), (5, .long v5_9), (7, .int v7_11)]) (pc := 69) X dX11_odds_69 5 rfl (by rw [e12]; rfl) (by decide) [1, 2, 3, 4, 5, 0] rfl ?_
      refine g_goto (pc := 72) (tgt := 46) X dX11_odds_72 (by decide) ?_
      exact hs46 (v5_9, v7_11) (Option.some.inj hf).symm
  unfold fX11_odds at hf
  refine g_aload_n (pc := 0) X dX11_odds_0 rfl 0 rfl ?_
  obtain ⟨hk13, hf⟩ := gp_some hf
  obtain ⟨q14, hr15, hf⟩ := bnd_some hf
  refine g_getR (pc := 1) X fl_X11_52 (KClt hk13 (by decide)) hk13 hr15 dX11_odds_1 ?_
  obtain ⟨hk16, hf⟩ := gp_some hf
  obtain ⟨q17, hr18, hf⟩ := bnd_some hf
  refine g_getR (pc := 4) X fl_X11_135 (KClt hk16 (by decide)) hk16 hr18 dX11_odds_4 ?_
  refine g_astore (lv2 := [(0, .ref (ad v0)), (1, .int v1), (2, .int v2), (3, .int v3), (4, .ref (ad q17))]) (pc := 7) X dX11_odds_7 (by decide) [1, 2, 3, 4, 0] rfl ?_
  refine g_aload (pc := 9) X dX11_odds_9 4 rfl ?_
  refine g_iload_n (pc := 11) X dX11_odds_11 rfl 1 rfl ?_
  obtain ⟨hk21, hf⟩ := gp_some hf
  obtain ⟨r20, hq19, hf⟩ := bnd_some hf
  refine g_callVI (pc := 12) (As := [.int v1]) (rest := []) X mi_X1_isStory im_X1_isStory se_X1_isStory (KClt hk21 (by decide)) hk21 clX1 ml_X11_315 (cX1_isStory_ct z ad q17 v1 m r20 hq19) rfl rfl (Nat.le_of_ble_eq_true rfl) ⟨rfl, rfl, by decide, by decide, Nat.le_refl _, Nat.le_refl _⟩ dX11_odds_12 ?_
  refine g_if_eq (pc := 15) (tgt := 36) X dX11_odds_15 (by decide) (fun hc => ?_) (fun hc => ?_)
  · have hf := itp hc hf
    refine g_ldc2 (pc := 36) X dX11_odds_36 kl_X11_64 ?_
    obtain rfl := Option.some.inj hf
    exact hret _ _ dX11_odds_39
  · have hf := itn hc hf
    refine g_aload (pc := 18) X dX11_odds_18 4 rfl ?_
    refine g_iload_n (pc := 20) X dX11_odds_20 rfl 2 rfl ?_
    obtain ⟨r23, hq22, hf⟩ := bnd_some hf
    refine g_callVI (pc := 21) (As := [.int v2]) (rest := []) X mi_X1_isSetOfSigns im_X1_isSetOfSigns se_X1_isSetOfSigns (KClt hk21 (by decide)) hk21 clX1 ml_X11_318 (cX1_isSetOfSigns_ct z ad q17 v2 m r23 hq22) rfl rfl (Nat.le_of_ble_eq_true rfl) ⟨rfl, rfl, by decide, by decide, Nat.le_refl _, Nat.le_refl _⟩ dX11_odds_21 ?_
    refine g_if_eq (pc := 24) (tgt := 36) X dX11_odds_24 (by decide) (fun hc => ?_) (fun hc => ?_)
    · have hf := itp hc hf
      refine g_ldc2 (pc := 36) X dX11_odds_36 kl_X11_64 ?_
      obtain rfl := Option.some.inj hf
      exact hret _ _ dX11_odds_39
    · have hf := itn hc hf
      refine g_iload_n (pc := 27) X dX11_odds_27 rfl 3 rfl ?_
      refine g_iconst (v := (0 : Int32)) (pc := 28) X dX11_odds_28 (by decide) ?_
      refine g_iconst (v := (1 : Int32)) (pc := 29) X dX11_odds_29 (by decide) ?_
      obtain ⟨r25, hq24, hf⟩ := bnd_some hf
      refine g_callSI (pc := 30) (As := [.int v3, .int (0 : Int32), .int (1 : Int32)]) (rest := []) X mi_X11_isWithin sm_X11_isWithin ml_X11_60 (cX11_isWithin_ct z ad v3 (0 : Int32) (1 : Int32) m r25 hq24) rfl rfl (Nat.le_of_ble_eq_true rfl) ⟨rfl, rfl, by decide, by decide, Nat.le_refl _, Nat.le_refl _⟩ dX11_odds_30 ?_
      refine g_if_ne (pc := 33) (tgt := 40) X dX11_odds_33 (by decide) (fun hc => ?_) (fun hc => ?_)
      · have hf := itn hc hf
        refine g_lconst (v := (0 : Int64)) (pc := 40) X dX11_odds_40 (by decide) ?_
        obtain ⟨v5_26, e27, hf⟩ := lt1_some hf
        refine g_topl e27 ?_
        refine g_lstore (lv2 := [(0, .ref (ad v0)), (1, .int v1), (2, .int v2), (3, .int v3), (4, .ref (ad q17)), (5, .long v5_26)]) (pc := 41) X dX11_odds_41 (by decide) [1, 2, 3, 4, 5, 0] rfl ?_
        refine g_iconst (v := (0 : Int32)) (pc := 43) X dX11_odds_43 (by decide) ?_
        obtain ⟨v7_28, e29, hf⟩ := lt1_some hf
        refine g_topi e29 ?_
        refine g_istore (lv2 := [(0, .ref (ad v0)), (1, .int v1), (2, .int v2), (3, .int v3), (4, .ref (ad q17)), (5, .long v5_26), (7, .int v7_28)]) (pc := 44) X dX11_odds_44 (by decide) [1, 2, 3, 4, 5, 6, 0] rfl ?_
        refine g_lv [(1, .int v1), (2, .int v2), (3, .int v3), (4, .ref (ad q17)), (5, .long v5_26), (7, .int v7_28)] [1, 2, 3, 4, 5, 6] rfl ?_
        exact hL46 _ _ _ _ _ _ hf
      · have hf := itp hc hf
        refine g_ldc2 (pc := 36) X dX11_odds_36 kl_X11_64 ?_
        obtain rfl := Option.some.inj hf
        exact hret _ _ dX11_odds_39

noncomputable def fX1_likeliestStory_39 (v0 : Nat) (v1 : Int32) (v2 : Int32) (v3 : Int64) (v5 : Int32) (m : Mem) : Option ((Int32 × Int64 × Int32) ⊕ (Int32)) := lt1 (v5 + 1) (fun v5_1 => some (.inl (v2, v3, v5_1)))
noncomputable def fX1_likeliestStory_8b (v0 : Nat) (v1 : Int32) (v2 : Int32) (v3 : Int64) (v5 : Int32) (m : Mem) : Option ((Int32 × Int64 × Int32) ⊕ (Int32)) := gp (KC v0 = 1) (if (m.1 v0 6) ≤ v5 then (some (.inr (v2))) else (bnd (fX1_weight v0 v5 v1 m) (fun r5 => if r5 ≤ v3 then (fX1_likeliestStory_39 v0 v1 v2 v3 v5 m) else (fX1_likeliestStory_39 v0 v1 v5 r5 v5 m))))
noncomputable def fX1_likeliestStory_8 (v0 : Nat) (v1 : Int32) (v2 : Int32) (v3 : Int64) (v5 : Int32) (m : Mem) : Option Int32 := bnd (iter (fun s => fX1_likeliestStory_8b v0 v1 s.1 s.2.1 s.2.2 m) FU (v2, v3, v5)) (fun e => some e)
noncomputable def fX1_likeliestStory (v0 : Nat) (v1 : Int32) (m : Mem) : Option Int32 := lt1 ((-1000000 : Int32)) (fun v2_6 => lt1 ((0 : Int64)) (fun v3_8 => lt1 ((0 : Int32)) (fun v5_10 => fX1_likeliestStory_8 v0 v1 v2_6 v3_8 v5_10 m)))
set_option maxHeartbeats 4000000 in
set_option maxRecDepth 100000 in
theorem cX1_likeliestStory_ct (z : Zx) (ad : Nat → Nat) (v0 : Nat) (v1 : Int32) (m : Mem) (r : Int32) (hf : fX1_likeliestStory v0 v1 m = some r) : CtI z wC yX1_likeliestStory cX1_likeliestStory 8 (some .int) (Rm 5) ad 91 [.ref (ad v0), .int v1] m m r := by
  refine ct_ofI mi_X1_likeliestStory rfl (Nat.le_of_ble_eq_true rfl) (fun x X hret => ?_)
  refine g_lv [(0, .ref (ad v0)), (1, .int v1)] [0, 1] rfl ?_
  have hL8 : ∀ (v0 : Nat) (v1 : Int32) (v2 : Int32) (v3 : Int64) (v5 : Int32), fX1_likeliestStory_8 v0 v1 v2 v3 v5 m = some r → G z wC x 8 0 0 ad 91 m 8 [(0, .ref (ad v0)), (1, .int v1), (2, .int v2), (3, .long v3), (5, .int v5)] [] := by
    intro v0 v1 v2 v3 v5 hf
    unfold fX1_likeliestStory_8 at hf
    obtain ⟨e8, hit8, hrest8⟩ := bnd_some hf
    refine iter_ok (Hd := fun (s : (Int32 × Int64 × Int32)) => G z wC x 8 0 0 ad 91 m 8 [(0, .ref (ad v0)), (1, .int v1), (2, .int s.1), (3, .long s.2.1), (5, .int s.2.2)] []) ?_ FU (v2, v3, v5) hit8
    intro s ob8 hf hs8 he8
    obtain ⟨v2, v3, v5⟩ := s
    have hf : fX1_likeliestStory_8b v0 v1 v2 v3 v5 m = some ob8 := hf
    have hL39 : ∀ (v2 : Int32) (v3 : Int64) (v5 : Int32), fX1_likeliestStory_39 v0 v1 v2 v3 v5 m = some ob8 → G z wC x 8 0 0 ad 91 m 39 [(0, .ref (ad v0)), (1, .int v1), (2, .int v2), (3, .long v3), (5, .int v5)] [] := by
      intro v2 v3 v5 hf
      unfold fX1_likeliestStory_39 at hf
      obtain ⟨v5_1, e2, hf⟩ := lt1_some hf
      refine g_iinc (v2 := v5_1) (lv2 := [(0, .ref (ad v0)), (1, .int v1), (2, .int v2), (3, .long v3), (5, .int v5_1)]) (pc := 39) X dX1_likeliestStory_39 4 rfl (by rw [e2]; rfl) (by decide) [1, 2, 3, 4, 0] rfl ?_
      refine g_goto (pc := 42) (tgt := 8) X dX1_likeliestStory_42 (by decide) ?_
      exact hs8 (v2, v3, v5_1) (Option.some.inj hf).symm
    unfold fX1_likeliestStory_8b at hf
    refine g_iload (pc := 8) X dX1_likeliestStory_8 4 rfl ?_
    refine g_aload_n (pc := 10) X dX1_likeliestStory_10 rfl 0 rfl ?_
    obtain ⟨hk3, hf⟩ := gp_some hf
    refine g_getI (pc := 11) X fl_X1_31 (KClt hk3 (by decide)) hk3 dX1_likeliestStory_11 ?_
    refine g_icmp_ge (pc := 14) (tgt := 45) X dX1_likeliestStory_14 (by decide) (fun hc => ?_) (fun hc => ?_)
    · have hf := itp hc hf
      have he8 := he8 _ (Option.some.inj hf).symm
      subst he8
      have hf : some v2 = some r := hrest8
      refine g_iload_n (pc := 45) X dX1_likeliestStory_45 rfl 2 rfl ?_
      obtain rfl := Option.some.inj hf
      exact hret _ _ rfl dX1_likeliestStory_46
    · have hf := itn hc hf
      refine g_aload_n (pc := 17) X dX1_likeliestStory_17 rfl 0 rfl ?_
      refine g_iload (pc := 18) X dX1_likeliestStory_18 4 rfl ?_
      refine g_iload_n (pc := 20) X dX1_likeliestStory_20 rfl 1 rfl ?_
      obtain ⟨r5, hq4, hf⟩ := bnd_some hf
      refine g_callVL (pc := 21) (As := [.int v5, .int v1]) (rest := []) X mi_X1_weight im_X1_weight se_X1_weight (KClt hk3 (by decide)) hk3 clX1 ml_X1_60 (cX1_weight_ct z ad v0 v5 v1 m r5 hq4) rfl rfl (Nat.le_of_ble_eq_true rfl) ⟨rfl, rfl, by decide, by decide, Nat.le_refl _, Nat.le_refl _⟩ dX1_likeliestStory_21 ?_
      refine g_lstore (lv2 := [(0, .ref (ad v0)), (1, .int v1), (2, .int v2), (3, .long v3), (5, .int v5), (6, .long r5)]) (pc := 24) X dX1_likeliestStory_24 (by decide) [1, 2, 3, 4, 5, 0] rfl ?_
      refine g_lload (pc := 26) X dX1_likeliestStory_26 5 rfl ?_
      refine g_lload_n (pc := 28) X dX1_likeliestStory_28 rfl 3 rfl ?_
      refine g_lcmp_le (pc := 29) (tgt := 39) X dX1_likeliestStory_29 dX1_likeliestStory_30 (by decide) (fun hc => ?_) (fun hc => ?_)
      · have hf := itp hc hf
        refine g_lv [(0, .ref (ad v0)), (1, .int v1), (2, .int v2), (3, .long v3), (5, .int v5)] [0, 1, 2, 3, 4] rfl ?_
        exact hL39 _ _ _ hf
      · have hf := itn hc hf
        refine g_lload (pc := 33) X dX1_likeliestStory_33 5 rfl ?_
        refine g_lstore_n (lv2 := [(0, .ref (ad v0)), (1, .int v1), (2, .int v2), (3, .long r5), (5, .int v5), (6, .long r5)]) (pc := 35) X dX1_likeliestStory_35 rfl (by decide) [1, 2, 3, 0, 4, 5] rfl ?_
        refine g_iload (pc := 36) X dX1_likeliestStory_36 4 rfl ?_
        refine g_istore_n (lv2 := [(0, .ref (ad v0)), (1, .int v1), (2, .int v5), (3, .long r5), (5, .int v5), (6, .long r5)]) (pc := 38) X dX1_likeliestStory_38 rfl (by decide) [1, 2, 0, 3, 4, 5] rfl ?_
        refine g_lv [(0, .ref (ad v0)), (1, .int v1), (2, .int v5), (3, .long r5), (5, .int v5)] [0, 1, 2, 3, 4] rfl ?_
        exact hL39 _ _ _ hf
  unfold fX1_likeliestStory at hf
  refine g_ldc (pc := 0) X dX1_likeliestStory_0 k_X1_59 ?_
  obtain ⟨v2_6, e7, hf⟩ := lt1_some hf
  refine g_topi e7 ?_
  refine g_istore_n (lv2 := [(0, .ref (ad v0)), (1, .int v1), (2, .int v2_6)]) (pc := 2) X dX1_likeliestStory_2 rfl (by decide) [1, 2, 0] rfl ?_
  refine g_lconst (v := (0 : Int64)) (pc := 3) X dX1_likeliestStory_3 (by decide) ?_
  obtain ⟨v3_8, e9, hf⟩ := lt1_some hf
  refine g_topl e9 ?_
  refine g_lstore_n (lv2 := [(0, .ref (ad v0)), (1, .int v1), (2, .int v2_6), (3, .long v3_8)]) (pc := 4) X dX1_likeliestStory_4 rfl (by decide) [1, 2, 3, 0] rfl ?_
  refine g_iconst (v := (0 : Int32)) (pc := 5) X dX1_likeliestStory_5 (by decide) ?_
  obtain ⟨v5_10, e11, hf⟩ := lt1_some hf
  refine g_topi e11 ?_
  refine g_istore (lv2 := [(0, .ref (ad v0)), (1, .int v1), (2, .int v2_6), (3, .long v3_8), (5, .int v5_10)]) (pc := 6) X dX1_likeliestStory_6 (by decide) [1, 2, 3, 4, 0] rfl ?_
  exact hL8 _ _ _ _ _ hf

noncomputable def fX11_likeliest (v0 : Nat) (v1 : Int32) (m : Mem) : Option Int64 := gp (KC v0 = 11) (bnd (m.2.2 v0 6) (fun q2 => gp (KC q2 = 10) (bnd (m.2.2 q2 3) (fun q5 => gp (KC q5 = 1) (if (m.1 q5 6) = 0 then (some (-9000000000000000002 : Int64)) else (bnd (fX1_isSetOfSigns q5 v1 m) (fun r9 => if r9 = 0 then (some (-9000000000000000001 : Int64)) else (bnd (fX1_likeliestStory q5 v1 m) (fun r11 => some r11.toInt64)))))))))
set_option maxHeartbeats 4000000 in
set_option maxRecDepth 100000 in
theorem cX11_likeliest_ct (z : Zx) (ad : Nat → Nat) (v0 : Nat) (v1 : Int32) (m : Mem) (r : Int64) (hf : fX11_likeliest v0 v1 m = some r) : CtL z wC yX11_likeliest cX11_likeliest 2 (some .long) (Rm 6) ad 91 [.ref (ad v0), .int v1] m m r := by
  refine ct_ofL mi_X11_likeliest rfl (Nat.le_of_ble_eq_true rfl) (fun x X hret => ?_)
  refine g_lv [(0, .ref (ad v0)), (1, .int v1)] [0, 1] rfl ?_
  unfold fX11_likeliest at hf
  refine g_aload_n (pc := 0) X dX11_likeliest_0 rfl 0 rfl ?_
  obtain ⟨hk1, hf⟩ := gp_some hf
  obtain ⟨q2, hr3, hf⟩ := bnd_some hf
  refine g_getR (pc := 1) X fl_X11_52 (KClt hk1 (by decide)) hk1 hr3 dX11_likeliest_1 ?_
  obtain ⟨hk4, hf⟩ := gp_some hf
  obtain ⟨q5, hr6, hf⟩ := bnd_some hf
  refine g_getR (pc := 4) X fl_X11_135 (KClt hk4 (by decide)) hk4 hr6 dX11_likeliest_4 ?_
  obtain ⟨hk7, hf⟩ := gp_some hf
  refine g_getI (pc := 7) X fl_X11_139 (KClt hk7 (by decide)) hk7 dX11_likeliest_7 ?_
  refine g_if_ne (pc := 10) (tgt := 17) X dX11_likeliest_10 (by decide) (fun hc => ?_) (fun hc => ?_)
  · have hf := itn hc hf
    refine g_aload_n (pc := 17) X dX11_likeliest_17 rfl 0 rfl ?_
    refine g_getR (pc := 18) X fl_X11_52 (KClt hk1 (by decide)) hk1 hr3 dX11_likeliest_18 ?_
    refine g_getR (pc := 21) X fl_X11_135 (KClt hk4 (by decide)) hk4 hr6 dX11_likeliest_21 ?_
    refine g_iload_n (pc := 24) X dX11_likeliest_24 rfl 1 rfl ?_
    obtain ⟨r9, hq8, hf⟩ := bnd_some hf
    refine g_callVI (pc := 25) (As := [.int v1]) (rest := []) X mi_X1_isSetOfSigns im_X1_isSetOfSigns se_X1_isSetOfSigns (KClt hk7 (by decide)) hk7 clX1 ml_X11_318 (cX1_isSetOfSigns_ct z ad q5 v1 m r9 hq8) rfl rfl (Nat.le_of_ble_eq_true rfl) ⟨rfl, rfl, by decide, by decide, Nat.le_refl _, Nat.le_refl _⟩ dX11_likeliest_25 ?_
    refine g_if_ne (pc := 28) (tgt := 35) X dX11_likeliest_28 (by decide) (fun hc => ?_) (fun hc => ?_)
    · have hf := itn hc hf
      refine g_aload_n (pc := 35) X dX11_likeliest_35 rfl 0 rfl ?_
      refine g_getR (pc := 36) X fl_X11_52 (KClt hk1 (by decide)) hk1 hr3 dX11_likeliest_36 ?_
      refine g_getR (pc := 39) X fl_X11_135 (KClt hk4 (by decide)) hk4 hr6 dX11_likeliest_39 ?_
      refine g_iload_n (pc := 42) X dX11_likeliest_42 rfl 1 rfl ?_
      obtain ⟨r11, hq10, hf⟩ := bnd_some hf
      refine g_callVI (pc := 43) (As := [.int v1]) (rest := []) X mi_X1_likeliestStory im_X1_likeliestStory se_X1_likeliestStory (KClt hk7 (by decide)) hk7 clX1 ml_X11_325 (cX1_likeliestStory_ct z ad q5 v1 m r11 hq10) rfl rfl (Nat.le_of_ble_eq_true rfl) ⟨rfl, rfl, by decide, by decide, Nat.le_refl _, Nat.le_refl _⟩ dX11_likeliest_43 ?_
      refine g_i2l (pc := 46) X dX11_likeliest_46 ?_
      obtain rfl := Option.some.inj hf
      exact hret _ _ dX11_likeliest_47
    · have hf := itp hc hf
      refine g_ldc2 (pc := 31) X dX11_likeliest_31 kl_X11_64 ?_
      obtain rfl := Option.some.inj hf
      exact hret _ _ dX11_likeliest_34
  · have hf := itp hc hf
    refine g_ldc2 (pc := 13) X dX11_likeliest_13 kl_X11_148 ?_
    obtain rfl := Option.some.inj hf
    exact hret _ _ dX11_likeliest_16

noncomputable def fX11_lacks (v0 : Nat) (v1 : Int32) (v2 : Int32) (v3 : Int32) (m : Mem) : Option Int64 := gp (KC v0 = 11) (bnd (m.2.2 v0 6) (fun q2 => gp (KC q2 = 10) (bnd (m.2.2 q2 3) (fun q5 => gp (KC q5 = 1) (bnd (fX1_isStory q5 v1 m) (fun r8 => if r8 = 0 then (some (-9000000000000000001 : Int64)) else (bnd (fX1_isSetOfSigns q5 v2 m) (fun r11 => if r11 = 0 then (some (-9000000000000000001 : Int64)) else (bnd (fX11_isWithin v3 (0 : Int32) (1 : Int32)) (fun r13 => if r13 = 0 then (some (-9000000000000000001 : Int64)) else (if v3 = 0 then (bnd (m.2.2 q5 2) (fun q18 => gp (KC q18 = 14) (gp (inb v1 (NC q18) = true) (some (((m.1 q18 v1.toNatClampNeg) &&& (v2 ^^^ (-1 : Int32))).toInt64))))) else (bnd (m.2.2 q5 3) (fun q14 => gp (KC q14 = 14) (gp (inb v1 (NC q14) = true) (some (((m.1 q14 v1.toNatClampNeg) &&& v2).toInt64))))))))))))))))
set_option maxHeartbeats 4000000 in
set_option maxRecDepth 100000 in
theorem cX11_lacks_ct (z : Zx) (ad : Nat → Nat) (v0 : Nat) (v1 : Int32) (v2 : Int32) (v3 : Int32) (m : Mem) (r : Int64) (hf : fX11_lacks v0 v1 v2 v3 m = some r) : CtL z wC yX11_lacks cX11_lacks 5 (some .long) (Rm 4) ad 91 [.ref (ad v0), .int v1, .int v2, .int v3] m m r := by
  refine ct_ofL mi_X11_lacks rfl (Nat.le_of_ble_eq_true rfl) (fun x X hret => ?_)
  refine g_lv [(0, .ref (ad v0)), (1, .int v1), (2, .int v2), (3, .int v3)] [0, 1, 2, 3] rfl ?_
  unfold fX11_lacks at hf
  refine g_aload_n (pc := 0) X dX11_lacks_0 rfl 0 rfl ?_
  obtain ⟨hk1, hf⟩ := gp_some hf
  obtain ⟨q2, hr3, hf⟩ := bnd_some hf
  refine g_getR (pc := 1) X fl_X11_52 (KClt hk1 (by decide)) hk1 hr3 dX11_lacks_1 ?_
  obtain ⟨hk4, hf⟩ := gp_some hf
  obtain ⟨q5, hr6, hf⟩ := bnd_some hf
  refine g_getR (pc := 4) X fl_X11_135 (KClt hk4 (by decide)) hk4 hr6 dX11_lacks_4 ?_
  refine g_astore (lv2 := [(0, .ref (ad v0)), (1, .int v1), (2, .int v2), (3, .int v3), (4, .ref (ad q5))]) (pc := 7) X dX11_lacks_7 (by decide) [1, 2, 3, 4, 0] rfl ?_
  refine g_aload (pc := 9) X dX11_lacks_9 4 rfl ?_
  refine g_iload_n (pc := 11) X dX11_lacks_11 rfl 1 rfl ?_
  obtain ⟨hk9, hf⟩ := gp_some hf
  obtain ⟨r8, hq7, hf⟩ := bnd_some hf
  refine g_callVI (pc := 12) (As := [.int v1]) (rest := []) X mi_X1_isStory im_X1_isStory se_X1_isStory (KClt hk9 (by decide)) hk9 clX1 ml_X11_315 (cX1_isStory_ct z ad q5 v1 m r8 hq7) rfl rfl (Nat.le_of_ble_eq_true rfl) ⟨rfl, rfl, by decide, by decide, Nat.le_refl _, Nat.le_refl _⟩ dX11_lacks_12 ?_
  refine g_if_eq (pc := 15) (tgt := 36) X dX11_lacks_15 (by decide) (fun hc => ?_) (fun hc => ?_)
  · have hf := itp hc hf
    refine g_ldc2 (pc := 36) X dX11_lacks_36 kl_X11_64 ?_
    obtain rfl := Option.some.inj hf
    exact hret _ _ dX11_lacks_39
  · have hf := itn hc hf
    refine g_aload (pc := 18) X dX11_lacks_18 4 rfl ?_
    refine g_iload_n (pc := 20) X dX11_lacks_20 rfl 2 rfl ?_
    obtain ⟨r11, hq10, hf⟩ := bnd_some hf
    refine g_callVI (pc := 21) (As := [.int v2]) (rest := []) X mi_X1_isSetOfSigns im_X1_isSetOfSigns se_X1_isSetOfSigns (KClt hk9 (by decide)) hk9 clX1 ml_X11_318 (cX1_isSetOfSigns_ct z ad q5 v2 m r11 hq10) rfl rfl (Nat.le_of_ble_eq_true rfl) ⟨rfl, rfl, by decide, by decide, Nat.le_refl _, Nat.le_refl _⟩ dX11_lacks_21 ?_
    refine g_if_eq (pc := 24) (tgt := 36) X dX11_lacks_24 (by decide) (fun hc => ?_) (fun hc => ?_)
    · have hf := itp hc hf
      refine g_ldc2 (pc := 36) X dX11_lacks_36 kl_X11_64 ?_
      obtain rfl := Option.some.inj hf
      exact hret _ _ dX11_lacks_39
    · have hf := itn hc hf
      refine g_iload_n (pc := 27) X dX11_lacks_27 rfl 3 rfl ?_
      refine g_iconst (v := (0 : Int32)) (pc := 28) X dX11_lacks_28 (by decide) ?_
      refine g_iconst (v := (1 : Int32)) (pc := 29) X dX11_lacks_29 (by decide) ?_
      obtain ⟨r13, hq12, hf⟩ := bnd_some hf
      refine g_callSI (pc := 30) (As := [.int v3, .int (0 : Int32), .int (1 : Int32)]) (rest := []) X mi_X11_isWithin sm_X11_isWithin ml_X11_60 (cX11_isWithin_ct z ad v3 (0 : Int32) (1 : Int32) m r13 hq12) rfl rfl (Nat.le_of_ble_eq_true rfl) ⟨rfl, rfl, by decide, by decide, Nat.le_refl _, Nat.le_refl _⟩ dX11_lacks_30 ?_
      refine g_if_ne (pc := 33) (tgt := 40) X dX11_lacks_33 (by decide) (fun hc => ?_) (fun hc => ?_)
      · have hf := itn hc hf
        refine g_iload_n (pc := 40) X dX11_lacks_40 rfl 3 rfl ?_
        refine g_if_ne (pc := 41) (tgt := 59) X dX11_lacks_41 (by decide) (fun hc => ?_) (fun hc => ?_)
        · have hf := itn hc hf
          refine g_aload (pc := 59) X dX11_lacks_59 4 rfl ?_
          obtain ⟨q14, hr15, hf⟩ := bnd_some hf
          refine g_getR (pc := 61) X fl_X11_306 (KClt hk9 (by decide)) hk9 hr15 dX11_lacks_61 ?_
          refine g_iload_n (pc := 64) X dX11_lacks_64 rfl 1 rfl ?_
          obtain ⟨hk16, hf⟩ := gp_some hf
          obtain ⟨hi17, hf⟩ := gp_some hf
          refine g_iald (pc := 65) X (KClt hk16 (by decide)) hk16 hi17 dX11_lacks_65 ?_
          refine g_iload_n (pc := 66) X dX11_lacks_66 rfl 2 rfl ?_
          refine g_iand (pc := 67) X dX11_lacks_67 ?_
          refine g_i2l (pc := 68) X dX11_lacks_68 ?_
          obtain rfl := Option.some.inj hf
          exact hret _ _ dX11_lacks_69
        · have hf := itp hc hf
          refine g_aload (pc := 44) X dX11_lacks_44 4 rfl ?_
          obtain ⟨q18, hr19, hf⟩ := bnd_some hf
          refine g_getR (pc := 46) X fl_X11_299 (KClt hk9 (by decide)) hk9 hr19 dX11_lacks_46 ?_
          refine g_iload_n (pc := 49) X dX11_lacks_49 rfl 1 rfl ?_
          obtain ⟨hk20, hf⟩ := gp_some hf
          obtain ⟨hi21, hf⟩ := gp_some hf
          refine g_iald (pc := 50) X (KClt hk20 (by decide)) hk20 hi21 dX11_lacks_50 ?_
          refine g_iload_n (pc := 51) X dX11_lacks_51 rfl 2 rfl ?_
          refine g_iconst (v := (-1 : Int32)) (pc := 52) X dX11_lacks_52 (by decide) ?_
          refine g_ixor (pc := 53) X dX11_lacks_53 ?_
          refine g_iand (pc := 54) X dX11_lacks_54 ?_
          refine g_i2l (pc := 55) X dX11_lacks_55 ?_
          refine g_goto (pc := 56) (tgt := 69) X dX11_lacks_56 (by decide) ?_
          obtain rfl := Option.some.inj hf
          exact hret _ _ dX11_lacks_69
      · have hf := itp hc hf
        refine g_ldc2 (pc := 36) X dX11_lacks_36 kl_X11_64 ?_
        obtain rfl := Option.some.inj hf
        exact hret _ _ dX11_lacks_39

noncomputable def fX1_signToAskFor_71 (v0 : Nat) (v1 : Int32) (v2 : Int32) (v3 : Int32) (v4 : Int32) (m : Mem) : Option ((Int32 × Int32 × Int32) ⊕ (Int32)) := lt1 (v4 + 1) (fun v4_1 => some (.inl (v2, v3, v4_1)))
noncomputable def fX1_signToAskFor_8b (v0 : Nat) (v1 : Int32) (v2 : Int32) (v3 : Int32) (v4 : Int32) (m : Mem) : Option ((Int32 × Int32 × Int32) ⊕ (Int32)) := gp (KC v0 = 1) (if (m.1 v0 5) ≤ v4 then (some (.inr (v2))) else (bnd (m.2.2 v0 2) (fun q4 => bnd (fX1_storiesWith v0 v4 q4 m) (fun r7 => bnd (fJ6_bitCount_0f7a4 r7) (fun r9 => bnd (m.2.2 v0 3) (fun q10 => bnd (fX1_storiesWith v0 v4 q10 m) (fun r13 => bnd (fJ6_bitCount_0f7a4 r13) (fun r15 => lt1 (r9 * r15) (fun v6_16 => bnd (fX11_isIn v4 v1) (fun r19 => if r19 = 0 then (if v6_16 ≤ v3 then (fX1_signToAskFor_71 v0 v1 v2 v3 v4 m) else (fX1_signToAskFor_71 v0 v1 v4 v6_16 v4 m)) else (fX1_signToAskFor_71 v0 v1 v2 v3 v4 m)))))))))))
noncomputable def fX1_signToAskFor_8 (v0 : Nat) (v1 : Int32) (v2 : Int32) (v3 : Int32) (v4 : Int32) (m : Mem) : Option Int32 := bnd (iter (fun s => fX1_signToAskFor_8b v0 v1 s.1 s.2.1 s.2.2 m) FU (v2, v3, v4)) (fun e => some e)
noncomputable def fX1_signToAskFor (v0 : Nat) (v1 : Int32) (m : Mem) : Option Int32 := lt1 ((-1000000 : Int32)) (fun v2_20 => lt1 ((-1 : Int32)) (fun v3_22 => lt1 ((0 : Int32)) (fun v4_24 => fX1_signToAskFor_8 v0 v1 v2_20 v3_22 v4_24 m)))
set_option maxHeartbeats 4000000 in
set_option maxRecDepth 100000 in
theorem cX1_signToAskFor_ct (z : Zx) (ad : Nat → Nat) (v0 : Nat) (v1 : Int32) (m : Mem) (r : Int32) (hf : fX1_signToAskFor v0 v1 m = some r) : CtI z wC yX1_signToAskFor cX1_signToAskFor 7 (some .int) (Rm 4) ad 91 [.ref (ad v0), .int v1] m m r := by
  refine ct_ofI mi_X1_signToAskFor rfl (Nat.le_of_ble_eq_true rfl) (fun x X hret => ?_)
  refine g_lv [(0, .ref (ad v0)), (1, .int v1)] [0, 1] rfl ?_
  have hL8 : ∀ (v0 : Nat) (v1 : Int32) (v2 : Int32) (v3 : Int32) (v4 : Int32), fX1_signToAskFor_8 v0 v1 v2 v3 v4 m = some r → G z wC x 7 0 0 ad 91 m 8 [(0, .ref (ad v0)), (1, .int v1), (2, .int v2), (3, .int v3), (4, .int v4)] [] := by
    intro v0 v1 v2 v3 v4 hf
    unfold fX1_signToAskFor_8 at hf
    obtain ⟨e8, hit8, hrest8⟩ := bnd_some hf
    refine iter_ok (Hd := fun (s : (Int32 × Int32 × Int32)) => G z wC x 7 0 0 ad 91 m 8 [(0, .ref (ad v0)), (1, .int v1), (2, .int s.1), (3, .int s.2.1), (4, .int s.2.2)] []) ?_ FU (v2, v3, v4) hit8
    intro s ob8 hf hs8 he8
    obtain ⟨v2, v3, v4⟩ := s
    have hf : fX1_signToAskFor_8b v0 v1 v2 v3 v4 m = some ob8 := hf
    have hL71 : ∀ (v2 : Int32) (v3 : Int32) (v4 : Int32), fX1_signToAskFor_71 v0 v1 v2 v3 v4 m = some ob8 → G z wC x 7 0 0 ad 91 m 71 [(0, .ref (ad v0)), (1, .int v1), (2, .int v2), (3, .int v3), (4, .int v4)] [] := by
      intro v2 v3 v4 hf
      unfold fX1_signToAskFor_71 at hf
      obtain ⟨v4_1, e2, hf⟩ := lt1_some hf
      refine g_iinc (v2 := v4_1) (lv2 := [(0, .ref (ad v0)), (1, .int v1), (2, .int v2), (3, .int v3), (4, .int v4_1)]) (pc := 71) X dX1_signToAskFor_71 4 rfl (by rw [e2]; rfl) (by decide) [1, 2, 3, 4, 0] rfl ?_
      refine g_goto (pc := 74) (tgt := 8) X dX1_signToAskFor_74 (by decide) ?_
      exact hs8 (v2, v3, v4_1) (Option.some.inj hf).symm
    unfold fX1_signToAskFor_8b at hf
    refine g_iload (pc := 8) X dX1_signToAskFor_8 4 rfl ?_
    refine g_aload_n (pc := 10) X dX1_signToAskFor_10 rfl 0 rfl ?_
    obtain ⟨hk3, hf⟩ := gp_some hf
    refine g_getI (pc := 11) X fl_X1_27 (KClt hk3 (by decide)) hk3 dX1_signToAskFor_11 ?_
    refine g_icmp_ge (pc := 14) (tgt := 77) X dX1_signToAskFor_14 (by decide) (fun hc => ?_) (fun hc => ?_)
    · have hf := itp hc hf
      have he8 := he8 _ (Option.some.inj hf).symm
      subst he8
      have hf : some v2 = some r := hrest8
      refine g_iload_n (pc := 77) X dX1_signToAskFor_77 rfl 2 rfl ?_
      obtain rfl := Option.some.inj hf
      exact hret _ _ rfl dX1_signToAskFor_78
    · have hf := itn hc hf
      refine g_aload_n (pc := 17) X dX1_signToAskFor_17 rfl 0 rfl ?_
      refine g_iload (pc := 18) X dX1_signToAskFor_18 4 rfl ?_
      refine g_aload_n (pc := 20) X dX1_signToAskFor_20 rfl 0 rfl ?_
      obtain ⟨q4, hr5, hf⟩ := bnd_some hf
      refine g_getR (pc := 21) X fl_X1_18 (KClt hk3 (by decide)) hk3 hr5 dX1_signToAskFor_21 ?_
      obtain ⟨r7, hq6, hf⟩ := bnd_some hf
      refine g_callVI (pc := 24) (As := [.int v4, .ref (ad q4)]) (rest := []) X mi_X1_storiesWith im_X1_storiesWith se_X1_storiesWith (KClt hk3 (by decide)) hk3 clX1 ml_X1_64 (cX1_storiesWith_ct z ad v0 v4 q4 m r7 hq6) rfl rfl (Nat.le_of_ble_eq_true rfl) ⟨rfl, rfl, by decide, by decide, Nat.le_refl _, Nat.le_refl _⟩ dX1_signToAskFor_24 ?_
      obtain ⟨r9, hq8, hf⟩ := bnd_some hf
      refine g_callSI (pc := 27) (As := [.int r7]) (rest := []) X mi_J6_bitCount_0f7a4 sm_J6_bitCount_0f7a4 ml_X1_68 (cJ6_bitCount_0f7a4_ct z ad r7 m r9 hq8) rfl rfl (Nat.le_of_ble_eq_true rfl) ⟨rfl, rfl, by decide, by decide, Nat.le_refl _, Nat.le_refl _⟩ dX1_signToAskFor_27 ?_
      refine g_istore (lv2 := [(0, .ref (ad v0)), (1, .int v1), (2, .int v2), (3, .int v3), (4, .int v4), (5, .int r9)]) (pc := 30) X dX1_signToAskFor_30 (by decide) [1, 2, 3, 4, 5, 0] rfl ?_
      refine g_iload (pc := 32) X dX1_signToAskFor_32 5 rfl ?_
      refine g_aload_n (pc := 34) X dX1_signToAskFor_34 rfl 0 rfl ?_
      refine g_iload (pc := 35) X dX1_signToAskFor_35 4 rfl ?_
      refine g_aload_n (pc := 37) X dX1_signToAskFor_37 rfl 0 rfl ?_
      obtain ⟨q10, hr11, hf⟩ := bnd_some hf
      refine g_getR (pc := 38) X fl_X1_21 (KClt hk3 (by decide)) hk3 hr11 dX1_signToAskFor_38 ?_
      obtain ⟨r13, hq12, hf⟩ := bnd_some hf
      refine g_callVI (pc := 41) (As := [.int v4, .ref (ad q10)]) (rest := [.int r9]) X mi_X1_storiesWith im_X1_storiesWith se_X1_storiesWith (KClt hk3 (by decide)) hk3 clX1 ml_X1_64 (cX1_storiesWith_ct z ad v0 v4 q10 m r13 hq12) rfl rfl (Nat.le_of_ble_eq_true rfl) ⟨rfl, rfl, by decide, by decide, Nat.le_refl _, Nat.le_refl _⟩ dX1_signToAskFor_41 ?_
      obtain ⟨r15, hq14, hf⟩ := bnd_some hf
      refine g_callSI (pc := 44) (As := [.int r13]) (rest := [.int r9]) X mi_J6_bitCount_0f7a4 sm_J6_bitCount_0f7a4 ml_X1_68 (cJ6_bitCount_0f7a4_ct z ad r13 m r15 hq14) rfl rfl (Nat.le_of_ble_eq_true rfl) ⟨rfl, rfl, by decide, by decide, Nat.le_refl _, Nat.le_refl _⟩ dX1_signToAskFor_44 ?_
      refine g_imul (pc := 47) X dX1_signToAskFor_47 ?_
      obtain ⟨v6_16, e17, hf⟩ := lt1_some hf
      refine g_topi e17 ?_
      refine g_istore (lv2 := [(0, .ref (ad v0)), (1, .int v1), (2, .int v2), (3, .int v3), (4, .int v4), (5, .int r9), (6, .int v6_16)]) (pc := 48) X dX1_signToAskFor_48 (by decide) [1, 2, 3, 4, 5, 6, 0] rfl ?_
      refine g_iload (pc := 50) X dX1_signToAskFor_50 4 rfl ?_
      refine g_iload_n (pc := 52) X dX1_signToAskFor_52 rfl 1 rfl ?_
      obtain ⟨r19, hq18, hf⟩ := bnd_some hf
      refine g_callSNI (pc := 53) (As := [.int v4, .int v1]) (rest := []) (q := 15) X mi_X11_isIn sm_X11_isIn rfl (cX11_isIn_ct z ad v4 v1 m r19 hq18) rfl rfl (Nat.le_of_ble_eq_true rfl) ⟨rfl, rfl, by decide, by decide, Nat.le_refl _, Nat.le_refl _⟩ dX1_signToAskFor_53 ?_
      refine g_if_ne (pc := 56) (tgt := 71) X dX1_signToAskFor_56 (by decide) (fun hc => ?_) (fun hc => ?_)
      · have hf := itn hc hf
        refine g_lv [(0, .ref (ad v0)), (1, .int v1), (2, .int v2), (3, .int v3), (4, .int v4)] [0, 1, 2, 3, 4] rfl ?_
        exact hL71 _ _ _ hf
      · have hf := itp hc hf
        refine g_iload (pc := 59) X dX1_signToAskFor_59 6 rfl ?_
        refine g_iload_n (pc := 61) X dX1_signToAskFor_61 rfl 3 rfl ?_
        refine g_icmp_le (pc := 62) (tgt := 71) X dX1_signToAskFor_62 (by decide) (fun hc => ?_) (fun hc => ?_)
        · have hf := itp hc hf
          refine g_lv [(0, .ref (ad v0)), (1, .int v1), (2, .int v2), (3, .int v3), (4, .int v4)] [0, 1, 2, 3, 4] rfl ?_
          exact hL71 _ _ _ hf
        · have hf := itn hc hf
          refine g_iload (pc := 65) X dX1_signToAskFor_65 6 rfl ?_
          refine g_istore_n (lv2 := [(0, .ref (ad v0)), (1, .int v1), (2, .int v2), (3, .int v6_16), (4, .int v4), (5, .int r9), (6, .int v6_16)]) (pc := 67) X dX1_signToAskFor_67 rfl (by decide) [1, 2, 3, 0, 4, 5, 6] rfl ?_
          refine g_iload (pc := 68) X dX1_signToAskFor_68 4 rfl ?_
          refine g_istore_n (lv2 := [(0, .ref (ad v0)), (1, .int v1), (2, .int v4), (3, .int v6_16), (4, .int v4), (5, .int r9), (6, .int v6_16)]) (pc := 70) X dX1_signToAskFor_70 rfl (by decide) [1, 2, 0, 3, 4, 5, 6] rfl ?_
          refine g_lv [(0, .ref (ad v0)), (1, .int v1), (2, .int v4), (3, .int v6_16), (4, .int v4)] [0, 1, 2, 3, 4] rfl ?_
          exact hL71 _ _ _ hf
  unfold fX1_signToAskFor at hf
  refine g_ldc (pc := 0) X dX1_signToAskFor_0 k_X1_59 ?_
  obtain ⟨v2_20, e21, hf⟩ := lt1_some hf
  refine g_topi e21 ?_
  refine g_istore_n (lv2 := [(0, .ref (ad v0)), (1, .int v1), (2, .int v2_20)]) (pc := 2) X dX1_signToAskFor_2 rfl (by decide) [1, 2, 0] rfl ?_
  refine g_iconst (v := (-1 : Int32)) (pc := 3) X dX1_signToAskFor_3 (by decide) ?_
  obtain ⟨v3_22, e23, hf⟩ := lt1_some hf
  refine g_topi e23 ?_
  refine g_istore_n (lv2 := [(0, .ref (ad v0)), (1, .int v1), (2, .int v2_20), (3, .int v3_22)]) (pc := 4) X dX1_signToAskFor_4 rfl (by decide) [1, 2, 3, 0] rfl ?_
  refine g_iconst (v := (0 : Int32)) (pc := 5) X dX1_signToAskFor_5 (by decide) ?_
  obtain ⟨v4_24, e25, hf⟩ := lt1_some hf
  refine g_topi e25 ?_
  refine g_istore (lv2 := [(0, .ref (ad v0)), (1, .int v1), (2, .int v2_20), (3, .int v3_22), (4, .int v4_24)]) (pc := 6) X dX1_signToAskFor_6 (by decide) [1, 2, 3, 4, 0] rfl ?_
  exact hL8 _ _ _ _ _ hf

noncomputable def fX11_next (v0 : Nat) (v1 : Int32) (m : Mem) : Option Int64 := gp (KC v0 = 11) (bnd (m.2.2 v0 6) (fun q2 => gp (KC q2 = 10) (if (m.1 q2 4) = 0 then (some (-9000000000000000002 : Int64)) else (bnd (m.2.2 q2 3) (fun q5 => gp (KC q5 = 1) (bnd (fX1_isSetOfSigns q5 v1 m) (fun r8 => if r8 = 0 then (some (-9000000000000000001 : Int64)) else (bnd (fX1_signToAskFor q5 v1 m) (fun r11 => some r11.toInt64)))))))))
set_option maxHeartbeats 4000000 in
set_option maxRecDepth 100000 in
theorem cX11_next_ct (z : Zx) (ad : Nat → Nat) (v0 : Nat) (v1 : Int32) (m : Mem) (r : Int64) (hf : fX11_next v0 v1 m = some r) : CtL z wC yX11_next cX11_next 2 (some .long) (Rm 5) ad 91 [.ref (ad v0), .int v1] m m r := by
  refine ct_ofL mi_X11_next rfl (Nat.le_of_ble_eq_true rfl) (fun x X hret => ?_)
  refine g_lv [(0, .ref (ad v0)), (1, .int v1)] [0, 1] rfl ?_
  unfold fX11_next at hf
  refine g_aload_n (pc := 0) X dX11_next_0 rfl 0 rfl ?_
  obtain ⟨hk1, hf⟩ := gp_some hf
  obtain ⟨q2, hr3, hf⟩ := bnd_some hf
  refine g_getR (pc := 1) X fl_X11_52 (KClt hk1 (by decide)) hk1 hr3 dX11_next_1 ?_
  obtain ⟨hk4, hf⟩ := gp_some hf
  refine g_getI (pc := 4) X fl_X11_144 (KClt hk4 (by decide)) hk4 dX11_next_4 ?_
  refine g_if_ne (pc := 7) (tgt := 14) X dX11_next_7 (by decide) (fun hc => ?_) (fun hc => ?_)
  · have hf := itn hc hf
    refine g_aload_n (pc := 14) X dX11_next_14 rfl 0 rfl ?_
    refine g_getR (pc := 15) X fl_X11_52 (KClt hk1 (by decide)) hk1 hr3 dX11_next_15 ?_
    obtain ⟨q5, hr6, hf⟩ := bnd_some hf
    refine g_getR (pc := 18) X fl_X11_135 (KClt hk4 (by decide)) hk4 hr6 dX11_next_18 ?_
    refine g_iload_n (pc := 21) X dX11_next_21 rfl 1 rfl ?_
    obtain ⟨hk9, hf⟩ := gp_some hf
    obtain ⟨r8, hq7, hf⟩ := bnd_some hf
    refine g_callVI (pc := 22) (As := [.int v1]) (rest := []) X mi_X1_isSetOfSigns im_X1_isSetOfSigns se_X1_isSetOfSigns (KClt hk9 (by decide)) hk9 clX1 ml_X11_318 (cX1_isSetOfSigns_ct z ad q5 v1 m r8 hq7) rfl rfl (Nat.le_of_ble_eq_true rfl) ⟨rfl, rfl, by decide, by decide, Nat.le_refl _, Nat.le_refl _⟩ dX11_next_22 ?_
    refine g_if_ne (pc := 25) (tgt := 32) X dX11_next_25 (by decide) (fun hc => ?_) (fun hc => ?_)
    · have hf := itn hc hf
      refine g_aload_n (pc := 32) X dX11_next_32 rfl 0 rfl ?_
      refine g_getR (pc := 33) X fl_X11_52 (KClt hk1 (by decide)) hk1 hr3 dX11_next_33 ?_
      refine g_getR (pc := 36) X fl_X11_135 (KClt hk4 (by decide)) hk4 hr6 dX11_next_36 ?_
      refine g_iload_n (pc := 39) X dX11_next_39 rfl 1 rfl ?_
      obtain ⟨r11, hq10, hf⟩ := bnd_some hf
      refine g_callVI (pc := 40) (As := [.int v1]) (rest := []) X mi_X1_signToAskFor im_X1_signToAskFor se_X1_signToAskFor (KClt hk9 (by decide)) hk9 clX1 ml_X11_328 (cX1_signToAskFor_ct z ad q5 v1 m r11 hq10) rfl rfl (Nat.le_of_ble_eq_true rfl) ⟨rfl, rfl, by decide, by decide, Nat.le_refl _, Nat.le_refl _⟩ dX11_next_40 ?_
      refine g_i2l (pc := 43) X dX11_next_43 ?_
      obtain rfl := Option.some.inj hf
      exact hret _ _ dX11_next_44
    · have hf := itp hc hf
      refine g_ldc2 (pc := 28) X dX11_next_28 kl_X11_64 ?_
      obtain rfl := Option.some.inj hf
      exact hret _ _ dX11_next_31
  · have hf := itp hc hf
    refine g_ldc2 (pc := 10) X dX11_next_10 kl_X11_148 ?_
    obtain rfl := Option.some.inj hf
    exact hret _ _ dX11_next_13

