noncomputable def fX12_storyOf (v0 : Nat) (v1 : Int32) (v2 : Int32) (m : Mem) : Option Int32 := gp (KM v0 = 12) (bnd (m.2.2 v0 5) (fun q2 => gp (KM q2 = 14) (gp (inb (((60 : Int32) + ((3 : Int32) * v1)) + v2) (NM q2) = true) (some (m.1 q2 (((60 : Int32) + ((3 : Int32) * v1)) + v2).toNatClampNeg)))))
set_option maxHeartbeats 4000000 in
set_option maxRecDepth 100000 in
theorem cX12_storyOf_ct (z : Zx) (ad : Nat → Nat) (v0 : Nat) (v1 : Int32) (v2 : Int32) (m : Mem) (r : Int32) (hf : fX12_storyOf v0 v1 v2 m = some r) : CtI z wM yX12_storyOf cX12_storyOf 3 (some .int) (Rm 2) ad 17 [.ref (ad v0), .int v1, .int v2] m m r := by
  refine ct_ofI mi_X12_storyOf rfl (Nat.le_of_ble_eq_true rfl) (fun x X hret => ?_)
  refine g_lv [(0, .ref (ad v0)), (1, .int v1), (2, .int v2)] [0, 1, 2] rfl ?_
  unfold fX12_storyOf at hf
  refine g_aload_n (pc := 0) X dX12_storyOf_0 rfl 0 rfl ?_
  obtain ⟨hk1, hf⟩ := gp_some hf
  obtain ⟨q2, hr3, hf⟩ := bnd_some hf
  refine g_getR (pc := 1) X fl_X12_19 (KMlt hk1 (by decide)) hk1 hr3 dX12_storyOf_1 ?_
  refine g_bipush (v := (60 : Int32)) (pc := 4) X dX12_storyOf_4 (by decide) ?_
  refine g_iconst (v := (3 : Int32)) (pc := 6) X dX12_storyOf_6 (by decide) ?_
  refine g_iload_n (pc := 7) X dX12_storyOf_7 rfl 1 rfl ?_
  refine g_imul (pc := 8) X dX12_storyOf_8 ?_
  refine g_iadd (pc := 9) X dX12_storyOf_9 ?_
  refine g_iload_n (pc := 10) X dX12_storyOf_10 rfl 2 rfl ?_
  refine g_iadd (pc := 11) X dX12_storyOf_11 ?_
  obtain ⟨hk4, hf⟩ := gp_some hf
  obtain ⟨hi5, hf⟩ := gp_some hf
  refine g_iald (pc := 12) X (KMlt hk4 (by decide)) hk4 hi5 dX12_storyOf_12 ?_
  obtain rfl := Option.some.inj hf
  exact hret _ _ rfl dX12_storyOf_13

noncomputable def fX12_storiesBy_5b (v0 : Nat) (v1 : Int32) (v2 : Int32) (v3 : Int32) (v4 : Int32) (m : Mem) : Option ((Int32 × Int32) ⊕ (Int32)) := gp (KM v0 = 12) (bnd (m.2.2 v0 5) (fun q2 => gp (KM q2 = 14) (gp (inb (5 : Int32) (NM q2) = true) (if (m.1 q2 (5 : Int32).toNatClampNeg) ≤ v4 then (some (.inr (v3))) else (bnd (fX12_storyOf v0 v4 v2 m) (fun r7 => lt1 (v3 ||| (((r7 >>> (v1 &&& 31)) &&& (1 : Int32)) <<< (v4 &&& 31))) (fun v3_8 => lt1 (v4 + 1) (fun v4_10 => some (.inl (v3_8, v4_10))))))))))
noncomputable def fX12_storiesBy_5 (v0 : Nat) (v1 : Int32) (v2 : Int32) (v3 : Int32) (v4 : Int32) (m : Mem) : Option Int32 := bnd (iter (fun s => fX12_storiesBy_5b v0 v1 v2 s.1 s.2 m) FU (v3, v4)) (fun e => some e)
noncomputable def fX12_storiesBy (v0 : Nat) (v1 : Int32) (v2 : Int32) (m : Mem) : Option Int32 := lt1 ((0 : Int32)) (fun v3_12 => lt1 ((0 : Int32)) (fun v4_14 => fX12_storiesBy_5 v0 v1 v2 v3_12 v4_14 m))
set_option maxHeartbeats 4000000 in
set_option maxRecDepth 100000 in
theorem cX12_storiesBy_ct (z : Zx) (ad : Nat → Nat) (v0 : Nat) (v1 : Int32) (v2 : Int32) (m : Mem) (r : Int32) (hf : fX12_storiesBy v0 v1 v2 m = some r) : CtI z wM yX12_storiesBy cX12_storiesBy 5 (some .int) (Rm 3) ad 17 [.ref (ad v0), .int v1, .int v2] m m r := by
  refine ct_ofI mi_X12_storiesBy rfl (Nat.le_of_ble_eq_true rfl) (fun x X hret => ?_)
  refine g_lv [(0, .ref (ad v0)), (1, .int v1), (2, .int v2)] [0, 1, 2] rfl ?_
  have hL5 : ∀ (v0 : Nat) (v1 : Int32) (v2 : Int32) (v3 : Int32) (v4 : Int32), fX12_storiesBy_5 v0 v1 v2 v3 v4 m = some r → G z wM x 5 0 0 ad 17 m 5 [(0, .ref (ad v0)), (1, .int v1), (2, .int v2), (3, .int v3), (4, .int v4)] [] := by
    intro v0 v1 v2 v3 v4 hf
    unfold fX12_storiesBy_5 at hf
    obtain ⟨e5, hit5, hrest5⟩ := bnd_some hf
    refine iter_ok (Hd := fun (s : (Int32 × Int32)) => G z wM x 5 0 0 ad 17 m 5 [(0, .ref (ad v0)), (1, .int v1), (2, .int v2), (3, .int s.1), (4, .int s.2)] []) ?_ FU (v3, v4) hit5
    intro s ob5 hf hs5 he5
    obtain ⟨v3, v4⟩ := s
    have hf : fX12_storiesBy_5b v0 v1 v2 v3 v4 m = some ob5 := hf
    unfold fX12_storiesBy_5b at hf
    refine g_iload (pc := 5) X dX12_storiesBy_5 4 rfl ?_
    refine g_aload_n (pc := 7) X dX12_storiesBy_7 rfl 0 rfl ?_
    obtain ⟨hk1, hf⟩ := gp_some hf
    obtain ⟨q2, hr3, hf⟩ := bnd_some hf
    refine g_getR (pc := 8) X fl_X12_19 (KMlt hk1 (by decide)) hk1 hr3 dX12_storiesBy_8 ?_
    refine g_iconst (v := (5 : Int32)) (pc := 11) X dX12_storiesBy_11 (by decide) ?_
    obtain ⟨hk4, hf⟩ := gp_some hf
    obtain ⟨hi5, hf⟩ := gp_some hf
    refine g_iald (pc := 12) X (KMlt hk4 (by decide)) hk4 hi5 dX12_storiesBy_12 ?_
    refine g_icmp_ge (pc := 13) (tgt := 39) X dX12_storiesBy_13 (by decide) (fun hc => ?_) (fun hc => ?_)
    · have hf := itp hc hf
      have he5 := he5 _ (Option.some.inj hf).symm
      subst he5
      have hf : some v3 = some r := hrest5
      refine g_iload_n (pc := 39) X dX12_storiesBy_39 rfl 3 rfl ?_
      obtain rfl := Option.some.inj hf
      exact hret _ _ rfl dX12_storiesBy_40
    · have hf := itn hc hf
      refine g_iload_n (pc := 16) X dX12_storiesBy_16 rfl 3 rfl ?_
      refine g_aload_n (pc := 17) X dX12_storiesBy_17 rfl 0 rfl ?_
      refine g_iload (pc := 18) X dX12_storiesBy_18 4 rfl ?_
      refine g_iload_n (pc := 20) X dX12_storiesBy_20 rfl 2 rfl ?_
      obtain ⟨r7, hq6, hf⟩ := bnd_some hf
      refine g_callVI (pc := 21) (As := [.int v4, .int v2]) (rest := [.int v3]) X mi_X12_storyOf im_X12_storyOf se_X12_storyOf (KMlt hk1 (by decide)) hk1 clX12 ml_X12_357 (cX12_storyOf_ct z ad v0 v4 v2 m r7 hq6) rfl rfl (Nat.le_of_ble_eq_true rfl) ⟨rfl, rfl, by decide, by decide, Nat.le_refl _, Nat.le_refl _⟩ dX12_storiesBy_21 ?_
      refine g_iload_n (pc := 24) X dX12_storiesBy_24 rfl 1 rfl ?_
      refine g_ishr (pc := 25) X dX12_storiesBy_25 ?_
      refine g_iconst (v := (1 : Int32)) (pc := 26) X dX12_storiesBy_26 (by decide) ?_
      refine g_iand (pc := 27) X dX12_storiesBy_27 ?_
      refine g_iload (pc := 28) X dX12_storiesBy_28 4 rfl ?_
      refine g_ishl (pc := 30) X dX12_storiesBy_30 ?_
      refine g_ior (pc := 31) X dX12_storiesBy_31 ?_
      obtain ⟨v3_8, e9, hf⟩ := lt1_some hf
      refine g_topi e9 ?_
      refine g_istore_n (lv2 := [(0, .ref (ad v0)), (1, .int v1), (2, .int v2), (3, .int v3_8), (4, .int v4)]) (pc := 32) X dX12_storiesBy_32 rfl (by decide) [1, 2, 3, 0, 4] rfl ?_
      obtain ⟨v4_10, e11, hf⟩ := lt1_some hf
      refine g_iinc (v2 := v4_10) (lv2 := [(0, .ref (ad v0)), (1, .int v1), (2, .int v2), (3, .int v3_8), (4, .int v4_10)]) (pc := 33) X dX12_storiesBy_33 4 rfl (by rw [e11]; rfl) (by decide) [1, 2, 3, 4, 0] rfl ?_
      refine g_goto (pc := 36) (tgt := 5) X dX12_storiesBy_36 (by decide) ?_
      exact hs5 (v3_8, v4_10) (Option.some.inj hf).symm
  unfold fX12_storiesBy at hf
  refine g_iconst (v := (0 : Int32)) (pc := 0) X dX12_storiesBy_0 (by decide) ?_
  obtain ⟨v3_12, e13, hf⟩ := lt1_some hf
  refine g_topi e13 ?_
  refine g_istore_n (lv2 := [(0, .ref (ad v0)), (1, .int v1), (2, .int v2), (3, .int v3_12)]) (pc := 1) X dX12_storiesBy_1 rfl (by decide) [1, 2, 3, 0] rfl ?_
  refine g_iconst (v := (0 : Int32)) (pc := 2) X dX12_storiesBy_2 (by decide) ?_
  obtain ⟨v4_14, e15, hf⟩ := lt1_some hf
  refine g_topi e15 ?_
  refine g_istore (lv2 := [(0, .ref (ad v0)), (1, .int v1), (2, .int v2), (3, .int v3_12), (4, .int v4_14)]) (pc := 3) X dX12_storiesBy_3 (by decide) [1, 2, 3, 4, 0] rfl ?_
  exact hL5 _ _ _ _ _ hf

noncomputable def fX12_sign_25 (m : Mem) : Option (Int64 × Mem) := some ((-9000000000000000001 : Int64), m)
noncomputable def fX12_sign (v0 : Nat) (v1 : Int32) (v2 : Int32) (m : Mem) : Option (Int64 × Mem) := gp (KM v0 = 12) (lt1 (uI m v0 0 (0 : Int32)) (fun m2 => bnd (fX12_isSign v0 v1 m2) (fun r5 => if r5 = 0 then (fX12_sign_25 m2) else (bnd (fX12_in v2.toInt64 (0 : Int64) (2 : Int64)) (fun r7 => if r7 = 0 then (fX12_sign_25 m2) else (if v2 = 0 then (bnd (fX12_signOf v0 v1 (1 : Int32) m2) (fun r11 => some (r11.toInt64, m2))) else (bnd (fX12_storiesBy v0 v1 v2 m2) (fun r9 => some (r9.toInt64, m2)))))))))
set_option maxHeartbeats 4000000 in
set_option maxRecDepth 100000 in
theorem cX12_sign_ct (z : Zx) (ad : Nat → Nat) (v0 : Nat) (v1 : Int32) (v2 : Int32) (m m2 : Mem) (r : Int64) (hf : fX12_sign v0 v1 v2 m = some (r, m2)) : CtL z wM yX12_sign cX12_sign 3 (some .long) (Rm 4) ad 17 [.ref (ad v0), .int v1, .int v2] m m2 r := by
  refine ct_ofL mi_X12_sign rfl (Nat.le_of_ble_eq_true rfl) (fun x X hret => ?_)
  refine g_lv [(0, .ref (ad v0)), (1, .int v1), (2, .int v2)] [0, 1, 2] rfl ?_
  have hL25 : ∀ (m : Mem), fX12_sign_25 m = some (r, m2) → G z wM x 3 0 0 ad 17 m 25 [] [] := by
    intro m hf
    unfold fX12_sign_25 at hf
    refine g_ldc2 (pc := 25) X dX12_sign_25 kl_X12_81 ?_
    refine g_goto (pc := 28) (tgt := 52) X dX12_sign_28 (by decide) ?_
    obtain ⟨rfl, rfl⟩ := som2 hf
    exact hret _ _ dX12_sign_52
  unfold fX12_sign at hf
  refine g_aload_n (pc := 0) X dX12_sign_0 rfl 0 rfl ?_
  refine g_iconst (v := (0 : Int32)) (pc := 1) X dX12_sign_1 (by decide) ?_
  obtain ⟨hk1, hf⟩ := gp_some hf
  refine g_putI (pc := 2) X fl_X12_60 (KMlt hk1 (by decide)) hk1 rfl rfl dX12_sign_2 ?_
  obtain ⟨m2, e3, hf⟩ := lt1_some hf
  refine g_mem e3 ?_
  refine g_aload_n (pc := 5) X dX12_sign_5 rfl 0 rfl ?_
  refine g_iload_n (pc := 6) X dX12_sign_6 rfl 1 rfl ?_
  obtain ⟨r5, hq4, hf⟩ := bnd_some hf
  refine g_callVI (pc := 7) (As := [.int v1]) (rest := []) X mi_X12_isSign im_X12_isSign se_X12_isSign (KMlt hk1 (by decide)) hk1 clX12 ml_X12_360 (cX12_isSign_ct z ad v0 v1 m2 r5 hq4) rfl rfl (Nat.le_of_ble_eq_true rfl) ⟨rfl, rfl, by decide, by decide, Nat.le_refl _, Nat.le_refl _⟩ dX12_sign_7 ?_
  refine g_if_eq (pc := 10) (tgt := 25) X dX12_sign_10 (by decide) (fun hc => ?_) (fun hc => ?_)
  · have hf := itp hc hf
    refine g_lv [] [] rfl ?_
    exact hL25 _ hf
  · have hf := itn hc hf
    refine g_iload_n (pc := 13) X dX12_sign_13 rfl 2 rfl ?_
    refine g_i2l (pc := 14) X dX12_sign_14 ?_
    refine g_lconst (v := (0 : Int64)) (pc := 15) X dX12_sign_15 (by decide) ?_
    refine g_ldc2 (pc := 16) X dX12_sign_16 kl_X12_79 ?_
    obtain ⟨r7, hq6, hf⟩ := bnd_some hf
    refine g_callSI (pc := 19) (As := [.long v2.toInt64, .long (0 : Int64), .long (2 : Int64)]) (rest := []) X mi_X12_in sm_X12_in ml_X12_71 (cX12_in_ct z ad v2.toInt64 (0 : Int64) (2 : Int64) m2 r7 hq6) rfl rfl (Nat.le_of_ble_eq_true rfl) ⟨rfl, rfl, by decide, by decide, Nat.le_refl _, Nat.le_refl _⟩ dX12_sign_19 ?_
    refine g_if_ne (pc := 22) (tgt := 31) X dX12_sign_22 (by decide) (fun hc => ?_) (fun hc => ?_)
    · have hf := itn hc hf
      refine g_iload_n (pc := 31) X dX12_sign_31 rfl 2 rfl ?_
      refine g_if_ne (pc := 32) (tgt := 45) X dX12_sign_32 (by decide) (fun hc => ?_) (fun hc => ?_)
      · have hf := itn hc hf
        refine g_aload_n (pc := 45) X dX12_sign_45 rfl 0 rfl ?_
        refine g_iload_n (pc := 46) X dX12_sign_46 rfl 1 rfl ?_
        refine g_iload_n (pc := 47) X dX12_sign_47 rfl 2 rfl ?_
        obtain ⟨r9, hq8, hf⟩ := bnd_some hf
        refine g_callVI (pc := 48) (As := [.int v1, .int v2]) (rest := []) X mi_X12_storiesBy im_X12_storiesBy se_X12_storiesBy (KMlt hk1 (by decide)) hk1 clX12 ml_X12_366 (cX12_storiesBy_ct z ad v0 v1 v2 m2 r9 hq8) rfl rfl (Nat.le_of_ble_eq_true rfl) ⟨rfl, rfl, by decide, by decide, Nat.le_refl _, Nat.le_refl _⟩ dX12_sign_48 ?_
        refine g_i2l (pc := 51) X dX12_sign_51 ?_
        obtain ⟨rfl, rfl⟩ := som2 hf
        exact hret _ _ dX12_sign_52
      · have hf := itp hc hf
        refine g_aload_n (pc := 35) X dX12_sign_35 rfl 0 rfl ?_
        refine g_iload_n (pc := 36) X dX12_sign_36 rfl 1 rfl ?_
        refine g_iconst (v := (1 : Int32)) (pc := 37) X dX12_sign_37 (by decide) ?_
        obtain ⟨r11, hq10, hf⟩ := bnd_some hf
        refine g_callVI (pc := 38) (As := [.int v1, .int (1 : Int32)]) (rest := []) X mi_X12_signOf im_X12_signOf se_X12_signOf (KMlt hk1 (by decide)) hk1 clX12 ml_X12_363 (cX12_signOf_ct z ad v0 v1 (1 : Int32) m2 r11 hq10) rfl rfl (Nat.le_of_ble_eq_true rfl) ⟨rfl, rfl, by decide, by decide, Nat.le_refl _, Nat.le_refl _⟩ dX12_sign_38 ?_
        refine g_i2l (pc := 41) X dX12_sign_41 ?_
        refine g_goto (pc := 42) (tgt := 52) X dX12_sign_42 (by decide) ?_
        obtain ⟨rfl, rfl⟩ := som2 hf
        exact hret _ _ dX12_sign_52
    · have hf := itp hc hf
      refine g_lv [] [] rfl ?_
      exact hL25 _ hf

noncomputable def fX12_sworn_101 (v0 : Nat) (v1 : Int32) (v2 : Int32) (v4 : Int32) (s0 : Int32) (s1 : Int32) (m : Mem) : Option ((Int32 × Int32) ⊕ (Int32)) := lt1 (s0 ||| s1) (fun v3_1 => lt1 (v4 + 1) (fun v4_3 => some (.inl (v3_1, v4_3))))
noncomputable def fX12_sworn_85 (v0 : Nat) (v1 : Int32) (v2 : Int32) (v3 : Int32) (v4 : Int32) (s0 : Int32) (m : Mem) : Option ((Int32 × Int32) ⊕ (Int32)) := if s0 = 0 then (fX12_sworn_101 v0 v1 v2 v4 v3 (0 : Int32) m) else (fX12_sworn_101 v0 v1 v2 v4 v3 ((1 : Int32) <<< (v4 &&& 31)) m)
noncomputable def fX12_sworn_84 (v0 : Nat) (v1 : Int32) (v2 : Int32) (v3 : Int32) (v4 : Int32) (m : Mem) : Option ((Int32 × Int32) ⊕ (Int32)) := fX12_sworn_85 v0 v1 v2 v3 v4 (0 : Int32) m
noncomputable def fX12_sworn_58 (v0 : Nat) (v1 : Int32) (v2 : Int32) (v3 : Int32) (v4 : Int32) (m : Mem) : Option ((Int32 × Int32) ⊕ (Int32)) := fX12_sworn_85 v0 v1 v2 v3 v4 (0 : Int32) m
noncomputable def fX12_sworn_54 (v0 : Nat) (v1 : Int32) (v2 : Int32) (v3 : Int32) (v4 : Int32) (m : Mem) : Option ((Int32 × Int32) ⊕ (Int32)) := fX12_sworn_85 v0 v1 v2 v3 v4 (1 : Int32) m
noncomputable def fX12_sworn_5b (v0 : Nat) (v1 : Int32) (v2 : Int32) (v3 : Int32) (v4 : Int32) (m : Mem) : Option ((Int32 × Int32) ⊕ (Int32)) := gp (KM v0 = 12) (bnd (m.2.2 v0 5) (fun q6 => gp (KM q6 = 14) (gp (inb (4 : Int32) (NM q6) = true) (if (m.1 q6 (4 : Int32).toNatClampNeg) ≤ v4 then (some (.inr (v3))) else (bnd (fX12_signOf v0 v4 (0 : Int32) m) (fun r11 => if v2 = 0 then (if r11 = (7 : Int32) then (fX12_sworn_84 v0 v1 v2 v3 v4 m) else (bnd (fX12_signOf v0 v4 (1 : Int32) m) (fun r13 => if v1 < r13 then (fX12_sworn_84 v0 v1 v2 v3 v4 m) else (fX12_sworn_85 v0 v1 v2 v3 v4 (1 : Int32) m)))) else (if r11 = (7 : Int32) then (fX12_sworn_54 v0 v1 v2 v3 v4 m) else (if r11 = (6 : Int32) then (bnd (fX12_signOf v0 v4 (1 : Int32) m) (fun r15 => if r15 ≤ v1 then (fX12_sworn_58 v0 v1 v2 v3 v4 m) else (fX12_sworn_54 v0 v1 v2 v3 v4 m))) else (fX12_sworn_58 v0 v1 v2 v3 v4 m)))))))))
noncomputable def fX12_sworn_5 (v0 : Nat) (v1 : Int32) (v2 : Int32) (v3 : Int32) (v4 : Int32) (m : Mem) : Option Int32 := bnd (iter (fun s => fX12_sworn_5b v0 v1 v2 s.1 s.2 m) FU (v3, v4)) (fun e => some e)
noncomputable def fX12_sworn (v0 : Nat) (v1 : Int32) (v2 : Int32) (m : Mem) : Option Int32 := lt1 ((0 : Int32)) (fun v3_16 => lt1 ((0 : Int32)) (fun v4_18 => fX12_sworn_5 v0 v1 v2 v3_16 v4_18 m))
set_option maxHeartbeats 4000000 in
set_option maxRecDepth 100000 in
theorem cX12_sworn_ct (z : Zx) (ad : Nat → Nat) (v0 : Nat) (v1 : Int32) (v2 : Int32) (m : Mem) (r : Int32) (hf : fX12_sworn v0 v1 v2 m = some r) : CtI z wM yX12_sworn cX12_sworn 7 (some .int) (Rm 3) ad 17 [.ref (ad v0), .int v1, .int v2] m m r := by
  refine ct_ofI mi_X12_sworn rfl (Nat.le_of_ble_eq_true rfl) (fun x X hret => ?_)
  refine g_lv [(0, .ref (ad v0)), (1, .int v1), (2, .int v2)] [0, 1, 2] rfl ?_
  have hL5 : ∀ (v0 : Nat) (v1 : Int32) (v2 : Int32) (v3 : Int32) (v4 : Int32), fX12_sworn_5 v0 v1 v2 v3 v4 m = some r → G z wM x 7 0 0 ad 17 m 5 [(0, .ref (ad v0)), (1, .int v1), (2, .int v2), (3, .int v3), (4, .int v4)] [] := by
    intro v0 v1 v2 v3 v4 hf
    unfold fX12_sworn_5 at hf
    obtain ⟨e5, hit5, hrest5⟩ := bnd_some hf
    refine iter_ok (Hd := fun (s : (Int32 × Int32)) => G z wM x 7 0 0 ad 17 m 5 [(0, .ref (ad v0)), (1, .int v1), (2, .int v2), (3, .int s.1), (4, .int s.2)] []) ?_ FU (v3, v4) hit5
    intro s ob5 hf hs5 he5
    obtain ⟨v3, v4⟩ := s
    have hf : fX12_sworn_5b v0 v1 v2 v3 v4 m = some ob5 := hf
    have hL101 : ∀ (v4 : Int32) (s0 : Int32) (s1 : Int32), fX12_sworn_101 v0 v1 v2 v4 s0 s1 m = some ob5 → G z wM x 7 0 0 ad 17 m 101 [(0, .ref (ad v0)), (1, .int v1), (2, .int v2), (4, .int v4)] [.int s1, .int s0] := by
      intro v4 s0 s1 hf
      unfold fX12_sworn_101 at hf
      refine g_ior (pc := 101) X dX12_sworn_101 ?_
      obtain ⟨v3_1, e2, hf⟩ := lt1_some hf
      refine g_topi e2 ?_
      refine g_istore_n (lv2 := [(0, .ref (ad v0)), (1, .int v1), (2, .int v2), (3, .int v3_1), (4, .int v4)]) (pc := 102) X dX12_sworn_102 rfl (by decide) [1, 2, 3, 0, 4] rfl ?_
      obtain ⟨v4_3, e4, hf⟩ := lt1_some hf
      refine g_iinc (v2 := v4_3) (lv2 := [(0, .ref (ad v0)), (1, .int v1), (2, .int v2), (3, .int v3_1), (4, .int v4_3)]) (pc := 103) X dX12_sworn_103 4 rfl (by rw [e4]; rfl) (by decide) [1, 2, 3, 4, 0] rfl ?_
      refine g_goto (pc := 106) (tgt := 5) X dX12_sworn_106 (by decide) ?_
      exact hs5 (v3_1, v4_3) (Option.some.inj hf).symm
    have hL85 : ∀ (v3 : Int32) (v4 : Int32) (s0 : Int32), fX12_sworn_85 v0 v1 v2 v3 v4 s0 m = some ob5 → G z wM x 7 0 0 ad 17 m 85 [(0, .ref (ad v0)), (1, .int v1), (2, .int v2), (3, .int v3), (4, .int v4)] [.int s0] := by
      intro v3 v4 s0 hf
      unfold fX12_sworn_85 at hf
      refine g_istore (lv2 := [(0, .ref (ad v0)), (1, .int v1), (2, .int v2), (3, .int v3), (4, .int v4), (6, .int s0)]) (pc := 85) X dX12_sworn_85 (by decide) [1, 2, 3, 4, 5, 0] rfl ?_
      refine g_iload_n (pc := 87) X dX12_sworn_87 rfl 3 rfl ?_
      refine g_iload (pc := 88) X dX12_sworn_88 5 rfl ?_
      refine g_if_eq (pc := 90) (tgt := 100) X dX12_sworn_90 (by decide) (fun hc => ?_) (fun hc => ?_)
      · have hf := itp hc hf
        refine g_iconst (v := (0 : Int32)) (pc := 100) X dX12_sworn_100 (by decide) ?_
        refine g_lv [(0, .ref (ad v0)), (1, .int v1), (2, .int v2), (4, .int v4)] [0, 1, 2, 4] rfl ?_
        exact hL101 _ _ _ hf
      · have hf := itn hc hf
        refine g_iconst (v := (1 : Int32)) (pc := 93) X dX12_sworn_93 (by decide) ?_
        refine g_iload (pc := 94) X dX12_sworn_94 4 rfl ?_
        refine g_ishl (pc := 96) X dX12_sworn_96 ?_
        refine g_goto (pc := 97) (tgt := 101) X dX12_sworn_97 (by decide) ?_
        refine g_lv [(0, .ref (ad v0)), (1, .int v1), (2, .int v2), (4, .int v4)] [0, 1, 2, 4] rfl ?_
        exact hL101 _ _ _ hf
    have hL84 : ∀ (v3 : Int32) (v4 : Int32), fX12_sworn_84 v0 v1 v2 v3 v4 m = some ob5 → G z wM x 7 0 0 ad 17 m 84 [(0, .ref (ad v0)), (1, .int v1), (2, .int v2), (3, .int v3), (4, .int v4)] [] := by
      intro v3 v4 hf
      unfold fX12_sworn_84 at hf
      refine g_iconst (v := (0 : Int32)) (pc := 84) X dX12_sworn_84 (by decide) ?_
      exact hL85 _ _ _ hf
    have hL58 : ∀ (v3 : Int32) (v4 : Int32), fX12_sworn_58 v0 v1 v2 v3 v4 m = some ob5 → G z wM x 7 0 0 ad 17 m 58 [(0, .ref (ad v0)), (1, .int v1), (2, .int v2), (3, .int v3), (4, .int v4)] [] := by
      intro v3 v4 hf
      unfold fX12_sworn_58 at hf
      refine g_iconst (v := (0 : Int32)) (pc := 58) X dX12_sworn_58 (by decide) ?_
      refine g_goto (pc := 59) (tgt := 85) X dX12_sworn_59 (by decide) ?_
      exact hL85 _ _ _ hf
    have hL54 : ∀ (v3 : Int32) (v4 : Int32), fX12_sworn_54 v0 v1 v2 v3 v4 m = some ob5 → G z wM x 7 0 0 ad 17 m 54 [(0, .ref (ad v0)), (1, .int v1), (2, .int v2), (3, .int v3), (4, .int v4)] [] := by
      intro v3 v4 hf
      unfold fX12_sworn_54 at hf
      refine g_iconst (v := (1 : Int32)) (pc := 54) X dX12_sworn_54 (by decide) ?_
      refine g_goto (pc := 55) (tgt := 85) X dX12_sworn_55 (by decide) ?_
      exact hL85 _ _ _ hf
    unfold fX12_sworn_5b at hf
    refine g_iload (pc := 5) X dX12_sworn_5 4 rfl ?_
    refine g_aload_n (pc := 7) X dX12_sworn_7 rfl 0 rfl ?_
    obtain ⟨hk5, hf⟩ := gp_some hf
    obtain ⟨q6, hr7, hf⟩ := bnd_some hf
    refine g_getR (pc := 8) X fl_X12_19 (KMlt hk5 (by decide)) hk5 hr7 dX12_sworn_8 ?_
    refine g_iconst (v := (4 : Int32)) (pc := 11) X dX12_sworn_11 (by decide) ?_
    obtain ⟨hk8, hf⟩ := gp_some hf
    obtain ⟨hi9, hf⟩ := gp_some hf
    refine g_iald (pc := 12) X (KMlt hk8 (by decide)) hk8 hi9 dX12_sworn_12 ?_
    refine g_icmp_ge (pc := 13) (tgt := 109) X dX12_sworn_13 (by decide) (fun hc => ?_) (fun hc => ?_)
    · have hf := itp hc hf
      have he5 := he5 _ (Option.some.inj hf).symm
      subst he5
      have hf : some v3 = some r := hrest5
      refine g_iload_n (pc := 109) X dX12_sworn_109 rfl 3 rfl ?_
      obtain rfl := Option.some.inj hf
      exact hret _ _ rfl dX12_sworn_110
    · have hf := itn hc hf
      refine g_aload_n (pc := 16) X dX12_sworn_16 rfl 0 rfl ?_
      refine g_iload (pc := 17) X dX12_sworn_17 4 rfl ?_
      refine g_iconst (v := (0 : Int32)) (pc := 19) X dX12_sworn_19 (by decide) ?_
      obtain ⟨r11, hq10, hf⟩ := bnd_some hf
      refine g_callVI (pc := 20) (As := [.int v4, .int (0 : Int32)]) (rest := []) X mi_X12_signOf im_X12_signOf se_X12_signOf (KMlt hk5 (by decide)) hk5 clX12 ml_X12_363 (cX12_signOf_ct z ad v0 v4 (0 : Int32) m r11 hq10) rfl rfl (Nat.le_of_ble_eq_true rfl) ⟨rfl, rfl, by decide, by decide, Nat.le_refl _, Nat.le_refl _⟩ dX12_sworn_20 ?_
      refine g_istore (lv2 := [(0, .ref (ad v0)), (1, .int v1), (2, .int v2), (3, .int v3), (4, .int v4), (5, .int r11)]) (pc := 23) X dX12_sworn_23 (by decide) [1, 2, 3, 4, 5, 0] rfl ?_
      refine g_iload_n (pc := 25) X dX12_sworn_25 rfl 2 rfl ?_
      refine g_if_eq (pc := 26) (tgt := 62) X dX12_sworn_26 (by decide) (fun hc => ?_) (fun hc => ?_)
      · have hf := itp hc hf
        refine g_iload (pc := 62) X dX12_sworn_62 5 rfl ?_
        refine g_bipush (v := (7 : Int32)) (pc := 64) X dX12_sworn_64 (by decide) ?_
        refine g_icmp_eq (pc := 66) (tgt := 84) X dX12_sworn_66 (by decide) (fun hc => ?_) (fun hc => ?_)
        · have hf := itp hc hf
          refine g_lv [(0, .ref (ad v0)), (1, .int v1), (2, .int v2), (3, .int v3), (4, .int v4)] [0, 1, 2, 3, 4] rfl ?_
          exact hL84 _ _ hf
        · have hf := itn hc hf
          refine g_aload_n (pc := 69) X dX12_sworn_69 rfl 0 rfl ?_
          refine g_iload (pc := 70) X dX12_sworn_70 4 rfl ?_
          refine g_iconst (v := (1 : Int32)) (pc := 72) X dX12_sworn_72 (by decide) ?_
          obtain ⟨r13, hq12, hf⟩ := bnd_some hf
          refine g_callVI (pc := 73) (As := [.int v4, .int (1 : Int32)]) (rest := []) X mi_X12_signOf im_X12_signOf se_X12_signOf (KMlt hk5 (by decide)) hk5 clX12 ml_X12_363 (cX12_signOf_ct z ad v0 v4 (1 : Int32) m r13 hq12) rfl rfl (Nat.le_of_ble_eq_true rfl) ⟨rfl, rfl, by decide, by decide, Nat.le_refl _, Nat.le_refl _⟩ dX12_sworn_73 ?_
          refine g_iload_n (pc := 76) X dX12_sworn_76 rfl 1 rfl ?_
          refine g_icmp_gt (pc := 77) (tgt := 84) X dX12_sworn_77 (by decide) (fun hc => ?_) (fun hc => ?_)
          · have hf := itp hc hf
            refine g_lv [(0, .ref (ad v0)), (1, .int v1), (2, .int v2), (3, .int v3), (4, .int v4)] [0, 1, 2, 3, 4] rfl ?_
            exact hL84 _ _ hf
          · have hf := itn hc hf
            refine g_iconst (v := (1 : Int32)) (pc := 80) X dX12_sworn_80 (by decide) ?_
            refine g_goto (pc := 81) (tgt := 85) X dX12_sworn_81 (by decide) ?_
            refine g_lv [(0, .ref (ad v0)), (1, .int v1), (2, .int v2), (3, .int v3), (4, .int v4)] [0, 1, 2, 3, 4] rfl ?_
            exact hL85 _ _ _ hf
      · have hf := itn hc hf
        refine g_iload (pc := 29) X dX12_sworn_29 5 rfl ?_
        refine g_bipush (v := (7 : Int32)) (pc := 31) X dX12_sworn_31 (by decide) ?_
        refine g_icmp_eq (pc := 33) (tgt := 54) X dX12_sworn_33 (by decide) (fun hc => ?_) (fun hc => ?_)
        · have hf := itp hc hf
          refine g_lv [(0, .ref (ad v0)), (1, .int v1), (2, .int v2), (3, .int v3), (4, .int v4)] [0, 1, 2, 3, 4] rfl ?_
          exact hL54 _ _ hf
        · have hf := itn hc hf
          refine g_iload (pc := 36) X dX12_sworn_36 5 rfl ?_
          refine g_bipush (v := (6 : Int32)) (pc := 38) X dX12_sworn_38 (by decide) ?_
          refine g_icmp_ne (pc := 40) (tgt := 58) X dX12_sworn_40 (by decide) (fun hc => ?_) (fun hc => ?_)
          · have hf := itn hc hf
            refine g_lv [(0, .ref (ad v0)), (1, .int v1), (2, .int v2), (3, .int v3), (4, .int v4)] [0, 1, 2, 3, 4] rfl ?_
            exact hL58 _ _ hf
          · have hf := itp hc hf
            refine g_aload_n (pc := 43) X dX12_sworn_43 rfl 0 rfl ?_
            refine g_iload (pc := 44) X dX12_sworn_44 4 rfl ?_
            refine g_iconst (v := (1 : Int32)) (pc := 46) X dX12_sworn_46 (by decide) ?_
            obtain ⟨r15, hq14, hf⟩ := bnd_some hf
            refine g_callVI (pc := 47) (As := [.int v4, .int (1 : Int32)]) (rest := []) X mi_X12_signOf im_X12_signOf se_X12_signOf (KMlt hk5 (by decide)) hk5 clX12 ml_X12_363 (cX12_signOf_ct z ad v0 v4 (1 : Int32) m r15 hq14) rfl rfl (Nat.le_of_ble_eq_true rfl) ⟨rfl, rfl, by decide, by decide, Nat.le_refl _, Nat.le_refl _⟩ dX12_sworn_47 ?_
            refine g_iload_n (pc := 50) X dX12_sworn_50 rfl 1 rfl ?_
            refine g_icmp_le (pc := 51) (tgt := 58) X dX12_sworn_51 (by decide) (fun hc => ?_) (fun hc => ?_)
            · have hf := itp hc hf
              refine g_lv [(0, .ref (ad v0)), (1, .int v1), (2, .int v2), (3, .int v3), (4, .int v4)] [0, 1, 2, 3, 4] rfl ?_
              exact hL58 _ _ hf
            · have hf := itn hc hf
              refine g_lv [(0, .ref (ad v0)), (1, .int v1), (2, .int v2), (3, .int v3), (4, .int v4)] [0, 1, 2, 3, 4] rfl ?_
              exact hL54 _ _ hf
  unfold fX12_sworn at hf
  refine g_iconst (v := (0 : Int32)) (pc := 0) X dX12_sworn_0 (by decide) ?_
  obtain ⟨v3_16, e17, hf⟩ := lt1_some hf
  refine g_topi e17 ?_
  refine g_istore_n (lv2 := [(0, .ref (ad v0)), (1, .int v1), (2, .int v2), (3, .int v3_16)]) (pc := 1) X dX12_sworn_1 rfl (by decide) [1, 2, 3, 0] rfl ?_
  refine g_iconst (v := (0 : Int32)) (pc := 2) X dX12_sworn_2 (by decide) ?_
  obtain ⟨v4_18, e19, hf⟩ := lt1_some hf
  refine g_topi e19 ?_
  refine g_istore (lv2 := [(0, .ref (ad v0)), (1, .int v1), (2, .int v2), (3, .int v3_16), (4, .int v4_18)]) (pc := 3) X dX12_sworn_3 (by decide) [1, 2, 3, 4, 0] rfl ?_
  exact hL5 _ _ _ _ _ hf

noncomputable def fX12_oath (v0 : Nat) (v1 : Int32) (m : Mem) : Option (Int64 × Mem) := gp (KM v0 = 12) (lt1 (uI m v0 0 (0 : Int32)) (fun m2 => if (m2.1 v0 7) = 0 then (some ((-9000000000000000002 : Int64), m2)) else (bnd (fX12_in v1.toInt64 (0 : Int64) (9 : Int64)) (fun r5 => if r5 = 0 then (some ((-9000000000000000001 : Int64), m2)) else (bnd (fX12_sworn v0 v1 (0 : Int32) m2) (fun r7 => some (r7.toInt64, m2)))))))
set_option maxHeartbeats 4000000 in
set_option maxRecDepth 100000 in
theorem cX12_oath_ct (z : Zx) (ad : Nat → Nat) (v0 : Nat) (v1 : Int32) (m m2 : Mem) (r : Int64) (hf : fX12_oath v0 v1 m = some (r, m2)) : CtL z wM yX12_oath cX12_oath 2 (some .long) (Rm 4) ad 17 [.ref (ad v0), .int v1] m m2 r := by
  refine ct_ofL mi_X12_oath rfl (Nat.le_of_ble_eq_true rfl) (fun x X hret => ?_)
  refine g_lv [(0, .ref (ad v0)), (1, .int v1)] [0, 1] rfl ?_
  unfold fX12_oath at hf
  refine g_aload_n (pc := 0) X dX12_oath_0 rfl 0 rfl ?_
  refine g_iconst (v := (0 : Int32)) (pc := 1) X dX12_oath_1 (by decide) ?_
  obtain ⟨hk1, hf⟩ := gp_some hf
  refine g_putI (pc := 2) X fl_X12_60 (KMlt hk1 (by decide)) hk1 rfl rfl dX12_oath_2 ?_
  obtain ⟨m2, e3, hf⟩ := lt1_some hf
  refine g_mem e3 ?_
  refine g_aload_n (pc := 5) X dX12_oath_5 rfl 0 rfl ?_
  refine g_getI (pc := 6) X fl_X12_238 (KMlt hk1 (by decide)) hk1 dX12_oath_6 ?_
  refine g_if_ne (pc := 9) (tgt := 18) X dX12_oath_9 (by decide) (fun hc => ?_) (fun hc => ?_)
  · have hf := itn hc hf
    refine g_iload_n (pc := 18) X dX12_oath_18 rfl 1 rfl ?_
    refine g_i2l (pc := 19) X dX12_oath_19 ?_
    refine g_lconst (v := (0 : Int64)) (pc := 20) X dX12_oath_20 (by decide) ?_
    refine g_ldc2 (pc := 21) X dX12_oath_21 kl_X12_369 ?_
    obtain ⟨r5, hq4, hf⟩ := bnd_some hf
    refine g_callSI (pc := 24) (As := [.long v1.toInt64, .long (0 : Int64), .long (9 : Int64)]) (rest := []) X mi_X12_in sm_X12_in ml_X12_71 (cX12_in_ct z ad v1.toInt64 (0 : Int64) (9 : Int64) m2 r5 hq4) rfl rfl (Nat.le_of_ble_eq_true rfl) ⟨rfl, rfl, by decide, by decide, Nat.le_refl _, Nat.le_refl _⟩ dX12_oath_24 ?_
    refine g_if_eq (pc := 27) (tgt := 40) X dX12_oath_27 (by decide) (fun hc => ?_) (fun hc => ?_)
    · have hf := itp hc hf
      refine g_ldc2 (pc := 40) X dX12_oath_40 kl_X12_81 ?_
      obtain ⟨rfl, rfl⟩ := som2 hf
      exact hret _ _ dX12_oath_43
    · have hf := itn hc hf
      refine g_aload_n (pc := 30) X dX12_oath_30 rfl 0 rfl ?_
      refine g_iload_n (pc := 31) X dX12_oath_31 rfl 1 rfl ?_
      refine g_iconst (v := (0 : Int32)) (pc := 32) X dX12_oath_32 (by decide) ?_
      obtain ⟨r7, hq6, hf⟩ := bnd_some hf
      refine g_callVI (pc := 33) (As := [.int v1, .int (0 : Int32)]) (rest := []) X mi_X12_sworn im_X12_sworn se_X12_sworn (KMlt hk1 (by decide)) hk1 clX12 ml_X12_371 (cX12_sworn_ct z ad v0 v1 (0 : Int32) m2 r7 hq6) rfl rfl (Nat.le_of_ble_eq_true rfl) ⟨rfl, rfl, by decide, by decide, Nat.le_refl _, Nat.le_refl _⟩ dX12_oath_33 ?_
      refine g_i2l (pc := 36) X dX12_oath_36 ?_
      refine g_goto (pc := 37) (tgt := 43) X dX12_oath_37 (by decide) ?_
      obtain ⟨rfl, rfl⟩ := som2 hf
      exact hret _ _ dX12_oath_43
  · have hf := itp hc hf
    refine g_ldc2 (pc := 12) X dX12_oath_12 kl_X12_259 ?_
    refine g_goto (pc := 15) (tgt := 43) X dX12_oath_15 (by decide) ?_
    obtain ⟨rfl, rfl⟩ := som2 hf
    exact hret _ _ dX12_oath_43

noncomputable def fX12_madeUp (v0 : Nat) (v1 : Int32) (m : Mem) : Option (Int64 × Mem) := gp (KM v0 = 12) (lt1 (uI m v0 0 (0 : Int32)) (fun m2 => if (m2.1 v0 7) = 0 then (some ((-9000000000000000002 : Int64), m2)) else (bnd (fX12_in v1.toInt64 (0 : Int64) (9 : Int64)) (fun r5 => if r5 = 0 then (some ((-9000000000000000001 : Int64), m2)) else (bnd (fX12_sworn v0 v1 (1 : Int32) m2) (fun r7 => some (r7.toInt64, m2)))))))
set_option maxHeartbeats 4000000 in
set_option maxRecDepth 100000 in
theorem cX12_madeUp_ct (z : Zx) (ad : Nat → Nat) (v0 : Nat) (v1 : Int32) (m m2 : Mem) (r : Int64) (hf : fX12_madeUp v0 v1 m = some (r, m2)) : CtL z wM yX12_madeUp cX12_madeUp 2 (some .long) (Rm 4) ad 17 [.ref (ad v0), .int v1] m m2 r := by
  refine ct_ofL mi_X12_madeUp rfl (Nat.le_of_ble_eq_true rfl) (fun x X hret => ?_)
  refine g_lv [(0, .ref (ad v0)), (1, .int v1)] [0, 1] rfl ?_
  unfold fX12_madeUp at hf
  refine g_aload_n (pc := 0) X dX12_madeUp_0 rfl 0 rfl ?_
  refine g_iconst (v := (0 : Int32)) (pc := 1) X dX12_madeUp_1 (by decide) ?_
  obtain ⟨hk1, hf⟩ := gp_some hf
  refine g_putI (pc := 2) X fl_X12_60 (KMlt hk1 (by decide)) hk1 rfl rfl dX12_madeUp_2 ?_
  obtain ⟨m2, e3, hf⟩ := lt1_some hf
  refine g_mem e3 ?_
  refine g_aload_n (pc := 5) X dX12_madeUp_5 rfl 0 rfl ?_
  refine g_getI (pc := 6) X fl_X12_238 (KMlt hk1 (by decide)) hk1 dX12_madeUp_6 ?_
  refine g_if_ne (pc := 9) (tgt := 18) X dX12_madeUp_9 (by decide) (fun hc => ?_) (fun hc => ?_)
  · have hf := itn hc hf
    refine g_iload_n (pc := 18) X dX12_madeUp_18 rfl 1 rfl ?_
    refine g_i2l (pc := 19) X dX12_madeUp_19 ?_
    refine g_lconst (v := (0 : Int64)) (pc := 20) X dX12_madeUp_20 (by decide) ?_
    refine g_ldc2 (pc := 21) X dX12_madeUp_21 kl_X12_369 ?_
    obtain ⟨r5, hq4, hf⟩ := bnd_some hf
    refine g_callSI (pc := 24) (As := [.long v1.toInt64, .long (0 : Int64), .long (9 : Int64)]) (rest := []) X mi_X12_in sm_X12_in ml_X12_71 (cX12_in_ct z ad v1.toInt64 (0 : Int64) (9 : Int64) m2 r5 hq4) rfl rfl (Nat.le_of_ble_eq_true rfl) ⟨rfl, rfl, by decide, by decide, Nat.le_refl _, Nat.le_refl _⟩ dX12_madeUp_24 ?_
    refine g_if_eq (pc := 27) (tgt := 40) X dX12_madeUp_27 (by decide) (fun hc => ?_) (fun hc => ?_)
    · have hf := itp hc hf
      refine g_ldc2 (pc := 40) X dX12_madeUp_40 kl_X12_81 ?_
      obtain ⟨rfl, rfl⟩ := som2 hf
      exact hret _ _ dX12_madeUp_43
    · have hf := itn hc hf
      refine g_aload_n (pc := 30) X dX12_madeUp_30 rfl 0 rfl ?_
      refine g_iload_n (pc := 31) X dX12_madeUp_31 rfl 1 rfl ?_
      refine g_iconst (v := (1 : Int32)) (pc := 32) X dX12_madeUp_32 (by decide) ?_
      obtain ⟨r7, hq6, hf⟩ := bnd_some hf
      refine g_callVI (pc := 33) (As := [.int v1, .int (1 : Int32)]) (rest := []) X mi_X12_sworn im_X12_sworn se_X12_sworn (KMlt hk1 (by decide)) hk1 clX12 ml_X12_371 (cX12_sworn_ct z ad v0 v1 (1 : Int32) m2 r7 hq6) rfl rfl (Nat.le_of_ble_eq_true rfl) ⟨rfl, rfl, by decide, by decide, Nat.le_refl _, Nat.le_refl _⟩ dX12_madeUp_33 ?_
      refine g_i2l (pc := 36) X dX12_madeUp_36 ?_
      refine g_goto (pc := 37) (tgt := 43) X dX12_madeUp_37 (by decide) ?_
      obtain ⟨rfl, rfl⟩ := som2 hf
      exact hret _ _ dX12_madeUp_43
  · have hf := itp hc hf
    refine g_ldc2 (pc := 12) X dX12_madeUp_12 kl_X12_259 ?_
    refine g_goto (pc := 15) (tgt := 43) X dX12_madeUp_15 (by decide) ?_
    obtain ⟨rfl, rfl⟩ := som2 hf
    exact hret _ _ dX12_madeUp_43

noncomputable def fX12_weightOf_121 (v0 : Nat) (v1 : Int32) (v2 : Int32) (v5 : Int32) (s0 : Int64) (s1 : Int64) (m : Mem) : Option ((Int64 × Int32) ⊕ (Int64)) := lt1 (s0 * s1) (fun v3_1 => lt1 (v5 + 1) (fun v5_3 => some (.inl (v3_1, v5_3))))
noncomputable def fX12_weightOf_118 (v0 : Nat) (v1 : Int32) (v2 : Int32) (v5 : Int32) (s0 : Int64) (m : Mem) : Option ((Int64 × Int32) ⊕ (Int64)) := fX12_weightOf_121 v0 v1 v2 v5 s0 (2 : Int64) m
noncomputable def fX12_weightOf_81 (v0 : Nat) (v1 : Int32) (v2 : Int32) (v3 : Int64) (v5 : Int32) (v6 : Int32) (v7 : Int32) (s0 : Int32) (m : Mem) : Option ((Int64 × Int32) ⊕ (Int64)) := if v7 = 0 then (if s0 = 0 then (fX12_weightOf_118 v0 v1 v2 v5 v3 m) else (if v6 = 0 then (fX12_weightOf_118 v0 v1 v2 v5 v3 m) else (fX12_weightOf_121 v0 v1 v2 v5 v3 (0 : Int64) m))) else (if v6 = 0 then (fX12_weightOf_121 v0 v1 v2 v5 v3 (1 : Int64) m) else (fX12_weightOf_121 v0 v1 v2 v5 v3 (4 : Int64) m))
noncomputable def fX12_weightOf_59 (v0 : Nat) (v1 : Int32) (v2 : Int32) (v3 : Int64) (v5 : Int32) (v6 : Int32) (s0 : Int32) (m : Mem) : Option ((Int64 × Int32) ⊕ (Int64)) := gp (KM v0 = 12) (bnd (fX12_storyOf v0 v1 (2 : Int32) m) (fun r6 => if ((r6 >>> (v5 &&& 31)) &&& (1 : Int32)) = (1 : Int32) then (fX12_weightOf_81 v0 v1 v2 v3 v5 v6 s0 (1 : Int32) m) else (fX12_weightOf_81 v0 v1 v2 v3 v5 v6 s0 (0 : Int32) m)))
noncomputable def fX12_weightOf_37 (v0 : Nat) (v1 : Int32) (v2 : Int32) (v3 : Int64) (v5 : Int32) (s0 : Int32) (m : Mem) : Option ((Int64 × Int32) ⊕ (Int64)) := gp (KM v0 = 12) (bnd (fX12_storyOf v0 v1 (1 : Int32) m) (fun r9 => if ((r9 >>> (v5 &&& 31)) &&& (1 : Int32)) = (1 : Int32) then (fX12_weightOf_59 v0 v1 v2 v3 v5 s0 (1 : Int32) m) else (fX12_weightOf_59 v0 v1 v2 v3 v5 s0 (0 : Int32) m)))
noncomputable def fX12_weightOf_11b (v0 : Nat) (v1 : Int32) (v2 : Int32) (v3 : Int64) (v5 : Int32) (m : Mem) : Option ((Int64 × Int32) ⊕ (Int64)) := gp (KM v0 = 12) (bnd (m.2.2 v0 5) (fun q12 => gp (KM q12 = 14) (gp (inb (4 : Int32) (NM q12) = true) (if (m.1 q12 (4 : Int32).toNatClampNeg) ≤ v5 then (some (.inr (v3))) else (if ((v2 >>> (v5 &&& 31)) &&& (1 : Int32)) = (1 : Int32) then (fX12_weightOf_37 v0 v1 v2 v3 v5 (1 : Int32) m) else (fX12_weightOf_37 v0 v1 v2 v3 v5 (0 : Int32) m))))))
noncomputable def fX12_weightOf_11 (v0 : Nat) (v1 : Int32) (v2 : Int32) (v3 : Int64) (v5 : Int32) (m : Mem) : Option Int64 := bnd (iter (fun s => fX12_weightOf_11b v0 v1 v2 s.1 s.2 m) FU (v3, v5)) (fun e => some e)
noncomputable def fX12_weightOf (v0 : Nat) (v1 : Int32) (v2 : Int32) (m : Mem) : Option Int64 := gp (KM v0 = 12) (bnd (fX12_storyOf v0 v1 (0 : Int32) m) (fun r17 => lt1 (r17.toInt64) (fun v3_19 => lt1 ((0 : Int32)) (fun v5_21 => fX12_weightOf_11 v0 v1 v2 v3_19 v5_21 m))))
set_option maxHeartbeats 4000000 in
set_option maxRecDepth 100000 in
theorem cX12_weightOf_ct (z : Zx) (ad : Nat → Nat) (v0 : Nat) (v1 : Int32) (v2 : Int32) (m : Mem) (r : Int64) (hf : fX12_weightOf v0 v1 v2 m = some r) : CtL z wM yX12_weightOf cX12_weightOf 9 (some .long) (Rm 3) ad 17 [.ref (ad v0), .int v1, .int v2] m m r := by
  refine ct_ofL mi_X12_weightOf rfl (Nat.le_of_ble_eq_true rfl) (fun x X hret => ?_)
  refine g_lv [(0, .ref (ad v0)), (1, .int v1), (2, .int v2)] [0, 1, 2] rfl ?_
  have hL11 : ∀ (v0 : Nat) (v1 : Int32) (v2 : Int32) (v3 : Int64) (v5 : Int32), fX12_weightOf_11 v0 v1 v2 v3 v5 m = some r → G z wM x 9 0 0 ad 17 m 11 [(0, .ref (ad v0)), (1, .int v1), (2, .int v2), (3, .long v3), (5, .int v5)] [] := by
    intro v0 v1 v2 v3 v5 hf
    unfold fX12_weightOf_11 at hf
    obtain ⟨e11, hit11, hrest11⟩ := bnd_some hf
    refine iter_ok (Hd := fun (s : (Int64 × Int32)) => G z wM x 9 0 0 ad 17 m 11 [(0, .ref (ad v0)), (1, .int v1), (2, .int v2), (3, .long s.1), (5, .int s.2)] []) ?_ FU (v3, v5) hit11
    intro s ob11 hf hs11 he11
    obtain ⟨v3, v5⟩ := s
    have hf : fX12_weightOf_11b v0 v1 v2 v3 v5 m = some ob11 := hf
    have hL121 : ∀ (v5 : Int32) (s0 : Int64) (s1 : Int64), fX12_weightOf_121 v0 v1 v2 v5 s0 s1 m = some ob11 → G z wM x 9 0 0 ad 17 m 121 [(0, .ref (ad v0)), (1, .int v1), (2, .int v2), (5, .int v5)] [.long s1, .long s0] := by
      intro v5 s0 s1 hf
      unfold fX12_weightOf_121 at hf
      refine g_lmul (pc := 121) X dX12_weightOf_121 ?_
      obtain ⟨v3_1, e2, hf⟩ := lt1_some hf
      refine g_topl e2 ?_
      refine g_lstore_n (lv2 := [(0, .ref (ad v0)), (1, .int v1), (2, .int v2), (3, .long v3_1), (5, .int v5)]) (pc := 122) X dX12_weightOf_122 rfl (by decide) [1, 2, 3, 0, 4] rfl ?_
      obtain ⟨v5_3, e4, hf⟩ := lt1_some hf
      refine g_iinc (v2 := v5_3) (lv2 := [(0, .ref (ad v0)), (1, .int v1), (2, .int v2), (3, .long v3_1), (5, .int v5_3)]) (pc := 123) X dX12_weightOf_123 4 rfl (by rw [e4]; rfl) (by decide) [1, 2, 3, 4, 0] rfl ?_
      refine g_goto (pc := 126) (tgt := 11) X dX12_weightOf_126 (by decide) ?_
      exact hs11 (v3_1, v5_3) (Option.some.inj hf).symm
    have hL118 : ∀ (v5 : Int32) (s0 : Int64), fX12_weightOf_118 v0 v1 v2 v5 s0 m = some ob11 → G z wM x 9 0 0 ad 17 m 118 [(0, .ref (ad v0)), (1, .int v1), (2, .int v2), (5, .int v5)] [.long s0] := by
      intro v5 s0 hf
      unfold fX12_weightOf_118 at hf
      refine g_ldc2 (pc := 118) X dX12_weightOf_118 kl_X12_79 ?_
      exact hL121 _ _ _ hf
    have hL81 : ∀ (v3 : Int64) (v5 : Int32) (v6 : Int32) (v7 : Int32) (s0 : Int32), fX12_weightOf_81 v0 v1 v2 v3 v5 v6 v7 s0 m = some ob11 → G z wM x 9 0 0 ad 17 m 81 [(0, .ref (ad v0)), (1, .int v1), (2, .int v2), (3, .long v3), (5, .int v5), (6, .int v6), (7, .int v7)] [.int s0] := by
      intro v3 v5 v6 v7 s0 hf
      unfold fX12_weightOf_81 at hf
      refine g_istore (lv2 := [(0, .ref (ad v0)), (1, .int v1), (2, .int v2), (3, .long v3), (5, .int v5), (6, .int v6), (7, .int v7), (8, .int s0)]) (pc := 81) X dX12_weightOf_81 (by decide) [1, 2, 3, 4, 5, 6, 7, 0] rfl ?_
      refine g_lload_n (pc := 83) X dX12_weightOf_83 rfl 3 rfl ?_
      refine g_iload (pc := 84) X dX12_weightOf_84 6 rfl ?_
      refine g_if_eq (pc := 86) (tgt := 104) X dX12_weightOf_86 (by decide) (fun hc => ?_) (fun hc => ?_)
      · have hf := itp hc hf
        refine g_iload (pc := 104) X dX12_weightOf_104 7 rfl ?_
        refine g_if_eq (pc := 106) (tgt := 118) X dX12_weightOf_106 (by decide) (fun hc => ?_) (fun hc => ?_)
        · have hf := itp hc hf
          refine g_lv [(0, .ref (ad v0)), (1, .int v1), (2, .int v2), (5, .int v5)] [0, 1, 2, 4] rfl ?_
          exact hL118 _ _ hf
        · have hf := itn hc hf
          refine g_iload (pc := 109) X dX12_weightOf_109 5 rfl ?_
          refine g_if_eq (pc := 111) (tgt := 118) X dX12_weightOf_111 (by decide) (fun hc => ?_) (fun hc => ?_)
          · have hf := itp hc hf
            refine g_lv [(0, .ref (ad v0)), (1, .int v1), (2, .int v2), (5, .int v5)] [0, 1, 2, 4] rfl ?_
            exact hL118 _ _ hf
          · have hf := itn hc hf
            refine g_lconst (v := (0 : Int64)) (pc := 114) X dX12_weightOf_114 (by decide) ?_
            refine g_goto (pc := 115) (tgt := 121) X dX12_weightOf_115 (by decide) ?_
            refine g_lv [(0, .ref (ad v0)), (1, .int v1), (2, .int v2), (5, .int v5)] [0, 1, 2, 4] rfl ?_
            exact hL121 _ _ _ hf
      · have hf := itn hc hf
        refine g_iload (pc := 89) X dX12_weightOf_89 5 rfl ?_
        refine g_if_eq (pc := 91) (tgt := 100) X dX12_weightOf_91 (by decide) (fun hc => ?_) (fun hc => ?_)
        · have hf := itp hc hf
          refine g_lconst (v := (1 : Int64)) (pc := 100) X dX12_weightOf_100 (by decide) ?_
          refine g_goto (pc := 101) (tgt := 121) X dX12_weightOf_101 (by decide) ?_
          refine g_lv [(0, .ref (ad v0)), (1, .int v1), (2, .int v2), (5, .int v5)] [0, 1, 2, 4] rfl ?_
          exact hL121 _ _ _ hf
        · have hf := itn hc hf
          refine g_ldc2 (pc := 94) X dX12_weightOf_94 kl_X12_375 ?_
          refine g_goto (pc := 97) (tgt := 121) X dX12_weightOf_97 (by decide) ?_
          refine g_lv [(0, .ref (ad v0)), (1, .int v1), (2, .int v2), (5, .int v5)] [0, 1, 2, 4] rfl ?_
          exact hL121 _ _ _ hf
    have hL59 : ∀ (v3 : Int64) (v5 : Int32) (v6 : Int32) (s0 : Int32), fX12_weightOf_59 v0 v1 v2 v3 v5 v6 s0 m = some ob11 → G z wM x 9 0 0 ad 17 m 59 [(0, .ref (ad v0)), (1, .int v1), (2, .int v2), (3, .long v3), (5, .int v5), (6, .int v6)] [.int s0] := by
      intro v3 v5 v6 s0 hf
      unfold fX12_weightOf_59 at hf
      refine g_istore (lv2 := [(0, .ref (ad v0)), (1, .int v1), (2, .int v2), (3, .long v3), (5, .int v5), (6, .int v6), (7, .int s0)]) (pc := 59) X dX12_weightOf_59 (by decide) [1, 2, 3, 4, 5, 6, 0] rfl ?_
      refine g_aload_n (pc := 61) X dX12_weightOf_61 rfl 0 rfl ?_
      refine g_iload_n (pc := 62) X dX12_weightOf_62 rfl 1 rfl ?_
      refine g_iconst (v := (2 : Int32)) (pc := 63) X dX12_weightOf_63 (by decide) ?_
      obtain ⟨hk7, hf⟩ := gp_some hf
      obtain ⟨r6, hq5, hf⟩ := bnd_some hf
      refine g_callVI (pc := 64) (As := [.int v1, .int (2 : Int32)]) (rest := []) X mi_X12_storyOf im_X12_storyOf se_X12_storyOf (KMlt hk7 (by decide)) hk7 clX12 ml_X12_357 (cX12_storyOf_ct z ad v0 v1 (2 : Int32) m r6 hq5) rfl rfl (Nat.le_of_ble_eq_true rfl) ⟨rfl, rfl, by decide, by decide, Nat.le_refl _, Nat.le_refl _⟩ dX12_weightOf_64 ?_
      refine g_iload (pc := 67) X dX12_weightOf_67 4 rfl ?_
      refine g_ishr (pc := 69) X dX12_weightOf_69 ?_
      refine g_iconst (v := (1 : Int32)) (pc := 70) X dX12_weightOf_70 (by decide) ?_
      refine g_iand (pc := 71) X dX12_weightOf_71 ?_
      refine g_iconst (v := (1 : Int32)) (pc := 72) X dX12_weightOf_72 (by decide) ?_
      refine g_icmp_ne (pc := 73) (tgt := 80) X dX12_weightOf_73 (by decide) (fun hc => ?_) (fun hc => ?_)
      · have hf := itn hc hf
        refine g_iconst (v := (0 : Int32)) (pc := 80) X dX12_weightOf_80 (by decide) ?_
        exact hL81 _ _ _ _ _ hf
      · have hf := itp hc hf
        refine g_iconst (v := (1 : Int32)) (pc := 76) X dX12_weightOf_76 (by decide) ?_
        refine g_goto (pc := 77) (tgt := 81) X dX12_weightOf_77 (by decide) ?_
        exact hL81 _ _ _ _ _ hf
    have hL37 : ∀ (v3 : Int64) (v5 : Int32) (s0 : Int32), fX12_weightOf_37 v0 v1 v2 v3 v5 s0 m = some ob11 → G z wM x 9 0 0 ad 17 m 37 [(0, .ref (ad v0)), (1, .int v1), (2, .int v2), (3, .long v3), (5, .int v5)] [.int s0] := by
      intro v3 v5 s0 hf
      unfold fX12_weightOf_37 at hf
      refine g_istore (lv2 := [(0, .ref (ad v0)), (1, .int v1), (2, .int v2), (3, .long v3), (5, .int v5), (6, .int s0)]) (pc := 37) X dX12_weightOf_37 (by decide) [1, 2, 3, 4, 5, 0] rfl ?_
      refine g_aload_n (pc := 39) X dX12_weightOf_39 rfl 0 rfl ?_
      refine g_iload_n (pc := 40) X dX12_weightOf_40 rfl 1 rfl ?_
      refine g_iconst (v := (1 : Int32)) (pc := 41) X dX12_weightOf_41 (by decide) ?_
      obtain ⟨hk10, hf⟩ := gp_some hf
      obtain ⟨r9, hq8, hf⟩ := bnd_some hf
      refine g_callVI (pc := 42) (As := [.int v1, .int (1 : Int32)]) (rest := []) X mi_X12_storyOf im_X12_storyOf se_X12_storyOf (KMlt hk10 (by decide)) hk10 clX12 ml_X12_357 (cX12_storyOf_ct z ad v0 v1 (1 : Int32) m r9 hq8) rfl rfl (Nat.le_of_ble_eq_true rfl) ⟨rfl, rfl, by decide, by decide, Nat.le_refl _, Nat.le_refl _⟩ dX12_weightOf_42 ?_
      refine g_iload (pc := 45) X dX12_weightOf_45 4 rfl ?_
      refine g_ishr (pc := 47) X dX12_weightOf_47 ?_
      refine g_iconst (v := (1 : Int32)) (pc := 48) X dX12_weightOf_48 (by decide) ?_
      refine g_iand (pc := 49) X dX12_weightOf_49 ?_
      refine g_iconst (v := (1 : Int32)) (pc := 50) X dX12_weightOf_50 (by decide) ?_
      refine g_icmp_ne (pc := 51) (tgt := 58) X dX12_weightOf_51 (by decide) (fun hc => ?_) (fun hc => ?_)
      · have hf := itn hc hf
        refine g_iconst (v := (0 : Int32)) (pc := 58) X dX12_weightOf_58 (by decide) ?_
        exact hL59 _ _ _ _ hf
      · have hf := itp hc hf
        refine g_iconst (v := (1 : Int32)) (pc := 54) X dX12_weightOf_54 (by decide) ?_
        refine g_goto (pc := 55) (tgt := 59) X dX12_weightOf_55 (by decide) ?_
        exact hL59 _ _ _ _ hf
    unfold fX12_weightOf_11b at hf
    refine g_iload (pc := 11) X dX12_weightOf_11 4 rfl ?_
    refine g_aload_n (pc := 13) X dX12_weightOf_13 rfl 0 rfl ?_
    obtain ⟨hk11, hf⟩ := gp_some hf
    obtain ⟨q12, hr13, hf⟩ := bnd_some hf
    refine g_getR (pc := 14) X fl_X12_19 (KMlt hk11 (by decide)) hk11 hr13 dX12_weightOf_14 ?_
    refine g_iconst (v := (4 : Int32)) (pc := 17) X dX12_weightOf_17 (by decide) ?_
    obtain ⟨hk14, hf⟩ := gp_some hf
    obtain ⟨hi15, hf⟩ := gp_some hf
    refine g_iald (pc := 18) X (KMlt hk14 (by decide)) hk14 hi15 dX12_weightOf_18 ?_
    refine g_icmp_ge (pc := 19) (tgt := 129) X dX12_weightOf_19 (by decide) (fun hc => ?_) (fun hc => ?_)
    · have hf := itp hc hf
      have he11 := he11 _ (Option.some.inj hf).symm
      subst he11
      have hf : some v3 = some r := hrest11
      refine g_lload_n (pc := 129) X dX12_weightOf_129 rfl 3 rfl ?_
      obtain rfl := Option.some.inj hf
      exact hret _ _ dX12_weightOf_130
    · have hf := itn hc hf
      refine g_iload_n (pc := 22) X dX12_weightOf_22 rfl 2 rfl ?_
      refine g_iload (pc := 23) X dX12_weightOf_23 4 rfl ?_
      refine g_ishr (pc := 25) X dX12_weightOf_25 ?_
      refine g_iconst (v := (1 : Int32)) (pc := 26) X dX12_weightOf_26 (by decide) ?_
      refine g_iand (pc := 27) X dX12_weightOf_27 ?_
      refine g_iconst (v := (1 : Int32)) (pc := 28) X dX12_weightOf_28 (by decide) ?_
      refine g_icmp_ne (pc := 29) (tgt := 36) X dX12_weightOf_29 (by decide) (fun hc => ?_) (fun hc => ?_)
      · have hf := itn hc hf
        refine g_iconst (v := (0 : Int32)) (pc := 36) X dX12_weightOf_36 (by decide) ?_
        exact hL37 _ _ _ hf
      · have hf := itp hc hf
        refine g_iconst (v := (1 : Int32)) (pc := 32) X dX12_weightOf_32 (by decide) ?_
        refine g_goto (pc := 33) (tgt := 37) X dX12_weightOf_33 (by decide) ?_
        exact hL37 _ _ _ hf
  unfold fX12_weightOf at hf
  refine g_aload_n (pc := 0) X dX12_weightOf_0 rfl 0 rfl ?_
  refine g_iload_n (pc := 1) X dX12_weightOf_1 rfl 1 rfl ?_
  refine g_iconst (v := (0 : Int32)) (pc := 2) X dX12_weightOf_2 (by decide) ?_
  obtain ⟨hk18, hf⟩ := gp_some hf
  obtain ⟨r17, hq16, hf⟩ := bnd_some hf
  refine g_callVI (pc := 3) (As := [.int v1, .int (0 : Int32)]) (rest := []) X mi_X12_storyOf im_X12_storyOf se_X12_storyOf (KMlt hk18 (by decide)) hk18 clX12 ml_X12_357 (cX12_storyOf_ct z ad v0 v1 (0 : Int32) m r17 hq16) rfl rfl (Nat.le_of_ble_eq_true rfl) ⟨rfl, rfl, by decide, by decide, Nat.le_refl _, Nat.le_refl _⟩ dX12_weightOf_3 ?_
  refine g_i2l (pc := 6) X dX12_weightOf_6 ?_
  obtain ⟨v3_19, e20, hf⟩ := lt1_some hf
  refine g_topl e20 ?_
  refine g_lstore_n (lv2 := [(0, .ref (ad v0)), (1, .int v1), (2, .int v2), (3, .long v3_19)]) (pc := 7) X dX12_weightOf_7 rfl (by decide) [1, 2, 3, 0] rfl ?_
  refine g_iconst (v := (0 : Int32)) (pc := 8) X dX12_weightOf_8 (by decide) ?_
  obtain ⟨v5_21, e22, hf⟩ := lt1_some hf
  refine g_topi e22 ?_
  refine g_istore (lv2 := [(0, .ref (ad v0)), (1, .int v1), (2, .int v2), (3, .long v3_19), (5, .int v5_21)]) (pc := 9) X dX12_weightOf_9 (by decide) [1, 2, 3, 4, 0] rfl ?_
  exact hL11 _ _ _ _ _ hf

noncomputable def fX12_odds_70 (v0 : Nat) (v1 : Int32) (v2 : Int32) (v3 : Int32) (v4 : Int64) (m : Mem) : Option (Int64 × Mem) := if v4 = (0 : Int64) then (some (v3.toInt64, m)) else (gp (KM v0 = 12) (bnd (fX12_weightOf v0 v1 v2 m) (fun r2 => bnd (fX12_partOf r2 v4 v3) (fun r5 => some (r5, m)))))
noncomputable def fX12_odds_41b (v0 : Nat) (v1 : Int32) (v2 : Int32) (v3 : Int32) (v4 : Int64) (v6 : Int32) (m : Mem) : Option ((Int64 × Int32) ⊕ (Int64)) := gp (KM v0 = 12) (bnd (m.2.2 v0 5) (fun q7 => gp (KM q7 = 14) (gp (inb (5 : Int32) (NM q7) = true) (if (m.1 q7 (5 : Int32).toNatClampNeg) ≤ v6 then (some (.inr (v4))) else (bnd (fX12_weightOf v0 v6 v2 m) (fun r12 => lt1 (v4 + r12) (fun v4_13 => lt1 (v6 + 1) (fun v6_15 => some (.inl (v4_13, v6_15))))))))))
noncomputable def fX12_odds_41 (v0 : Nat) (v1 : Int32) (v2 : Int32) (v3 : Int32) (v4 : Int64) (v6 : Int32) (m : Mem) : Option (Int64 × Mem) := bnd (iter (fun s => fX12_odds_41b v0 v1 v2 v3 s.1 s.2 m) FU (v4, v6)) (fun e => fX12_odds_70 v0 v1 v2 v3 e m)
noncomputable def fX12_odds (v0 : Nat) (v1 : Int32) (v2 : Int32) (v3 : Int32) (m : Mem) : Option (Int64 × Mem) := gp (KM v0 = 12) (lt1 (uI m v0 0 (0 : Int32)) (fun m18 => bnd (fX12_isStory v0 v1 m18) (fun r21 => if r21 = 0 then (some ((-9000000000000000001 : Int64), m18)) else (bnd (fX12_areSigns v0 v2 m18) (fun r23 => if r23 = 0 then (some ((-9000000000000000001 : Int64), m18)) else (bnd (fX12_in v3.toInt64 (0 : Int64) (1 : Int64)) (fun r25 => if r25 = 0 then (some ((-9000000000000000001 : Int64), m18)) else (lt1 ((0 : Int64)) (fun v4_26 => lt1 ((0 : Int32)) (fun v6_28 => fX12_odds_41 v0 v1 v2 v3 v4_26 v6_28 m18))))))))))
set_option maxHeartbeats 4000000 in
set_option maxRecDepth 100000 in
theorem cX12_odds_ct (z : Zx) (ad : Nat → Nat) (v0 : Nat) (v1 : Int32) (v2 : Int32) (v3 : Int32) (m m2 : Mem) (r : Int64) (hf : fX12_odds v0 v1 v2 v3 m = some (r, m2)) : CtL z wM yX12_odds cX12_odds 7 (some .long) (Rm 4) ad 17 [.ref (ad v0), .int v1, .int v2, .int v3] m m2 r := by
  refine ct_ofL mi_X12_odds rfl (Nat.le_of_ble_eq_true rfl) (fun x X hret => ?_)
  refine g_lv [(0, .ref (ad v0)), (1, .int v1), (2, .int v2), (3, .int v3)] [0, 1, 2, 3] rfl ?_
  have hL70 : ∀ (v0 : Nat) (v1 : Int32) (v2 : Int32) (v3 : Int32) (v4 : Int64) (m : Mem), fX12_odds_70 v0 v1 v2 v3 v4 m = some (r, m2) → G z wM x 7 0 0 ad 17 m 70 [(0, .ref (ad v0)), (1, .int v1), (2, .int v2), (3, .int v3), (4, .long v4)] [] := by
    intro v0 v1 v2 v3 v4 m hf
    unfold fX12_odds_70 at hf
    refine g_lload (pc := 70) X dX12_odds_70 4 rfl ?_
    refine g_lconst (v := (0 : Int64)) (pc := 72) X dX12_odds_72 (by decide) ?_
    refine g_lcmp_ne (pc := 73) (tgt := 82) X dX12_odds_73 dX12_odds_74 (by decide) (fun hc => ?_) (fun hc => ?_)
    · have hf := itn hc hf
      refine g_aload_n (pc := 82) X dX12_odds_82 rfl 0 rfl ?_
      refine g_iload_n (pc := 83) X dX12_odds_83 rfl 1 rfl ?_
      refine g_iload_n (pc := 84) X dX12_odds_84 rfl 2 rfl ?_
      obtain ⟨hk3, hf⟩ := gp_some hf
      obtain ⟨r2, hq1, hf⟩ := bnd_some hf
      refine g_callVL (pc := 85) (As := [.int v1, .int v2]) (rest := []) X mi_X12_weightOf im_X12_weightOf se_X12_weightOf (KMlt hk3 (by decide)) hk3 clX12 ml_X12_383 (cX12_weightOf_ct z ad v0 v1 v2 m r2 hq1) rfl rfl (Nat.le_of_ble_eq_true rfl) ⟨rfl, rfl, by decide, by decide, Nat.le_refl _, Nat.le_refl _⟩ dX12_odds_85 ?_
      refine g_lload (pc := 88) X dX12_odds_88 4 rfl ?_
      refine g_iload_n (pc := 90) X dX12_odds_90 rfl 3 rfl ?_
      obtain ⟨r5, hq4, hf⟩ := bnd_some hf
      refine g_callSL (pc := 91) (As := [.long r2, .long v4, .int v3]) (rest := []) X mi_X12_partOf sm_X12_partOf ml_X12_312 (cX12_partOf_ct z ad r2 v4 v3 m r5 hq4) rfl rfl (Nat.le_of_ble_eq_true rfl) ⟨rfl, rfl, by decide, by decide, Nat.le_refl _, Nat.le_refl _⟩ dX12_odds_91 ?_
      obtain ⟨rfl, rfl⟩ := som2 hf
      exact hret _ _ dX12_odds_94
    · have hf := itp hc hf
      refine g_iload_n (pc := 77) X dX12_odds_77 rfl 3 rfl ?_
      refine g_i2l (pc := 78) X dX12_odds_78 ?_
      refine g_goto (pc := 79) (tgt := 94) X dX12_odds_79 (by decide) ?_
      obtain ⟨rfl, rfl⟩ := som2 hf
      exact hret _ _ dX12_odds_94
  have hL41 : ∀ (v0 : Nat) (v1 : Int32) (v2 : Int32) (v3 : Int32) (v4 : Int64) (v6 : Int32) (m : Mem), fX12_odds_41 v0 v1 v2 v3 v4 v6 m = some (r, m2) → G z wM x 7 0 0 ad 17 m 41 [(0, .ref (ad v0)), (1, .int v1), (2, .int v2), (3, .int v3), (4, .long v4), (6, .int v6)] [] := by
    intro v0 v1 v2 v3 v4 v6 m hf
    unfold fX12_odds_41 at hf
    obtain ⟨e41, hit41, hrest41⟩ := bnd_some hf
    refine iter_ok (Hd := fun (s : (Int64 × Int32)) => G z wM x 7 0 0 ad 17 m 41 [(0, .ref (ad v0)), (1, .int v1), (2, .int v2), (3, .int v3), (4, .long s.1), (6, .int s.2)] []) ?_ FU (v4, v6) hit41
    intro s ob41 hf hs41 he41
    obtain ⟨v4, v6⟩ := s
    have hf : fX12_odds_41b v0 v1 v2 v3 v4 v6 m = some ob41 := hf
    unfold fX12_odds_41b at hf
    refine g_iload (pc := 41) X dX12_odds_41 5 rfl ?_
    refine g_aload_n (pc := 43) X dX12_odds_43 rfl 0 rfl ?_
    obtain ⟨hk6, hf⟩ := gp_some hf
    obtain ⟨q7, hr8, hf⟩ := bnd_some hf
    refine g_getR (pc := 44) X fl_X12_19 (KMlt hk6 (by decide)) hk6 hr8 dX12_odds_44 ?_
    refine g_iconst (v := (5 : Int32)) (pc := 47) X dX12_odds_47 (by decide) ?_
    obtain ⟨hk9, hf⟩ := gp_some hf
    obtain ⟨hi10, hf⟩ := gp_some hf
    refine g_iald (pc := 48) X (KMlt hk9 (by decide)) hk9 hi10 dX12_odds_48 ?_
    refine g_icmp_ge (pc := 49) (tgt := 70) X dX12_odds_49 (by decide) (fun hc => ?_) (fun hc => ?_)
    · have hf := itp hc hf
      have he41 := he41 _ (Option.some.inj hf).symm
      subst he41
      have hf : fX12_odds_70 v0 v1 v2 v3 v4 m = some (r, m2) := hrest41
      refine g_lv [(0, .ref (ad v0)), (1, .int v1), (2, .int v2), (3, .int v3), (4, .long v4)] [0, 1, 2, 3, 4] rfl ?_
      exact hL70 _ _ _ _ _ _ hf
    · have hf := itn hc hf
      refine g_lload (pc := 52) X dX12_odds_52 4 rfl ?_
      refine g_aload_n (pc := 54) X dX12_odds_54 rfl 0 rfl ?_
      refine g_iload (pc := 55) X dX12_odds_55 5 rfl ?_
      refine g_iload_n (pc := 57) X dX12_odds_57 rfl 2 rfl ?_
      obtain ⟨r12, hq11, hf⟩ := bnd_some hf
      refine g_callVL (pc := 58) (As := [.int v6, .int v2]) (rest := [.long v4]) X mi_X12_weightOf im_X12_weightOf se_X12_weightOf (KMlt hk6 (by decide)) hk6 clX12 ml_X12_383 (cX12_weightOf_ct z ad v0 v6 v2 m r12 hq11) rfl rfl (Nat.le_of_ble_eq_true rfl) ⟨rfl, rfl, by decide, by decide, Nat.le_refl _, Nat.le_refl _⟩ dX12_odds_58 ?_
      refine g_ladd (pc := 61) X dX12_odds_61 ?_
      obtain ⟨v4_13, e14, hf⟩ := lt1_some hf
      refine g_topl e14 ?_
      refine g_lstore (lv2 := [(0, .ref (ad v0)), (1, .int v1), (2, .int v2), (3, .int v3), (4, .long v4_13), (6, .int v6)]) (pc := 62) X dX12_odds_62 (by decide) [1, 2, 3, 4, 0, 5] rfl ?_
      obtain ⟨v6_15, e16, hf⟩ := lt1_some hf
      refine g_iinc (v2 := v6_15) (lv2 := [(0, .ref (ad v0)), (1, .int v1), (2, .int v2), (3, .int v3), (4, .long v4_13), (6, .int v6_15)]) (pc := 64) X dX12_odds_64 5 rfl (by rw [e16]; rfl) (by decide) [1, 2, 3, 4, 5, 0] rfl ?_
      refine g_goto (pc := 67) (tgt := 41) X dX12_odds_67 (by decide) ?_
      exact hs41 (v4_13, v6_15) (Option.some.inj hf).symm
  unfold fX12_odds at hf
  refine g_aload_n (pc := 0) X dX12_odds_0 rfl 0 rfl ?_
  refine g_iconst (v := (0 : Int32)) (pc := 1) X dX12_odds_1 (by decide) ?_
  obtain ⟨hk17, hf⟩ := gp_some hf
  refine g_putI (pc := 2) X fl_X12_60 (KMlt hk17 (by decide)) hk17 rfl rfl dX12_odds_2 ?_
  obtain ⟨m18, e19, hf⟩ := lt1_some hf
  refine g_mem e19 ?_
  refine g_aload_n (pc := 5) X dX12_odds_5 rfl 0 rfl ?_
  refine g_iload_n (pc := 6) X dX12_odds_6 rfl 1 rfl ?_
  obtain ⟨r21, hq20, hf⟩ := bnd_some hf
  refine g_callVI (pc := 7) (As := [.int v1]) (rest := []) X mi_X12_isStory im_X12_isStory se_X12_isStory (KMlt hk17 (by decide)) hk17 clX12 ml_X12_377 (cX12_isStory_ct z ad v0 v1 m18 r21 hq20) rfl rfl (Nat.le_of_ble_eq_true rfl) ⟨rfl, rfl, by decide, by decide, Nat.le_refl _, Nat.le_refl _⟩ dX12_odds_7 ?_
  refine g_if_eq (pc := 10) (tgt := 31) X dX12_odds_10 (by decide) (fun hc => ?_) (fun hc => ?_)
  · have hf := itp hc hf
    refine g_ldc2 (pc := 31) X dX12_odds_31 kl_X12_81 ?_
    obtain ⟨rfl, rfl⟩ := som2 hf
    exact hret _ _ dX12_odds_34
  · have hf := itn hc hf
    refine g_aload_n (pc := 13) X dX12_odds_13 rfl 0 rfl ?_
    refine g_iload_n (pc := 14) X dX12_odds_14 rfl 2 rfl ?_
    obtain ⟨r23, hq22, hf⟩ := bnd_some hf
    refine g_callVI (pc := 15) (As := [.int v2]) (rest := []) X mi_X12_areSigns im_X12_areSigns se_X12_areSigns (KMlt hk17 (by decide)) hk17 clX12 ml_X12_380 (cX12_areSigns_ct z ad v0 v2 m18 r23 hq22) rfl rfl (Nat.le_of_ble_eq_true rfl) ⟨rfl, rfl, by decide, by decide, Nat.le_refl _, Nat.le_refl _⟩ dX12_odds_15 ?_
    refine g_if_eq (pc := 18) (tgt := 31) X dX12_odds_18 (by decide) (fun hc => ?_) (fun hc => ?_)
    · have hf := itp hc hf
      refine g_ldc2 (pc := 31) X dX12_odds_31 kl_X12_81 ?_
      obtain ⟨rfl, rfl⟩ := som2 hf
      exact hret _ _ dX12_odds_34
    · have hf := itn hc hf
      refine g_iload_n (pc := 21) X dX12_odds_21 rfl 3 rfl ?_
      refine g_i2l (pc := 22) X dX12_odds_22 ?_
      refine g_lconst (v := (0 : Int64)) (pc := 23) X dX12_odds_23 (by decide) ?_
      refine g_lconst (v := (1 : Int64)) (pc := 24) X dX12_odds_24 (by decide) ?_
      obtain ⟨r25, hq24, hf⟩ := bnd_some hf
      refine g_callSI (pc := 25) (As := [.long v3.toInt64, .long (0 : Int64), .long (1 : Int64)]) (rest := []) X mi_X12_in sm_X12_in ml_X12_71 (cX12_in_ct z ad v3.toInt64 (0 : Int64) (1 : Int64) m18 r25 hq24) rfl rfl (Nat.le_of_ble_eq_true rfl) ⟨rfl, rfl, by decide, by decide, Nat.le_refl _, Nat.le_refl _⟩ dX12_odds_25 ?_
      refine g_if_ne (pc := 28) (tgt := 35) X dX12_odds_28 (by decide) (fun hc => ?_) (fun hc => ?_)
      · have hf := itn hc hf
        refine g_lconst (v := (0 : Int64)) (pc := 35) X dX12_odds_35 (by decide) ?_
        obtain ⟨v4_26, e27, hf⟩ := lt1_some hf
        refine g_topl e27 ?_
        refine g_lstore (lv2 := [(0, .ref (ad v0)), (1, .int v1), (2, .int v2), (3, .int v3), (4, .long v4_26)]) (pc := 36) X dX12_odds_36 (by decide) [1, 2, 3, 4, 0] rfl ?_
        refine g_iconst (v := (0 : Int32)) (pc := 38) X dX12_odds_38 (by decide) ?_
        obtain ⟨v6_28, e29, hf⟩ := lt1_some hf
        refine g_topi e29 ?_
        refine g_istore (lv2 := [(0, .ref (ad v0)), (1, .int v1), (2, .int v2), (3, .int v3), (4, .long v4_26), (6, .int v6_28)]) (pc := 39) X dX12_odds_39 (by decide) [1, 2, 3, 4, 5, 0] rfl ?_
        exact hL41 _ _ _ _ _ _ _ hf
      · have hf := itp hc hf
        refine g_ldc2 (pc := 31) X dX12_odds_31 kl_X12_81 ?_
        obtain ⟨rfl, rfl⟩ := som2 hf
        exact hret _ _ dX12_odds_34

noncomputable def fX12_likeliest_85 (v0 : Nat) (v1 : Int32) (v2 : Int32) (v5 : Int32) (s0 : Int64) (m : Mem) : Option ((Int32 × Int64 × Int32) ⊕ (Int32)) := lt1 (v5 + 1) (fun v5_1 => some (.inl (v2, s0, v5_1)))
noncomputable def fX12_likeliest_71 (v0 : Nat) (v1 : Int32) (v3 : Int64) (v5 : Int32) (v6 : Int64) (s0 : Int32) (m : Mem) : Option ((Int32 × Int64 × Int32) ⊕ (Int32)) := if v6 ≤ v3 then (fX12_likeliest_85 v0 v1 s0 v5 v3 m) else (fX12_likeliest_85 v0 v1 s0 v5 v6 m)
noncomputable def fX12_likeliest_38b (v0 : Nat) (v1 : Int32) (v2 : Int32) (v3 : Int64) (v5 : Int32) (m : Mem) : Option ((Int32 × Int64 × Int32) ⊕ (Int32)) := gp (KM v0 = 12) (bnd (m.2.2 v0 5) (fun q4 => gp (KM q4 = 14) (gp (inb (5 : Int32) (NM q4) = true) (if (m.1 q4 (5 : Int32).toNatClampNeg) ≤ v5 then (some (.inr (v2))) else (bnd (fX12_weightOf v0 v5 v1 m) (fun r9 => if r9 ≤ v3 then (fX12_likeliest_71 v0 v1 v3 v5 r9 v2 m) else (fX12_likeliest_71 v0 v1 v3 v5 r9 v5 m)))))))
noncomputable def fX12_likeliest_38 (v0 : Nat) (v1 : Int32) (v2 : Int32) (v3 : Int64) (v5 : Int32) (m : Mem) : Option (Int64 × Mem) := bnd (iter (fun s => fX12_likeliest_38b v0 v1 s.1 s.2.1 s.2.2 m) FU (v2, v3, v5)) (fun e => some (e.toInt64, m))
noncomputable def fX12_likeliest (v0 : Nat) (v1 : Int32) (m : Mem) : Option (Int64 × Mem) := gp (KM v0 = 12) (lt1 (uI m v0 0 (0 : Int32)) (fun m11 => bnd (m11.2.2 v0 5) (fun q13 => gp (KM q13 = 14) (gp (inb (5 : Int32) (NM q13) = true) (if (m11.1 q13 (5 : Int32).toNatClampNeg) = 0 then (some ((-9000000000000000002 : Int64), m11)) else (bnd (fX12_areSigns v0 v1 m11) (fun r18 => if r18 = 0 then (some ((-9000000000000000001 : Int64), m11)) else (lt1 ((-1000000 : Int32)) (fun v2_19 => lt1 ((0 : Int64)) (fun v3_21 => lt1 ((0 : Int32)) (fun v5_23 => fX12_likeliest_38 v0 v1 v2_19 v3_21 v5_23 m11)))))))))))
set_option maxHeartbeats 4000000 in
set_option maxRecDepth 100000 in
theorem cX12_likeliest_ct (z : Zx) (ad : Nat → Nat) (v0 : Nat) (v1 : Int32) (m m2 : Mem) (r : Int64) (hf : fX12_likeliest v0 v1 m = some (r, m2)) : CtL z wM yX12_likeliest cX12_likeliest 8 (some .long) (Rm 4) ad 17 [.ref (ad v0), .int v1] m m2 r := by
  refine ct_ofL mi_X12_likeliest rfl (Nat.le_of_ble_eq_true rfl) (fun x X hret => ?_)
  refine g_lv [(0, .ref (ad v0)), (1, .int v1)] [0, 1] rfl ?_
  have hL38 : ∀ (v0 : Nat) (v1 : Int32) (v2 : Int32) (v3 : Int64) (v5 : Int32) (m : Mem), fX12_likeliest_38 v0 v1 v2 v3 v5 m = some (r, m2) → G z wM x 8 0 0 ad 17 m 38 [(0, .ref (ad v0)), (1, .int v1), (2, .int v2), (3, .long v3), (5, .int v5)] [] := by
    intro v0 v1 v2 v3 v5 m hf
    unfold fX12_likeliest_38 at hf
    obtain ⟨e38, hit38, hrest38⟩ := bnd_some hf
    refine iter_ok (Hd := fun (s : (Int32 × Int64 × Int32)) => G z wM x 8 0 0 ad 17 m 38 [(0, .ref (ad v0)), (1, .int v1), (2, .int s.1), (3, .long s.2.1), (5, .int s.2.2)] []) ?_ FU (v2, v3, v5) hit38
    intro s ob38 hf hs38 he38
    obtain ⟨v2, v3, v5⟩ := s
    have hf : fX12_likeliest_38b v0 v1 v2 v3 v5 m = some ob38 := hf
    have hL85 : ∀ (v2 : Int32) (v5 : Int32) (s0 : Int64), fX12_likeliest_85 v0 v1 v2 v5 s0 m = some ob38 → G z wM x 8 0 0 ad 17 m 85 [(0, .ref (ad v0)), (1, .int v1), (2, .int v2), (5, .int v5)] [.long s0] := by
      intro v2 v5 s0 hf
      unfold fX12_likeliest_85 at hf
      refine g_lstore_n (lv2 := [(0, .ref (ad v0)), (1, .int v1), (2, .int v2), (3, .long s0), (5, .int v5)]) (pc := 85) X dX12_likeliest_85 rfl (by decide) [1, 2, 3, 0, 4] rfl ?_
      obtain ⟨v5_1, e2, hf⟩ := lt1_some hf
      refine g_iinc (v2 := v5_1) (lv2 := [(0, .ref (ad v0)), (1, .int v1), (2, .int v2), (3, .long s0), (5, .int v5_1)]) (pc := 86) X dX12_likeliest_86 4 rfl (by rw [e2]; rfl) (by decide) [1, 2, 3, 4, 0] rfl ?_
      refine g_goto (pc := 89) (tgt := 38) X dX12_likeliest_89 (by decide) ?_
      exact hs38 (v2, s0, v5_1) (Option.some.inj hf).symm
    have hL71 : ∀ (v3 : Int64) (v5 : Int32) (v6 : Int64) (s0 : Int32), fX12_likeliest_71 v0 v1 v3 v5 v6 s0 m = some ob38 → G z wM x 8 0 0 ad 17 m 71 [(0, .ref (ad v0)), (1, .int v1), (3, .long v3), (5, .int v5), (6, .long v6)] [.int s0] := by
      intro v3 v5 v6 s0 hf
      unfold fX12_likeliest_71 at hf
      refine g_istore_n (lv2 := [(0, .ref (ad v0)), (1, .int v1), (2, .int s0), (3, .long v3), (5, .int v5), (6, .long v6)]) (pc := 71) X dX12_likeliest_71 rfl (by decide) [1, 2, 0, 3, 4, 5] rfl ?_
      refine g_lload (pc := 72) X dX12_likeliest_72 5 rfl ?_
      refine g_lload_n (pc := 74) X dX12_likeliest_74 rfl 3 rfl ?_
      refine g_lcmp_le (pc := 75) (tgt := 84) X dX12_likeliest_75 dX12_likeliest_76 (by decide) (fun hc => ?_) (fun hc => ?_)
      · have hf := itp hc hf
        refine g_lload_n (pc := 84) X dX12_likeliest_84 rfl 3 rfl ?_
        refine g_lv [(0, .ref (ad v0)), (1, .int v1), (2, .int s0), (5, .int v5)] [0, 1, 2, 4] rfl ?_
        exact hL85 _ _ _ hf
      · have hf := itn hc hf
        refine g_lload (pc := 79) X dX12_likeliest_79 5 rfl ?_
        refine g_goto (pc := 81) (tgt := 85) X dX12_likeliest_81 (by decide) ?_
        refine g_lv [(0, .ref (ad v0)), (1, .int v1), (2, .int s0), (5, .int v5)] [0, 1, 2, 4] rfl ?_
        exact hL85 _ _ _ hf
    unfold fX12_likeliest_38b at hf
    refine g_iload (pc := 38) X dX12_likeliest_38 4 rfl ?_
    refine g_aload_n (pc := 40) X dX12_likeliest_40 rfl 0 rfl ?_
    obtain ⟨hk3, hf⟩ := gp_some hf
    obtain ⟨q4, hr5, hf⟩ := bnd_some hf
    refine g_getR (pc := 41) X fl_X12_19 (KMlt hk3 (by decide)) hk3 hr5 dX12_likeliest_41 ?_
    refine g_iconst (v := (5 : Int32)) (pc := 44) X dX12_likeliest_44 (by decide) ?_
    obtain ⟨hk6, hf⟩ := gp_some hf
    obtain ⟨hi7, hf⟩ := gp_some hf
    refine g_iald (pc := 45) X (KMlt hk6 (by decide)) hk6 hi7 dX12_likeliest_45 ?_
    refine g_icmp_ge (pc := 46) (tgt := 92) X dX12_likeliest_46 (by decide) (fun hc => ?_) (fun hc => ?_)
    · have hf := itp hc hf
      have he38 := he38 _ (Option.some.inj hf).symm
      subst he38
      have hf : some (v2.toInt64, m) = some (r, m2) := hrest38
      refine g_iload_n (pc := 92) X dX12_likeliest_92 rfl 2 rfl ?_
      refine g_i2l (pc := 93) X dX12_likeliest_93 ?_
      obtain ⟨rfl, rfl⟩ := som2 hf
      exact hret _ _ dX12_likeliest_94
    · have hf := itn hc hf
      refine g_aload_n (pc := 49) X dX12_likeliest_49 rfl 0 rfl ?_
      refine g_iload (pc := 50) X dX12_likeliest_50 4 rfl ?_
      refine g_iload_n (pc := 52) X dX12_likeliest_52 rfl 1 rfl ?_
      obtain ⟨r9, hq8, hf⟩ := bnd_some hf
      refine g_callVL (pc := 53) (As := [.int v5, .int v1]) (rest := []) X mi_X12_weightOf im_X12_weightOf se_X12_weightOf (KMlt hk3 (by decide)) hk3 clX12 ml_X12_383 (cX12_weightOf_ct z ad v0 v5 v1 m r9 hq8) rfl rfl (Nat.le_of_ble_eq_true rfl) ⟨rfl, rfl, by decide, by decide, Nat.le_refl _, Nat.le_refl _⟩ dX12_likeliest_53 ?_
      refine g_lstore (lv2 := [(0, .ref (ad v0)), (1, .int v1), (2, .int v2), (3, .long v3), (5, .int v5), (6, .long r9)]) (pc := 56) X dX12_likeliest_56 (by decide) [1, 2, 3, 4, 5, 0] rfl ?_
      refine g_lload (pc := 58) X dX12_likeliest_58 5 rfl ?_
      refine g_lload_n (pc := 60) X dX12_likeliest_60 rfl 3 rfl ?_
      refine g_lcmp_le (pc := 61) (tgt := 70) X dX12_likeliest_61 dX12_likeliest_62 (by decide) (fun hc => ?_) (fun hc => ?_)
      · have hf := itp hc hf
        refine g_iload_n (pc := 70) X dX12_likeliest_70 rfl 2 rfl ?_
        refine g_lv [(0, .ref (ad v0)), (1, .int v1), (3, .long v3), (5, .int v5), (6, .long r9)] [0, 1, 3, 4, 5] rfl ?_
        exact hL71 _ _ _ _ hf
      · have hf := itn hc hf
        refine g_iload (pc := 65) X dX12_likeliest_65 4 rfl ?_
        refine g_goto (pc := 67) (tgt := 71) X dX12_likeliest_67 (by decide) ?_
        refine g_lv [(0, .ref (ad v0)), (1, .int v1), (3, .long v3), (5, .int v5), (6, .long r9)] [0, 1, 3, 4, 5] rfl ?_
        exact hL71 _ _ _ _ hf
  unfold fX12_likeliest at hf
  refine g_aload_n (pc := 0) X dX12_likeliest_0 rfl 0 rfl ?_
  refine g_iconst (v := (0 : Int32)) (pc := 1) X dX12_likeliest_1 (by decide) ?_
  obtain ⟨hk10, hf⟩ := gp_some hf
  refine g_putI (pc := 2) X fl_X12_60 (KMlt hk10 (by decide)) hk10 rfl rfl dX12_likeliest_2 ?_
  obtain ⟨m11, e12, hf⟩ := lt1_some hf
  refine g_mem e12 ?_
  refine g_aload_n (pc := 5) X dX12_likeliest_5 rfl 0 rfl ?_
  obtain ⟨q13, hr14, hf⟩ := bnd_some hf
  refine g_getR (pc := 6) X fl_X12_19 (KMlt hk10 (by decide)) hk10 hr14 dX12_likeliest_6 ?_
  refine g_iconst (v := (5 : Int32)) (pc := 9) X dX12_likeliest_9 (by decide) ?_
  obtain ⟨hk15, hf⟩ := gp_some hf
  obtain ⟨hi16, hf⟩ := gp_some hf
  refine g_iald (pc := 10) X (KMlt hk15 (by decide)) hk15 hi16 dX12_likeliest_10 ?_
  refine g_if_ne (pc := 11) (tgt := 18) X dX12_likeliest_11 (by decide) (fun hc => ?_) (fun hc => ?_)
  · have hf := itn hc hf
    refine g_aload_n (pc := 18) X dX12_likeliest_18 rfl 0 rfl ?_
    refine g_iload_n (pc := 19) X dX12_likeliest_19 rfl 1 rfl ?_
    obtain ⟨r18, hq17, hf⟩ := bnd_some hf
    refine g_callVI (pc := 20) (As := [.int v1]) (rest := []) X mi_X12_areSigns im_X12_areSigns se_X12_areSigns (KMlt hk10 (by decide)) hk10 clX12 ml_X12_380 (cX12_areSigns_ct z ad v0 v1 m11 r18 hq17) rfl rfl (Nat.le_of_ble_eq_true rfl) ⟨rfl, rfl, by decide, by decide, Nat.le_refl _, Nat.le_refl _⟩ dX12_likeliest_20 ?_
    refine g_if_ne (pc := 23) (tgt := 30) X dX12_likeliest_23 (by decide) (fun hc => ?_) (fun hc => ?_)
    · have hf := itn hc hf
      refine g_ldc (pc := 30) X dX12_likeliest_30 k_X12_99 ?_
      obtain ⟨v2_19, e20, hf⟩ := lt1_some hf
      refine g_topi e20 ?_
      refine g_istore_n (lv2 := [(0, .ref (ad v0)), (1, .int v1), (2, .int v2_19)]) (pc := 32) X dX12_likeliest_32 rfl (by decide) [1, 2, 0] rfl ?_
      refine g_lconst (v := (0 : Int64)) (pc := 33) X dX12_likeliest_33 (by decide) ?_
      obtain ⟨v3_21, e22, hf⟩ := lt1_some hf
      refine g_topl e22 ?_
      refine g_lstore_n (lv2 := [(0, .ref (ad v0)), (1, .int v1), (2, .int v2_19), (3, .long v3_21)]) (pc := 34) X dX12_likeliest_34 rfl (by decide) [1, 2, 3, 0] rfl ?_
      refine g_iconst (v := (0 : Int32)) (pc := 35) X dX12_likeliest_35 (by decide) ?_
      obtain ⟨v5_23, e24, hf⟩ := lt1_some hf
      refine g_topi e24 ?_
      refine g_istore (lv2 := [(0, .ref (ad v0)), (1, .int v1), (2, .int v2_19), (3, .long v3_21), (5, .int v5_23)]) (pc := 36) X dX12_likeliest_36 (by decide) [1, 2, 3, 4, 0] rfl ?_
      exact hL38 _ _ _ _ _ _ hf
    · have hf := itp hc hf
      refine g_ldc2 (pc := 26) X dX12_likeliest_26 kl_X12_81 ?_
      obtain ⟨rfl, rfl⟩ := som2 hf
      exact hret _ _ dX12_likeliest_29
  · have hf := itp hc hf
    refine g_ldc2 (pc := 14) X dX12_likeliest_14 kl_X12_259 ?_
    obtain ⟨rfl, rfl⟩ := som2 hf
    exact hret _ _ dX12_likeliest_17

noncomputable def fX12_lacks (v0 : Nat) (v1 : Int32) (v2 : Int32) (v3 : Int32) (m : Mem) : Option (Int64 × Mem) := gp (KM v0 = 12) (lt1 (uI m v0 0 (0 : Int32)) (fun m2 => bnd (fX12_isStory v0 v1 m2) (fun r5 => if r5 = 0 then (some ((-9000000000000000001 : Int64), m2)) else (bnd (fX12_areSigns v0 v2 m2) (fun r7 => if r7 = 0 then (some ((-9000000000000000001 : Int64), m2)) else (bnd (fX12_in v3.toInt64 (0 : Int64) (1 : Int64)) (fun r9 => if r9 = 0 then (some ((-9000000000000000001 : Int64), m2)) else (if v3 = 0 then (bnd (fX12_storyOf v0 v1 (1 : Int32) m2) (fun r13 => some ((r13 &&& (v2 ^^^ (-1 : Int32))).toInt64, m2))) else (bnd (fX12_storyOf v0 v1 (2 : Int32) m2) (fun r11 => some ((r11 &&& v2).toInt64, m2)))))))))))
set_option maxHeartbeats 4000000 in
set_option maxRecDepth 100000 in
theorem cX12_lacks_ct (z : Zx) (ad : Nat → Nat) (v0 : Nat) (v1 : Int32) (v2 : Int32) (v3 : Int32) (m m2 : Mem) (r : Int64) (hf : fX12_lacks v0 v1 v2 v3 m = some (r, m2)) : CtL z wM yX12_lacks cX12_lacks 4 (some .long) (Rm 4) ad 17 [.ref (ad v0), .int v1, .int v2, .int v3] m m2 r := by
  refine ct_ofL mi_X12_lacks rfl (Nat.le_of_ble_eq_true rfl) (fun x X hret => ?_)
  refine g_lv [(0, .ref (ad v0)), (1, .int v1), (2, .int v2), (3, .int v3)] [0, 1, 2, 3] rfl ?_
  unfold fX12_lacks at hf
  refine g_aload_n (pc := 0) X dX12_lacks_0 rfl 0 rfl ?_
  refine g_iconst (v := (0 : Int32)) (pc := 1) X dX12_lacks_1 (by decide) ?_
  obtain ⟨hk1, hf⟩ := gp_some hf
  refine g_putI (pc := 2) X fl_X12_60 (KMlt hk1 (by decide)) hk1 rfl rfl dX12_lacks_2 ?_
  obtain ⟨m2, e3, hf⟩ := lt1_some hf
  refine g_mem e3 ?_
  refine g_aload_n (pc := 5) X dX12_lacks_5 rfl 0 rfl ?_
  refine g_iload_n (pc := 6) X dX12_lacks_6 rfl 1 rfl ?_
  obtain ⟨r5, hq4, hf⟩ := bnd_some hf
  refine g_callVI (pc := 7) (As := [.int v1]) (rest := []) X mi_X12_isStory im_X12_isStory se_X12_isStory (KMlt hk1 (by decide)) hk1 clX12 ml_X12_377 (cX12_isStory_ct z ad v0 v1 m2 r5 hq4) rfl rfl (Nat.le_of_ble_eq_true rfl) ⟨rfl, rfl, by decide, by decide, Nat.le_refl _, Nat.le_refl _⟩ dX12_lacks_7 ?_
  refine g_if_eq (pc := 10) (tgt := 31) X dX12_lacks_10 (by decide) (fun hc => ?_) (fun hc => ?_)
  · have hf := itp hc hf
    refine g_ldc2 (pc := 31) X dX12_lacks_31 kl_X12_81 ?_
    obtain ⟨rfl, rfl⟩ := som2 hf
    exact hret _ _ dX12_lacks_34
  · have hf := itn hc hf
    refine g_aload_n (pc := 13) X dX12_lacks_13 rfl 0 rfl ?_
    refine g_iload_n (pc := 14) X dX12_lacks_14 rfl 2 rfl ?_
    obtain ⟨r7, hq6, hf⟩ := bnd_some hf
    refine g_callVI (pc := 15) (As := [.int v2]) (rest := []) X mi_X12_areSigns im_X12_areSigns se_X12_areSigns (KMlt hk1 (by decide)) hk1 clX12 ml_X12_380 (cX12_areSigns_ct z ad v0 v2 m2 r7 hq6) rfl rfl (Nat.le_of_ble_eq_true rfl) ⟨rfl, rfl, by decide, by decide, Nat.le_refl _, Nat.le_refl _⟩ dX12_lacks_15 ?_
    refine g_if_eq (pc := 18) (tgt := 31) X dX12_lacks_18 (by decide) (fun hc => ?_) (fun hc => ?_)
    · have hf := itp hc hf
      refine g_ldc2 (pc := 31) X dX12_lacks_31 kl_X12_81 ?_
      obtain ⟨rfl, rfl⟩ := som2 hf
      exact hret _ _ dX12_lacks_34
    · have hf := itn hc hf
      refine g_iload_n (pc := 21) X dX12_lacks_21 rfl 3 rfl ?_
      refine g_i2l (pc := 22) X dX12_lacks_22 ?_
      refine g_lconst (v := (0 : Int64)) (pc := 23) X dX12_lacks_23 (by decide) ?_
      refine g_lconst (v := (1 : Int64)) (pc := 24) X dX12_lacks_24 (by decide) ?_
      obtain ⟨r9, hq8, hf⟩ := bnd_some hf
      refine g_callSI (pc := 25) (As := [.long v3.toInt64, .long (0 : Int64), .long (1 : Int64)]) (rest := []) X mi_X12_in sm_X12_in ml_X12_71 (cX12_in_ct z ad v3.toInt64 (0 : Int64) (1 : Int64) m2 r9 hq8) rfl rfl (Nat.le_of_ble_eq_true rfl) ⟨rfl, rfl, by decide, by decide, Nat.le_refl _, Nat.le_refl _⟩ dX12_lacks_25 ?_
      refine g_if_ne (pc := 28) (tgt := 35) X dX12_lacks_28 (by decide) (fun hc => ?_) (fun hc => ?_)
      · have hf := itn hc hf
        refine g_iload_n (pc := 35) X dX12_lacks_35 rfl 3 rfl ?_
        refine g_if_ne (pc := 36) (tgt := 53) X dX12_lacks_36 (by decide) (fun hc => ?_) (fun hc => ?_)
        · have hf := itn hc hf
          refine g_aload_n (pc := 53) X dX12_lacks_53 rfl 0 rfl ?_
          refine g_iload_n (pc := 54) X dX12_lacks_54 rfl 1 rfl ?_
          refine g_iconst (v := (2 : Int32)) (pc := 55) X dX12_lacks_55 (by decide) ?_
          obtain ⟨r11, hq10, hf⟩ := bnd_some hf
          refine g_callVI (pc := 56) (As := [.int v1, .int (2 : Int32)]) (rest := []) X mi_X12_storyOf im_X12_storyOf se_X12_storyOf (KMlt hk1 (by decide)) hk1 clX12 ml_X12_357 (cX12_storyOf_ct z ad v0 v1 (2 : Int32) m2 r11 hq10) rfl rfl (Nat.le_of_ble_eq_true rfl) ⟨rfl, rfl, by decide, by decide, Nat.le_refl _, Nat.le_refl _⟩ dX12_lacks_56 ?_
          refine g_iload_n (pc := 59) X dX12_lacks_59 rfl 2 rfl ?_
          refine g_iand (pc := 60) X dX12_lacks_60 ?_
          refine g_i2l (pc := 61) X dX12_lacks_61 ?_
          obtain ⟨rfl, rfl⟩ := som2 hf
          exact hret _ _ dX12_lacks_62
        · have hf := itp hc hf
          refine g_aload_n (pc := 39) X dX12_lacks_39 rfl 0 rfl ?_
          refine g_iload_n (pc := 40) X dX12_lacks_40 rfl 1 rfl ?_
          refine g_iconst (v := (1 : Int32)) (pc := 41) X dX12_lacks_41 (by decide) ?_
          obtain ⟨r13, hq12, hf⟩ := bnd_some hf
          refine g_callVI (pc := 42) (As := [.int v1, .int (1 : Int32)]) (rest := []) X mi_X12_storyOf im_X12_storyOf se_X12_storyOf (KMlt hk1 (by decide)) hk1 clX12 ml_X12_357 (cX12_storyOf_ct z ad v0 v1 (1 : Int32) m2 r13 hq12) rfl rfl (Nat.le_of_ble_eq_true rfl) ⟨rfl, rfl, by decide, by decide, Nat.le_refl _, Nat.le_refl _⟩ dX12_lacks_42 ?_
          refine g_iload_n (pc := 45) X dX12_lacks_45 rfl 2 rfl ?_
          refine g_iconst (v := (-1 : Int32)) (pc := 46) X dX12_lacks_46 (by decide) ?_
          refine g_ixor (pc := 47) X dX12_lacks_47 ?_
          refine g_iand (pc := 48) X dX12_lacks_48 ?_
          refine g_i2l (pc := 49) X dX12_lacks_49 ?_
          refine g_goto (pc := 50) (tgt := 62) X dX12_lacks_50 (by decide) ?_
          obtain ⟨rfl, rfl⟩ := som2 hf
          exact hret _ _ dX12_lacks_62
      · have hf := itp hc hf
        refine g_ldc2 (pc := 31) X dX12_lacks_31 kl_X12_81 ?_
        obtain ⟨rfl, rfl⟩ := som2 hf
        exact hret _ _ dX12_lacks_34

noncomputable def fX12_bits_4b (v1 : Int32) (v2 : Int32) : Option ((Int32 × Int32) ⊕ (Int32)) := if v2 = 0 then (some (.inr (v1))) else (lt1 (v1 + 1) (fun v1_1 => lt1 (v2 &&& (v2 - (1 : Int32))) (fun v2_3 => some (.inl (v1_1, v2_3)))))
noncomputable def fX12_bits_4 (v1 : Int32) (v2 : Int32) : Option Int32 := bnd (iter (fun s => fX12_bits_4b s.1 s.2) FU (v1, v2)) (fun e => some e)
noncomputable def fX12_bits (v0 : Int32) : Option Int32 := lt1 ((0 : Int32)) (fun v1_5 => fX12_bits_4 v1_5 v0)
set_option maxHeartbeats 4000000 in
set_option maxRecDepth 100000 in
theorem cX12_bits_ct (z : Zx) (ad : Nat → Nat) (v0 : Int32) (m : Mem) (r : Int32) (hf : fX12_bits v0 = some r) : CtI z wM yX12_bits cX12_bits 3 (some .int) (Rm 2) ad 17 [.int v0] m m r := by
  refine ct_ofI mi_X12_bits rfl (Nat.le_of_ble_eq_true rfl) (fun x X hret => ?_)
  refine g_lv [(0, .int v0)] [0] rfl ?_
  have hL4 : ∀ (v1 : Int32) (v2 : Int32), fX12_bits_4 v1 v2 = some r → G z wM x 3 0 0 ad 17 m 4 [(1, .int v1), (2, .int v2)] [] := by
    intro v1 v2 hf
    unfold fX12_bits_4 at hf
    obtain ⟨e4, hit4, hrest4⟩ := bnd_some hf
    refine iter_ok (Hd := fun (s : (Int32 × Int32)) => G z wM x 3 0 0 ad 17 m 4 [(1, .int s.1), (2, .int s.2)] []) ?_ FU (v1, v2) hit4
    intro s ob4 hf hs4 he4
    obtain ⟨v1, v2⟩ := s
    have hf : fX12_bits_4b v1 v2 = some ob4 := hf
    unfold fX12_bits_4b at hf
    refine g_iload_n (pc := 4) X dX12_bits_4 rfl 1 rfl ?_
    refine g_if_eq (pc := 5) (tgt := 20) X dX12_bits_5 (by decide) (fun hc => ?_) (fun hc => ?_)
    · have hf := itp hc hf
      have he4 := he4 _ (Option.some.inj hf).symm
      subst he4
      have hf : some v1 = some r := hrest4
      refine g_iload_n (pc := 20) X dX12_bits_20 rfl 0 rfl ?_
      obtain rfl := Option.some.inj hf
      exact hret _ _ rfl dX12_bits_21
    · have hf := itn hc hf
      obtain ⟨v1_1, e2, hf⟩ := lt1_some hf
      refine g_iinc (v2 := v1_1) (lv2 := [(1, .int v1_1), (2, .int v2)]) (pc := 8) X dX12_bits_8 0 rfl (by rw [e2]; rfl) (by decide) [0, 1] rfl ?_
      refine g_iload_n (pc := 11) X dX12_bits_11 rfl 1 rfl ?_
      refine g_iload_n (pc := 12) X dX12_bits_12 rfl 1 rfl ?_
      refine g_iconst (v := (1 : Int32)) (pc := 13) X dX12_bits_13 (by decide) ?_
      refine g_isub (pc := 14) X dX12_bits_14 ?_
      refine g_iand (pc := 15) X dX12_bits_15 ?_
      obtain ⟨v2_3, e4, hf⟩ := lt1_some hf
      refine g_topi e4 ?_
      refine g_istore_n (lv2 := [(1, .int v1_1), (2, .int v2_3)]) (pc := 16) X dX12_bits_16 rfl (by decide) [1, 0] rfl ?_
      refine g_goto (pc := 17) (tgt := 4) X dX12_bits_17 (by decide) ?_
      exact hs4 (v1_1, v2_3) (Option.some.inj hf).symm
  unfold fX12_bits at hf
  refine g_iconst (v := (0 : Int32)) (pc := 0) X dX12_bits_0 (by decide) ?_
  obtain ⟨v1_5, e6, hf⟩ := lt1_some hf
  refine g_topi e6 ?_
  refine g_istore_n (lv2 := [(0, .int v0), (1, .int v1_5)]) (pc := 1) X dX12_bits_1 rfl (by decide) [1, 0] rfl ?_
  refine g_iload_n (pc := 2) X dX12_bits_2 rfl 0 rfl ?_
  refine g_istore_n (lv2 := [(0, .int v0), (1, .int v1_5), (2, .int v0)]) (pc := 3) X dX12_bits_3 rfl (by decide) [1, 2, 0] rfl ?_
  refine g_lv [(1, .int v1_5), (2, .int v0)] [1, 2] rfl ?_
  exact hL4 _ _ hf

noncomputable def fX12_next__109 (v0 : Nat) (v1 : Int32) (v2 : Int32) (v4 : Int32) (s0 : Int32) (m : Mem) : Option ((Int32 × Int32 × Int32) ⊕ (Int32)) := lt1 (v4 + 1) (fun v4_1 => some (.inl (v2, s0, v4_1)))
noncomputable def fX12_next__96 (v0 : Nat) (v1 : Int32) (v3 : Int32) (v4 : Int32) (v5 : Int32) (s0 : Int32) (m : Mem) : Option ((Int32 × Int32 × Int32) ⊕ (Int32)) := if v5 ≤ v3 then (fX12_next__109 v0 v1 s0 v4 v3 m) else (fX12_next__109 v0 v1 s0 v4 v5 m)
noncomputable def fX12_next__82 (v0 : Nat) (v1 : Int32) (v2 : Int32) (v3 : Int32) (v4 : Int32) (s0 : Int32) (m : Mem) : Option ((Int32 × Int32 × Int32) ⊕ (Int32)) := if s0 ≤ v3 then (fX12_next__96 v0 v1 v3 v4 s0 v2 m) else (fX12_next__96 v0 v1 v3 v4 s0 v4 m)
noncomputable def fX12_next__36b (v0 : Nat) (v1 : Int32) (v2 : Int32) (v3 : Int32) (v4 : Int32) (m : Mem) : Option ((Int32 × Int32 × Int32) ⊕ (Int32)) := gp (KM v0 = 12) (bnd (m.2.2 v0 5) (fun q4 => gp (KM q4 = 14) (gp (inb (4 : Int32) (NM q4) = true) (if (m.1 q4 (4 : Int32).toNatClampNeg) ≤ v4 then (some (.inr (v2))) else (if ((v1 >>> (v4 &&& 31)) &&& (1 : Int32)) = (1 : Int32) then (fX12_next__82 v0 v1 v2 v3 v4 (-1 : Int32) m) else (bnd (fX12_storiesBy v0 v4 (1 : Int32) m) (fun r9 => bnd (fX12_bits r9) (fun r11 => bnd (fX12_storiesBy v0 v4 (2 : Int32) m) (fun r13 => bnd (fX12_bits r13) (fun r15 => fX12_next__82 v0 v1 v2 v3 v4 (r11 * r15) m))))))))))
noncomputable def fX12_next__36 (v0 : Nat) (v1 : Int32) (v2 : Int32) (v3 : Int32) (v4 : Int32) (m : Mem) : Option (Int64 × Mem) := bnd (iter (fun s => fX12_next__36b v0 v1 s.1 s.2.1 s.2.2 m) FU (v2, v3, v4)) (fun e => some (e.toInt64, m))
noncomputable def fX12_next_ (v0 : Nat) (v1 : Int32) (m : Mem) : Option (Int64 × Mem) := gp (KM v0 = 12) (lt1 (uI m v0 0 (0 : Int32)) (fun m17 => if (m17.1 v0 7) = 0 then (some ((-9000000000000000002 : Int64), m17)) else (bnd (fX12_areSigns v0 v1 m17) (fun r20 => if r20 = 0 then (some ((-9000000000000000001 : Int64), m17)) else (lt1 ((-1000000 : Int32)) (fun v2_21 => lt1 ((-1 : Int32)) (fun v3_23 => lt1 ((0 : Int32)) (fun v4_25 => fX12_next__36 v0 v1 v2_21 v3_23 v4_25 m17))))))))
set_option maxHeartbeats 4000000 in
set_option maxRecDepth 100000 in
theorem cX12_next__ct (z : Zx) (ad : Nat → Nat) (v0 : Nat) (v1 : Int32) (m m2 : Mem) (r : Int64) (hf : fX12_next_ v0 v1 m = some (r, m2)) : CtL z wM yX12_next_ cX12_next_ 6 (some .long) (Rm 4) ad 17 [.ref (ad v0), .int v1] m m2 r := by
  refine ct_ofL mi_X12_next_ rfl (Nat.le_of_ble_eq_true rfl) (fun x X hret => ?_)
  refine g_lv [(0, .ref (ad v0)), (1, .int v1)] [0, 1] rfl ?_
  have hL36 : ∀ (v0 : Nat) (v1 : Int32) (v2 : Int32) (v3 : Int32) (v4 : Int32) (m : Mem), fX12_next__36 v0 v1 v2 v3 v4 m = some (r, m2) → G z wM x 6 0 0 ad 17 m 36 [(0, .ref (ad v0)), (1, .int v1), (2, .int v2), (3, .int v3), (4, .int v4)] [] := by
    intro v0 v1 v2 v3 v4 m hf
    unfold fX12_next__36 at hf
    obtain ⟨e36, hit36, hrest36⟩ := bnd_some hf
    refine iter_ok (Hd := fun (s : (Int32 × Int32 × Int32)) => G z wM x 6 0 0 ad 17 m 36 [(0, .ref (ad v0)), (1, .int v1), (2, .int s.1), (3, .int s.2.1), (4, .int s.2.2)] []) ?_ FU (v2, v3, v4) hit36
    intro s ob36 hf hs36 he36
    obtain ⟨v2, v3, v4⟩ := s
    have hf : fX12_next__36b v0 v1 v2 v3 v4 m = some ob36 := hf
    have hL109 : ∀ (v2 : Int32) (v4 : Int32) (s0 : Int32), fX12_next__109 v0 v1 v2 v4 s0 m = some ob36 → G z wM x 6 0 0 ad 17 m 109 [(0, .ref (ad v0)), (1, .int v1), (2, .int v2), (4, .int v4)] [.int s0] := by
      intro v2 v4 s0 hf
      unfold fX12_next__109 at hf
      refine g_istore_n (lv2 := [(0, .ref (ad v0)), (1, .int v1), (2, .int v2), (3, .int s0), (4, .int v4)]) (pc := 109) X dX12_next__109 rfl (by decide) [1, 2, 3, 0, 4] rfl ?_
      obtain ⟨v4_1, e2, hf⟩ := lt1_some hf
      refine g_iinc (v2 := v4_1) (lv2 := [(0, .ref (ad v0)), (1, .int v1), (2, .int v2), (3, .int s0), (4, .int v4_1)]) (pc := 110) X dX12_next__110 4 rfl (by rw [e2]; rfl) (by decide) [1, 2, 3, 4, 0] rfl ?_
      refine g_goto (pc := 113) (tgt := 36) X dX12_next__113 (by decide) ?_
      exact hs36 (v2, s0, v4_1) (Option.some.inj hf).symm
    have hL96 : ∀ (v3 : Int32) (v4 : Int32) (v5 : Int32) (s0 : Int32), fX12_next__96 v0 v1 v3 v4 v5 s0 m = some ob36 → G z wM x 6 0 0 ad 17 m 96 [(0, .ref (ad v0)), (1, .int v1), (3, .int v3), (4, .int v4), (5, .int v5)] [.int s0] := by
      intro v3 v4 v5 s0 hf
      unfold fX12_next__96 at hf
      refine g_istore_n (lv2 := [(0, .ref (ad v0)), (1, .int v1), (2, .int s0), (3, .int v3), (4, .int v4), (5, .int v5)]) (pc := 96) X dX12_next__96 rfl (by decide) [1, 2, 0, 3, 4, 5] rfl ?_
      refine g_iload (pc := 97) X dX12_next__97 5 rfl ?_
      refine g_iload_n (pc := 99) X dX12_next__99 rfl 3 rfl ?_
      refine g_icmp_le (pc := 100) (tgt := 108) X dX12_next__100 (by decide) (fun hc => ?_) (fun hc => ?_)
      · have hf := itp hc hf
        refine g_iload_n (pc := 108) X dX12_next__108 rfl 3 rfl ?_
        refine g_lv [(0, .ref (ad v0)), (1, .int v1), (2, .int s0), (4, .int v4)] [0, 1, 2, 4] rfl ?_
        exact hL109 _ _ _ hf
      · have hf := itn hc hf
        refine g_iload (pc := 103) X dX12_next__103 5 rfl ?_
        refine g_goto (pc := 105) (tgt := 109) X dX12_next__105 (by decide) ?_
        refine g_lv [(0, .ref (ad v0)), (1, .int v1), (2, .int s0), (4, .int v4)] [0, 1, 2, 4] rfl ?_
        exact hL109 _ _ _ hf
    have hL82 : ∀ (v2 : Int32) (v3 : Int32) (v4 : Int32) (s0 : Int32), fX12_next__82 v0 v1 v2 v3 v4 s0 m = some ob36 → G z wM x 6 0 0 ad 17 m 82 [(0, .ref (ad v0)), (1, .int v1), (2, .int v2), (3, .int v3), (4, .int v4)] [.int s0] := by
      intro v2 v3 v4 s0 hf
      unfold fX12_next__82 at hf
      refine g_istore (lv2 := [(0, .ref (ad v0)), (1, .int v1), (2, .int v2), (3, .int v3), (4, .int v4), (5, .int s0)]) (pc := 82) X dX12_next__82 (by decide) [1, 2, 3, 4, 5, 0] rfl ?_
      refine g_iload (pc := 84) X dX12_next__84 5 rfl ?_
      refine g_iload_n (pc := 86) X dX12_next__86 rfl 3 rfl ?_
      refine g_icmp_le (pc := 87) (tgt := 95) X dX12_next__87 (by decide) (fun hc => ?_) (fun hc => ?_)
      · have hf := itp hc hf
        refine g_iload_n (pc := 95) X dX12_next__95 rfl 2 rfl ?_
        refine g_lv [(0, .ref (ad v0)), (1, .int v1), (3, .int v3), (4, .int v4), (5, .int s0)] [0, 1, 3, 4, 5] rfl ?_
        exact hL96 _ _ _ _ hf
      · have hf := itn hc hf
        refine g_iload (pc := 90) X dX12_next__90 4 rfl ?_
        refine g_goto (pc := 92) (tgt := 96) X dX12_next__92 (by decide) ?_
        refine g_lv [(0, .ref (ad v0)), (1, .int v1), (3, .int v3), (4, .int v4), (5, .int s0)] [0, 1, 3, 4, 5] rfl ?_
        exact hL96 _ _ _ _ hf
    unfold fX12_next__36b at hf
    refine g_iload (pc := 36) X dX12_next__36 4 rfl ?_
    refine g_aload_n (pc := 38) X dX12_next__38 rfl 0 rfl ?_
    obtain ⟨hk3, hf⟩ := gp_some hf
    obtain ⟨q4, hr5, hf⟩ := bnd_some hf
    refine g_getR (pc := 39) X fl_X12_19 (KMlt hk3 (by decide)) hk3 hr5 dX12_next__39 ?_
    refine g_iconst (v := (4 : Int32)) (pc := 42) X dX12_next__42 (by decide) ?_
    obtain ⟨hk6, hf⟩ := gp_some hf
    obtain ⟨hi7, hf⟩ := gp_some hf
    refine g_iald (pc := 43) X (KMlt hk6 (by decide)) hk6 hi7 dX12_next__43 ?_
    refine g_icmp_ge (pc := 44) (tgt := 116) X dX12_next__44 (by decide) (fun hc => ?_) (fun hc => ?_)
    · have hf := itp hc hf
      have he36 := he36 _ (Option.some.inj hf).symm
      subst he36
      have hf : some (v2.toInt64, m) = some (r, m2) := hrest36
      refine g_iload_n (pc := 116) X dX12_next__116 rfl 2 rfl ?_
      refine g_i2l (pc := 117) X dX12_next__117 ?_
      obtain ⟨rfl, rfl⟩ := som2 hf
      exact hret _ _ dX12_next__118
    · have hf := itn hc hf
      refine g_iload_n (pc := 47) X dX12_next__47 rfl 1 rfl ?_
      refine g_iload (pc := 48) X dX12_next__48 4 rfl ?_
      refine g_ishr (pc := 50) X dX12_next__50 ?_
      refine g_iconst (v := (1 : Int32)) (pc := 51) X dX12_next__51 (by decide) ?_
      refine g_iand (pc := 52) X dX12_next__52 ?_
      refine g_iconst (v := (1 : Int32)) (pc := 53) X dX12_next__53 (by decide) ?_
      refine g_icmp_ne (pc := 54) (tgt := 61) X dX12_next__54 (by decide) (fun hc => ?_) (fun hc => ?_)
      · have hf := itn hc hf
        refine g_aload_n (pc := 61) X dX12_next__61 rfl 0 rfl ?_
        refine g_iload (pc := 62) X dX12_next__62 4 rfl ?_
        refine g_iconst (v := (1 : Int32)) (pc := 64) X dX12_next__64 (by decide) ?_
        obtain ⟨r9, hq8, hf⟩ := bnd_some hf
        refine g_callVI (pc := 65) (As := [.int v4, .int (1 : Int32)]) (rest := []) X mi_X12_storiesBy im_X12_storiesBy se_X12_storiesBy (KMlt hk3 (by decide)) hk3 clX12 ml_X12_366 (cX12_storiesBy_ct z ad v0 v4 (1 : Int32) m r9 hq8) rfl rfl (Nat.le_of_ble_eq_true rfl) ⟨rfl, rfl, by decide, by decide, Nat.le_refl _, Nat.le_refl _⟩ dX12_next__65 ?_
        obtain ⟨r11, hq10, hf⟩ := bnd_some hf
        refine g_callSI (pc := 68) (As := [.int r9]) (rest := []) X mi_X12_bits sm_X12_bits ml_X12_387 (cX12_bits_ct z ad r9 m r11 hq10) rfl rfl (Nat.le_of_ble_eq_true rfl) ⟨rfl, rfl, by decide, by decide, Nat.le_refl _, Nat.le_refl _⟩ dX12_next__68 ?_
        refine g_aload_n (pc := 71) X dX12_next__71 rfl 0 rfl ?_
        refine g_iload (pc := 72) X dX12_next__72 4 rfl ?_
        refine g_iconst (v := (2 : Int32)) (pc := 74) X dX12_next__74 (by decide) ?_
        obtain ⟨r13, hq12, hf⟩ := bnd_some hf
        refine g_callVI (pc := 75) (As := [.int v4, .int (2 : Int32)]) (rest := [.int r11]) X mi_X12_storiesBy im_X12_storiesBy se_X12_storiesBy (KMlt hk3 (by decide)) hk3 clX12 ml_X12_366 (cX12_storiesBy_ct z ad v0 v4 (2 : Int32) m r13 hq12) rfl rfl (Nat.le_of_ble_eq_true rfl) ⟨rfl, rfl, by decide, by decide, Nat.le_refl _, Nat.le_refl _⟩ dX12_next__75 ?_
        obtain ⟨r15, hq14, hf⟩ := bnd_some hf
        refine g_callSI (pc := 78) (As := [.int r13]) (rest := [.int r11]) X mi_X12_bits sm_X12_bits ml_X12_387 (cX12_bits_ct z ad r13 m r15 hq14) rfl rfl (Nat.le_of_ble_eq_true rfl) ⟨rfl, rfl, by decide, by decide, Nat.le_refl _, Nat.le_refl _⟩ dX12_next__78 ?_
        refine g_imul (pc := 81) X dX12_next__81 ?_
        exact hL82 _ _ _ _ hf
      · have hf := itp hc hf
        refine g_iconst (v := (-1 : Int32)) (pc := 57) X dX12_next__57 (by decide) ?_
        refine g_goto (pc := 58) (tgt := 82) X dX12_next__58 (by decide) ?_
        exact hL82 _ _ _ _ hf
  unfold fX12_next_ at hf
  refine g_aload_n (pc := 0) X dX12_next__0 rfl 0 rfl ?_
  refine g_iconst (v := (0 : Int32)) (pc := 1) X dX12_next__1 (by decide) ?_
  obtain ⟨hk16, hf⟩ := gp_some hf
  refine g_putI (pc := 2) X fl_X12_60 (KMlt hk16 (by decide)) hk16 rfl rfl dX12_next__2 ?_
  obtain ⟨m17, e18, hf⟩ := lt1_some hf
  refine g_mem e18 ?_
  refine g_aload_n (pc := 5) X dX12_next__5 rfl 0 rfl ?_
  refine g_getI (pc := 6) X fl_X12_238 (KMlt hk16 (by decide)) hk16 dX12_next__6 ?_
  refine g_if_ne (pc := 9) (tgt := 16) X dX12_next__9 (by decide) (fun hc => ?_) (fun hc => ?_)
  · have hf := itn hc hf
    refine g_aload_n (pc := 16) X dX12_next__16 rfl 0 rfl ?_
    refine g_iload_n (pc := 17) X dX12_next__17 rfl 1 rfl ?_
    obtain ⟨r20, hq19, hf⟩ := bnd_some hf
    refine g_callVI (pc := 18) (As := [.int v1]) (rest := []) X mi_X12_areSigns im_X12_areSigns se_X12_areSigns (KMlt hk16 (by decide)) hk16 clX12 ml_X12_380 (cX12_areSigns_ct z ad v0 v1 m17 r20 hq19) rfl rfl (Nat.le_of_ble_eq_true rfl) ⟨rfl, rfl, by decide, by decide, Nat.le_refl _, Nat.le_refl _⟩ dX12_next__18 ?_
    refine g_if_ne (pc := 21) (tgt := 28) X dX12_next__21 (by decide) (fun hc => ?_) (fun hc => ?_)
    · have hf := itn hc hf
      refine g_ldc (pc := 28) X dX12_next__28 k_X12_99 ?_
      obtain ⟨v2_21, e22, hf⟩ := lt1_some hf
      refine g_topi e22 ?_
      refine g_istore_n (lv2 := [(0, .ref (ad v0)), (1, .int v1), (2, .int v2_21)]) (pc := 30) X dX12_next__30 rfl (by decide) [1, 2, 0] rfl ?_
      refine g_iconst (v := (-1 : Int32)) (pc := 31) X dX12_next__31 (by decide) ?_
      obtain ⟨v3_23, e24, hf⟩ := lt1_some hf
      refine g_topi e24 ?_
      refine g_istore_n (lv2 := [(0, .ref (ad v0)), (1, .int v1), (2, .int v2_21), (3, .int v3_23)]) (pc := 32) X dX12_next__32 rfl (by decide) [1, 2, 3, 0] rfl ?_
      refine g_iconst (v := (0 : Int32)) (pc := 33) X dX12_next__33 (by decide) ?_
      obtain ⟨v4_25, e26, hf⟩ := lt1_some hf
      refine g_topi e26 ?_
      refine g_istore (lv2 := [(0, .ref (ad v0)), (1, .int v1), (2, .int v2_21), (3, .int v3_23), (4, .int v4_25)]) (pc := 34) X dX12_next__34 (by decide) [1, 2, 3, 4, 0] rfl ?_
      exact hL36 _ _ _ _ _ _ hf
    · have hf := itp hc hf
      refine g_ldc2 (pc := 24) X dX12_next__24 kl_X12_81 ?_
      obtain ⟨rfl, rfl⟩ := som2 hf
      exact hret _ _ dX12_next__27
  · have hf := itp hc hf
    refine g_ldc2 (pc := 12) X dX12_next__12 kl_X12_259 ?_
    obtain ⟨rfl, rfl⟩ := som2 hf
    exact hret _ _ dX12_next__15

noncomputable def fX12_image_94 (v0 : Nat) (v1 : Int32) (m : Mem) : Option (Int64 × Mem) := gp (KM v0 = 12) (bnd (m.2.2 v0 26) (fun q2 => gp (KM q2 = 16) (gp (inb v1 (NM q2) = true) (lt1 (uI m q2 v1.toNatClampNeg (vp_nar .boolean (1 : Int32))) (fun m6 => some ((1 : Int64), m6))))))
noncomputable def fX12_image_65b (v0 : Nat) (v1 : Int32) (v2 : Int32) (m : Mem) : Option ((Int32 × Mem) ⊕ (Mem)) := if (8 : Int32) ≤ v2 then (some (.inr (m))) else (gp (KM v0 = 12) (bnd (m.2.2 v0 28) (fun q9 => bnd (m.2.2 v0 8) (fun q11 => gp (KM q11 = 14) (gp (inb v2 (NM q11) = true) (gp (KM q9 = 14) (gp (inb (((8 : Int32) * v1) + v2) (NM q9) = true) (lt1 (uI m q9 (((8 : Int32) * v1) + v2).toNatClampNeg (m.1 q11 v2.toNatClampNeg)) (fun m17 => lt1 (v2 + 1) (fun v2_19 => some (.inl (v2_19, m17))))))))))))
noncomputable def fX12_image_65 (v0 : Nat) (v1 : Int32) (v2 : Int32) (m : Mem) : Option (Int64 × Mem) := bnd (iter (fun s => fX12_image_65b v0 v1 s.1 s.2) FU (v2, m)) (fun e => fX12_image_94 v0 v1 e)
noncomputable def fX12_image_63 (v0 : Nat) (v1 : Int32) (m : Mem) : Option (Int64 × Mem) := lt1 ((0 : Int32)) (fun v2_21 => fX12_image_65 v0 v1 v2_21 m)
noncomputable def fX12_image_32b (v0 : Nat) (v1 : Int32) (v2 : Int32) (m : Mem) : Option ((Int32 × Mem) ⊕ (Mem)) := if (206 : Int32) ≤ v2 then (some (.inr (m))) else (gp (KM v0 = 12) (bnd (m.2.2 v0 27) (fun q24 => bnd (m.2.2 v0 5) (fun q26 => gp (KM q26 = 14) (gp (inb v2 (NM q26) = true) (gp (KM q24 = 14) (gp (inb (((206 : Int32) * v1) + v2) (NM q24) = true) (lt1 (uI m q24 (((206 : Int32) * v1) + v2).toNatClampNeg (m.1 q26 v2.toNatClampNeg)) (fun m32 => lt1 (v2 + 1) (fun v2_34 => some (.inl (v2_34, m32))))))))))))
noncomputable def fX12_image_32 (v0 : Nat) (v1 : Int32) (v2 : Int32) (m : Mem) : Option (Int64 × Mem) := bnd (iter (fun s => fX12_image_32b v0 v1 s.1 s.2) FU (v2, m)) (fun e => fX12_image_63 v0 v1 e)
noncomputable def fX12_image (v0 : Nat) (v1 : Int32) (m : Mem) : Option (Int64 × Mem) := gp (KM v0 = 12) (lt1 (uI m v0 0 (0 : Int32)) (fun m37 => bnd (fX12_in v1.toInt64 (0 : Int64) (1 : Int64)) (fun r40 => if r40 = 0 then (some ((-9000000000000000001 : Int64), m37)) else (if (m37.1 v0 7) = 0 then (some ((-9000000000000000002 : Int64), m37)) else (lt1 ((0 : Int32)) (fun v2_41 => fX12_image_32 v0 v1 v2_41 m37))))))
set_option maxHeartbeats 4000000 in
set_option maxRecDepth 100000 in
theorem cX12_image_ct (z : Zx) (ad : Nat → Nat) (v0 : Nat) (v1 : Int32) (m m2 : Mem) (r : Int64) (hf : fX12_image v0 v1 m = some (r, m2)) : CtL z wM yX12_image cX12_image 3 (some .long) (Rm 3) ad 17 [.ref (ad v0), .int v1] m m2 r := by
  refine ct_ofL mi_X12_image rfl (Nat.le_of_ble_eq_true rfl) (fun x X hret => ?_)
  refine g_lv [(0, .ref (ad v0)), (1, .int v1)] [0, 1] rfl ?_
  have hL94 : ∀ (v0 : Nat) (v1 : Int32) (m : Mem), fX12_image_94 v0 v1 m = some (r, m2) → G z wM x 3 0 0 ad 17 m 94 [(0, .ref (ad v0)), (1, .int v1)] [] := by
    intro v0 v1 m hf
    unfold fX12_image_94 at hf
    refine g_aload_n (pc := 94) X dX12_image_94 rfl 0 rfl ?_
    obtain ⟨hk1, hf⟩ := gp_some hf
    obtain ⟨q2, hr3, hf⟩ := bnd_some hf
    refine g_getR (pc := 95) X fl_X12_47 (KMlt hk1 (by decide)) hk1 hr3 dX12_image_95 ?_
    refine g_iload_n (pc := 98) X dX12_image_98 rfl 1 rfl ?_
    refine g_iconst (v := (1 : Int32)) (pc := 99) X dX12_image_99 (by decide) ?_
    obtain ⟨hk4, hf⟩ := gp_some hf
    obtain ⟨hi5, hf⟩ := gp_some hf
    refine g_zast (pc := 100) X (KMlt hk4 (by decide)) hk4 hi5 dX12_image_100 ?_
    obtain ⟨m6, e7, hf⟩ := lt1_some hf
    refine g_mem e7 ?_
    refine g_lconst (v := (1 : Int64)) (pc := 101) X dX12_image_101 (by decide) ?_
    obtain ⟨rfl, rfl⟩ := som2 hf
    exact hret _ _ dX12_image_102
  have hL65 : ∀ (v0 : Nat) (v1 : Int32) (v2 : Int32) (m : Mem), fX12_image_65 v0 v1 v2 m = some (r, m2) → G z wM x 3 0 0 ad 17 m 65 [(0, .ref (ad v0)), (1, .int v1), (2, .int v2)] [] := by
    intro v0 v1 v2 m hf
    unfold fX12_image_65 at hf
    obtain ⟨e65, hit65, hrest65⟩ := bnd_some hf
    refine iter_ok (Hd := fun (s : (Int32 × Mem)) => G z wM x 3 0 0 ad 17 s.2 65 [(0, .ref (ad v0)), (1, .int v1), (2, .int s.1)] []) ?_ FU (v2, m) hit65
    intro s ob65 hf hs65 he65
    obtain ⟨v2, m⟩ := s
    have hf : fX12_image_65b v0 v1 v2 m = some ob65 := hf
    unfold fX12_image_65b at hf
    refine g_iload_n (pc := 65) X dX12_image_65 rfl 2 rfl ?_
    refine g_bipush (v := (8 : Int32)) (pc := 66) X dX12_image_66 (by decide) ?_
    refine g_icmp_ge (pc := 68) (tgt := 94) X dX12_image_68 (by decide) (fun hc => ?_) (fun hc => ?_)
    · have hf := itp hc hf
      have he65 := he65 _ (Option.some.inj hf).symm
      subst he65
      have hf : fX12_image_94 v0 v1 m = some (r, m2) := hrest65
      refine g_lv [(0, .ref (ad v0)), (1, .int v1)] [0, 1] rfl ?_
      exact hL94 _ _ _ hf
    · have hf := itn hc hf
      refine g_aload_n (pc := 71) X dX12_image_71 rfl 0 rfl ?_
      obtain ⟨hk8, hf⟩ := gp_some hf
      obtain ⟨q9, hr10, hf⟩ := bnd_some hf
      refine g_getR (pc := 72) X fl_X12_54 (KMlt hk8 (by decide)) hk8 hr10 dX12_image_72 ?_
      refine g_bipush (v := (8 : Int32)) (pc := 75) X dX12_image_75 (by decide) ?_
      refine g_iload_n (pc := 77) X dX12_image_77 rfl 1 rfl ?_
      refine g_imul (pc := 78) X dX12_image_78 ?_
      refine g_iload_n (pc := 79) X dX12_image_79 rfl 2 rfl ?_
      refine g_iadd (pc := 80) X dX12_image_80 ?_
      refine g_aload_n (pc := 81) X dX12_image_81 rfl 0 rfl ?_
      obtain ⟨q11, hr12, hf⟩ := bnd_some hf
      refine g_getR (pc := 82) X fl_X12_25 (KMlt hk8 (by decide)) hk8 hr12 dX12_image_82 ?_
      refine g_iload_n (pc := 85) X dX12_image_85 rfl 2 rfl ?_
      obtain ⟨hk13, hf⟩ := gp_some hf
      obtain ⟨hi14, hf⟩ := gp_some hf
      refine g_iald (pc := 86) X (KMlt hk13 (by decide)) hk13 hi14 dX12_image_86 ?_
      obtain ⟨hk15, hf⟩ := gp_some hf
      obtain ⟨hi16, hf⟩ := gp_some hf
      refine g_iast (pc := 87) X (KMlt hk15 (by decide)) hk15 hi16 dX12_image_87 ?_
      obtain ⟨m17, e18, hf⟩ := lt1_some hf
      refine g_mem e18 ?_
      obtain ⟨v2_19, e20, hf⟩ := lt1_some hf
      refine g_iinc (v2 := v2_19) (lv2 := [(0, .ref (ad v0)), (1, .int v1), (2, .int v2_19)]) (pc := 88) X dX12_image_88 2 rfl (by rw [e20]; rfl) (by decide) [1, 2, 0] rfl ?_
      refine g_goto (pc := 91) (tgt := 65) X dX12_image_91 (by decide) ?_
      exact hs65 (v2_19, m17) (Option.some.inj hf).symm
  have hL63 : ∀ (v0 : Nat) (v1 : Int32) (m : Mem), fX12_image_63 v0 v1 m = some (r, m2) → G z wM x 3 0 0 ad 17 m 63 [(0, .ref (ad v0)), (1, .int v1)] [] := by
    intro v0 v1 m hf
    unfold fX12_image_63 at hf
    refine g_iconst (v := (0 : Int32)) (pc := 63) X dX12_image_63 (by decide) ?_
    obtain ⟨v2_21, e22, hf⟩ := lt1_some hf
    refine g_topi e22 ?_
    refine g_istore_n (lv2 := [(0, .ref (ad v0)), (1, .int v1), (2, .int v2_21)]) (pc := 64) X dX12_image_64 rfl (by decide) [1, 2, 0] rfl ?_
    exact hL65 _ _ _ _ hf
  have hL32 : ∀ (v0 : Nat) (v1 : Int32) (v2 : Int32) (m : Mem), fX12_image_32 v0 v1 v2 m = some (r, m2) → G z wM x 3 0 0 ad 17 m 32 [(0, .ref (ad v0)), (1, .int v1), (2, .int v2)] [] := by
    intro v0 v1 v2 m hf
    unfold fX12_image_32 at hf
    obtain ⟨e32, hit32, hrest32⟩ := bnd_some hf
    refine iter_ok (Hd := fun (s : (Int32 × Mem)) => G z wM x 3 0 0 ad 17 s.2 32 [(0, .ref (ad v0)), (1, .int v1), (2, .int s.1)] []) ?_ FU (v2, m) hit32
    intro s ob32 hf hs32 he32
    obtain ⟨v2, m⟩ := s
    have hf : fX12_image_32b v0 v1 v2 m = some ob32 := hf
    unfold fX12_image_32b at hf
    refine g_iload_n (pc := 32) X dX12_image_32 rfl 2 rfl ?_
    refine g_sipush (v := (206 : Int32)) (pc := 33) X dX12_image_33 (by decide) ?_
    refine g_icmp_ge (pc := 36) (tgt := 63) X dX12_image_36 (by decide) (fun hc => ?_) (fun hc => ?_)
    · have hf := itp hc hf
      have he32 := he32 _ (Option.some.inj hf).symm
      subst he32
      have hf : fX12_image_63 v0 v1 m = some (r, m2) := hrest32
      refine g_lv [(0, .ref (ad v0)), (1, .int v1)] [0, 1] rfl ?_
      exact hL63 _ _ _ hf
    · have hf := itn hc hf
      refine g_aload_n (pc := 39) X dX12_image_39 rfl 0 rfl ?_
      obtain ⟨hk23, hf⟩ := gp_some hf
      obtain ⟨q24, hr25, hf⟩ := bnd_some hf
      refine g_getR (pc := 40) X fl_X12_51 (KMlt hk23 (by decide)) hk23 hr25 dX12_image_40 ?_
      refine g_sipush (v := (206 : Int32)) (pc := 43) X dX12_image_43 (by decide) ?_
      refine g_iload_n (pc := 46) X dX12_image_46 rfl 1 rfl ?_
      refine g_imul (pc := 47) X dX12_image_47 ?_
      refine g_iload_n (pc := 48) X dX12_image_48 rfl 2 rfl ?_
      refine g_iadd (pc := 49) X dX12_image_49 ?_
      refine g_aload_n (pc := 50) X dX12_image_50 rfl 0 rfl ?_
      obtain ⟨q26, hr27, hf⟩ := bnd_some hf
      refine g_getR (pc := 51) X fl_X12_19 (KMlt hk23 (by decide)) hk23 hr27 dX12_image_51 ?_
      refine g_iload_n (pc := 54) X dX12_image_54 rfl 2 rfl ?_
      obtain ⟨hk28, hf⟩ := gp_some hf
      obtain ⟨hi29, hf⟩ := gp_some hf
      refine g_iald (pc := 55) X (KMlt hk28 (by decide)) hk28 hi29 dX12_image_55 ?_
      obtain ⟨hk30, hf⟩ := gp_some hf
      obtain ⟨hi31, hf⟩ := gp_some hf
      refine g_iast (pc := 56) X (KMlt hk30 (by decide)) hk30 hi31 dX12_image_56 ?_
      obtain ⟨m32, e33, hf⟩ := lt1_some hf
      refine g_mem e33 ?_
      obtain ⟨v2_34, e35, hf⟩ := lt1_some hf
      refine g_iinc (v2 := v2_34) (lv2 := [(0, .ref (ad v0)), (1, .int v1), (2, .int v2_34)]) (pc := 57) X dX12_image_57 2 rfl (by rw [e35]; rfl) (by decide) [1, 2, 0] rfl ?_
      refine g_goto (pc := 60) (tgt := 32) X dX12_image_60 (by decide) ?_
      exact hs32 (v2_34, m32) (Option.some.inj hf).symm
  unfold fX12_image at hf
  refine g_aload_n (pc := 0) X dX12_image_0 rfl 0 rfl ?_
  refine g_iconst (v := (0 : Int32)) (pc := 1) X dX12_image_1 (by decide) ?_
  obtain ⟨hk36, hf⟩ := gp_some hf
  refine g_putI (pc := 2) X fl_X12_60 (KMlt hk36 (by decide)) hk36 rfl rfl dX12_image_2 ?_
  obtain ⟨m37, e38, hf⟩ := lt1_some hf
  refine g_mem e38 ?_
  refine g_iload_n (pc := 5) X dX12_image_5 rfl 1 rfl ?_
  refine g_i2l (pc := 6) X dX12_image_6 ?_
  refine g_lconst (v := (0 : Int64)) (pc := 7) X dX12_image_7 (by decide) ?_
  refine g_lconst (v := (1 : Int64)) (pc := 8) X dX12_image_8 (by decide) ?_
  obtain ⟨r40, hq39, hf⟩ := bnd_some hf
  refine g_callSI (pc := 9) (As := [.long v1.toInt64, .long (0 : Int64), .long (1 : Int64)]) (rest := []) X mi_X12_in sm_X12_in ml_X12_71 (cX12_in_ct z ad v1.toInt64 (0 : Int64) (1 : Int64) m37 r40 hq39) rfl rfl (Nat.le_of_ble_eq_true rfl) ⟨rfl, rfl, by decide, by decide, Nat.le_refl _, Nat.le_refl _⟩ dX12_image_9 ?_
  refine g_if_ne (pc := 12) (tgt := 19) X dX12_image_12 (by decide) (fun hc => ?_) (fun hc => ?_)
  · have hf := itn hc hf
    refine g_aload_n (pc := 19) X dX12_image_19 rfl 0 rfl ?_
    refine g_getI (pc := 20) X fl_X12_238 (KMlt hk36 (by decide)) hk36 dX12_image_20 ?_
    refine g_if_ne (pc := 23) (tgt := 30) X dX12_image_23 (by decide) (fun hc => ?_) (fun hc => ?_)
    · have hf := itn hc hf
      refine g_iconst (v := (0 : Int32)) (pc := 30) X dX12_image_30 (by decide) ?_
      obtain ⟨v2_41, e42, hf⟩ := lt1_some hf
      refine g_topi e42 ?_
      refine g_istore_n (lv2 := [(0, .ref (ad v0)), (1, .int v1), (2, .int v2_41)]) (pc := 31) X dX12_image_31 rfl (by decide) [1, 2, 0] rfl ?_
      exact hL32 _ _ _ _ hf
    · have hf := itp hc hf
      refine g_ldc2 (pc := 26) X dX12_image_26 kl_X12_259 ?_
      obtain ⟨rfl, rfl⟩ := som2 hf
      exact hret _ _ dX12_image_29
  · have hf := itp hc hf
    refine g_ldc2 (pc := 15) X dX12_image_15 kl_X12_81 ?_
    obtain ⟨rfl, rfl⟩ := som2 hf
    exact hret _ _ dX12_image_18

