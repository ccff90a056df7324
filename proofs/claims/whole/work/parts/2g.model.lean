noncomputable def fX12_restore_67b (v0 : Nat) (v1 : Int32) (v2 : Int32) (m : Mem) : Option ((Int32 × Mem) ⊕ (Mem)) := if (8 : Int32) ≤ v2 then (some (.inr (m))) else (gp (KM v0 = 12) (bnd (m.2.2 v0 8) (fun q2 => bnd (m.2.2 v0 28) (fun q4 => gp (KM q4 = 14) (gp (inb (((8 : Int32) * v1) + v2) (NM q4) = true) (gp (KM q2 = 14) (gp (inb v2 (NM q2) = true) (lt1 (uI m q2 v2.toNatClampNeg (m.1 q4 (((8 : Int32) * v1) + v2).toNatClampNeg)) (fun m10 => lt1 (v2 + 1) (fun v2_12 => some (.inl (v2_12, m10))))))))))))
noncomputable def fX12_restore_67 (v0 : Nat) (v1 : Int32) (v2 : Int32) (m : Mem) : Option (Int64 × Mem) := bnd (iter (fun s => fX12_restore_67b v0 v1 s.1 s.2) FU (v2, m)) (fun e => some ((1 : Int64), e))
noncomputable def fX12_restore_65 (v0 : Nat) (v1 : Int32) (m : Mem) : Option (Int64 × Mem) := lt1 ((0 : Int32)) (fun v2_14 => fX12_restore_67 v0 v1 v2_14 m)
noncomputable def fX12_restore_34b (v0 : Nat) (v1 : Int32) (v2 : Int32) (m : Mem) : Option ((Int32 × Mem) ⊕ (Mem)) := if (206 : Int32) ≤ v2 then (some (.inr (m))) else (gp (KM v0 = 12) (bnd (m.2.2 v0 5) (fun q17 => bnd (m.2.2 v0 27) (fun q19 => gp (KM q19 = 14) (gp (inb (((206 : Int32) * v1) + v2) (NM q19) = true) (gp (KM q17 = 14) (gp (inb v2 (NM q17) = true) (lt1 (uI m q17 v2.toNatClampNeg (m.1 q19 (((206 : Int32) * v1) + v2).toNatClampNeg)) (fun m25 => lt1 (v2 + 1) (fun v2_27 => some (.inl (v2_27, m25))))))))))))
noncomputable def fX12_restore_34 (v0 : Nat) (v1 : Int32) (v2 : Int32) (m : Mem) : Option (Int64 × Mem) := bnd (iter (fun s => fX12_restore_34b v0 v1 s.1 s.2) FU (v2, m)) (fun e => fX12_restore_65 v0 v1 e)
noncomputable def fX12_restore (v0 : Nat) (v1 : Int32) (m : Mem) : Option (Int64 × Mem) := gp (KM v0 = 12) (lt1 (uI m v0 0 (0 : Int32)) (fun m30 => bnd (fX12_in v1.toInt64 (0 : Int64) (1 : Int64)) (fun r33 => if r33 = 0 then (some ((-9000000000000000001 : Int64), m30)) else (bnd (m30.2.2 v0 26) (fun q34 => gp (KM q34 = 16) (gp (inb v1 (NM q34) = true) (if (m30.1 q34 v1.toNatClampNeg) = 0 then (some ((-9000000000000000002 : Int64), m30)) else (lt1 ((0 : Int32)) (fun v2_38 => fX12_restore_34 v0 v1 v2_38 m30)))))))))
set_option maxHeartbeats 4000000 in
set_option maxRecDepth 100000 in
theorem cX12_restore_ct (z : Zx) (ad : Nat → Nat) (v0 : Nat) (v1 : Int32) (m m2 : Mem) (r : Int64) (hf : fX12_restore v0 v1 m = some (r, m2)) : CtL z wM yX12_restore cX12_restore 3 (some .long) (Rm 3) ad 17 [.ref (ad v0), .int v1] m m2 r := by
  refine ct_ofL mi_X12_restore rfl (Nat.le_of_ble_eq_true rfl) (fun x X hret => ?_)
  refine g_lv [(0, .ref (ad v0)), (1, .int v1)] [0, 1] rfl ?_
  have hL67 : ∀ (v0 : Nat) (v1 : Int32) (v2 : Int32) (m : Mem), fX12_restore_67 v0 v1 v2 m = some (r, m2) → G z wM x 3 0 0 ad 17 m 67 [(0, .ref (ad v0)), (1, .int v1), (2, .int v2)] [] := by
    intro v0 v1 v2 m hf
    unfold fX12_restore_67 at hf
    obtain ⟨e67, hit67, hrest67⟩ := bnd_some hf
    refine iter_ok (Hd := fun (s : (Int32 × Mem)) => G z wM x 3 0 0 ad 17 s.2 67 [(0, .ref (ad v0)), (1, .int v1), (2, .int s.1)] []) ?_ FU (v2, m) hit67
    intro s ob67 hf hs67 he67
    obtain ⟨v2, m⟩ := s
    have hf : fX12_restore_67b v0 v1 v2 m = some ob67 := hf
    unfold fX12_restore_67b at hf
    refine g_iload_n (pc := 67) X dX12_restore_67 rfl 2 rfl ?_
    refine g_bipush (v := (8 : Int32)) (pc := 68) X dX12_restore_68 (by decide) ?_
    refine g_icmp_ge (pc := 70) (tgt := 96) X dX12_restore_70 (by decide) (fun hc => ?_) (fun hc => ?_)
    · have hf := itp hc hf
      have he67 := he67 _ (Option.some.inj hf).symm
      subst he67
      have hf : some ((1 : Int64), m) = some (r, m2) := hrest67
      refine g_lconst (v := (1 : Int64)) (pc := 96) X dX12_restore_96 (by decide) ?_
      obtain ⟨rfl, rfl⟩ := som2 hf
      exact hret _ _ dX12_restore_97
    · have hf := itn hc hf
      refine g_aload_n (pc := 73) X dX12_restore_73 rfl 0 rfl ?_
      obtain ⟨hk1, hf⟩ := gp_some hf
      obtain ⟨q2, hr3, hf⟩ := bnd_some hf
      refine g_getR (pc := 74) X fl_X12_25 (KMlt hk1 (by decide)) hk1 hr3 dX12_restore_74 ?_
      refine g_iload_n (pc := 77) X dX12_restore_77 rfl 2 rfl ?_
      refine g_aload_n (pc := 78) X dX12_restore_78 rfl 0 rfl ?_
      obtain ⟨q4, hr5, hf⟩ := bnd_some hf
      refine g_getR (pc := 79) X fl_X12_54 (KMlt hk1 (by decide)) hk1 hr5 dX12_restore_79 ?_
      refine g_bipush (v := (8 : Int32)) (pc := 82) X dX12_restore_82 (by decide) ?_
      refine g_iload_n (pc := 84) X dX12_restore_84 rfl 1 rfl ?_
      refine g_imul (pc := 85) X dX12_restore_85 ?_
      refine g_iload_n (pc := 86) X dX12_restore_86 rfl 2 rfl ?_
      refine g_iadd (pc := 87) X dX12_restore_87 ?_
      obtain ⟨hk6, hf⟩ := gp_some hf
      obtain ⟨hi7, hf⟩ := gp_some hf
      refine g_iald (pc := 88) X (KMlt hk6 (by decide)) hk6 hi7 dX12_restore_88 ?_
      obtain ⟨hk8, hf⟩ := gp_some hf
      obtain ⟨hi9, hf⟩ := gp_some hf
      refine g_iast (pc := 89) X (KMlt hk8 (by decide)) hk8 hi9 dX12_restore_89 ?_
      obtain ⟨m10, e11, hf⟩ := lt1_some hf
      refine g_mem e11 ?_
      obtain ⟨v2_12, e13, hf⟩ := lt1_some hf
      refine g_iinc (v2 := v2_12) (lv2 := [(0, .ref (ad v0)), (1, .int v1), (2, .int v2_12)]) (pc := 90) X dX12_restore_90 2 rfl (by rw [e13]; rfl) (by decide) [1, 2, 0] rfl ?_
      refine g_goto (pc := 93) (tgt := 67) X dX12_restore_93 (by decide) ?_
      exact hs67 (v2_12, m10) (Option.some.inj hf).symm
  have hL65 : ∀ (v0 : Nat) (v1 : Int32) (m : Mem), fX12_restore_65 v0 v1 m = some (r, m2) → G z wM x 3 0 0 ad 17 m 65 [(0, .ref (ad v0)), (1, .int v1)] [] := by
    intro v0 v1 m hf
    unfold fX12_restore_65 at hf
    refine g_iconst (v := (0 : Int32)) (pc := 65) X dX12_restore_65 (by decide) ?_
    obtain ⟨v2_14, e15, hf⟩ := lt1_some hf
    refine g_topi e15 ?_
    refine g_istore_n (lv2 := [(0, .ref (ad v0)), (1, .int v1), (2, .int v2_14)]) (pc := 66) X dX12_restore_66 rfl (by decide) [1, 2, 0] rfl ?_
    exact hL67 _ _ _ _ hf
  have hL34 : ∀ (v0 : Nat) (v1 : Int32) (v2 : Int32) (m : Mem), fX12_restore_34 v0 v1 v2 m = some (r, m2) → G z wM x 3 0 0 ad 17 m 34 [(0, .ref (ad v0)), (1, .int v1), (2, .int v2)] [] := by
    intro v0 v1 v2 m hf
    unfold fX12_restore_34 at hf
    obtain ⟨e34, hit34, hrest34⟩ := bnd_some hf
    refine iter_ok (Hd := fun (s : (Int32 × Mem)) => G z wM x 3 0 0 ad 17 s.2 34 [(0, .ref (ad v0)), (1, .int v1), (2, .int s.1)] []) ?_ FU (v2, m) hit34
    intro s ob34 hf hs34 he34
    obtain ⟨v2, m⟩ := s
    have hf : fX12_restore_34b v0 v1 v2 m = some ob34 := hf
    unfold fX12_restore_34b at hf
    refine g_iload_n (pc := 34) X dX12_restore_34 rfl 2 rfl ?_
    refine g_sipush (v := (206 : Int32)) (pc := 35) X dX12_restore_35 (by decide) ?_
    refine g_icmp_ge (pc := 38) (tgt := 65) X dX12_restore_38 (by decide) (fun hc => ?_) (fun hc => ?_)
    · have hf := itp hc hf
      have he34 := he34 _ (Option.some.inj hf).symm
      subst he34
      have hf : fX12_restore_65 v0 v1 m = some (r, m2) := hrest34
      refine g_lv [(0, .ref (ad v0)), (1, .int v1)] [0, 1] rfl ?_
      exact hL65 _ _ _ hf
    · have hf := itn hc hf
      refine g_aload_n (pc := 41) X dX12_restore_41 rfl 0 rfl ?_
      obtain ⟨hk16, hf⟩ := gp_some hf
      obtain ⟨q17, hr18, hf⟩ := bnd_some hf
      refine g_getR (pc := 42) X fl_X12_19 (KMlt hk16 (by decide)) hk16 hr18 dX12_restore_42 ?_
      refine g_iload_n (pc := 45) X dX12_restore_45 rfl 2 rfl ?_
      refine g_aload_n (pc := 46) X dX12_restore_46 rfl 0 rfl ?_
      obtain ⟨q19, hr20, hf⟩ := bnd_some hf
      refine g_getR (pc := 47) X fl_X12_51 (KMlt hk16 (by decide)) hk16 hr20 dX12_restore_47 ?_
      refine g_sipush (v := (206 : Int32)) (pc := 50) X dX12_restore_50 (by decide) ?_
      refine g_iload_n (pc := 53) X dX12_restore_53 rfl 1 rfl ?_
      refine g_imul (pc := 54) X dX12_restore_54 ?_
      refine g_iload_n (pc := 55) X dX12_restore_55 rfl 2 rfl ?_
      refine g_iadd (pc := 56) X dX12_restore_56 ?_
      obtain ⟨hk21, hf⟩ := gp_some hf
      obtain ⟨hi22, hf⟩ := gp_some hf
      refine g_iald (pc := 57) X (KMlt hk21 (by decide)) hk21 hi22 dX12_restore_57 ?_
      obtain ⟨hk23, hf⟩ := gp_some hf
      obtain ⟨hi24, hf⟩ := gp_some hf
      refine g_iast (pc := 58) X (KMlt hk23 (by decide)) hk23 hi24 dX12_restore_58 ?_
      obtain ⟨m25, e26, hf⟩ := lt1_some hf
      refine g_mem e26 ?_
      obtain ⟨v2_27, e28, hf⟩ := lt1_some hf
      refine g_iinc (v2 := v2_27) (lv2 := [(0, .ref (ad v0)), (1, .int v1), (2, .int v2_27)]) (pc := 59) X dX12_restore_59 2 rfl (by rw [e28]; rfl) (by decide) [1, 2, 0] rfl ?_
      refine g_goto (pc := 62) (tgt := 34) X dX12_restore_62 (by decide) ?_
      exact hs34 (v2_27, m25) (Option.some.inj hf).symm
  unfold fX12_restore at hf
  refine g_aload_n (pc := 0) X dX12_restore_0 rfl 0 rfl ?_
  refine g_iconst (v := (0 : Int32)) (pc := 1) X dX12_restore_1 (by decide) ?_
  obtain ⟨hk29, hf⟩ := gp_some hf
  refine g_putI (pc := 2) X fl_X12_60 (KMlt hk29 (by decide)) hk29 rfl rfl dX12_restore_2 ?_
  obtain ⟨m30, e31, hf⟩ := lt1_some hf
  refine g_mem e31 ?_
  refine g_iload_n (pc := 5) X dX12_restore_5 rfl 1 rfl ?_
  refine g_i2l (pc := 6) X dX12_restore_6 ?_
  refine g_lconst (v := (0 : Int64)) (pc := 7) X dX12_restore_7 (by decide) ?_
  refine g_lconst (v := (1 : Int64)) (pc := 8) X dX12_restore_8 (by decide) ?_
  obtain ⟨r33, hq32, hf⟩ := bnd_some hf
  refine g_callSI (pc := 9) (As := [.long v1.toInt64, .long (0 : Int64), .long (1 : Int64)]) (rest := []) X mi_X12_in sm_X12_in ml_X12_71 (cX12_in_ct z ad v1.toInt64 (0 : Int64) (1 : Int64) m30 r33 hq32) rfl rfl (Nat.le_of_ble_eq_true rfl) ⟨rfl, rfl, by decide, by decide, Nat.le_refl _, Nat.le_refl _⟩ dX12_restore_9 ?_
  refine g_if_ne (pc := 12) (tgt := 19) X dX12_restore_12 (by decide) (fun hc => ?_) (fun hc => ?_)
  · have hf := itn hc hf
    refine g_aload_n (pc := 19) X dX12_restore_19 rfl 0 rfl ?_
    obtain ⟨q34, hr35, hf⟩ := bnd_some hf
    refine g_getR (pc := 20) X fl_X12_47 (KMlt hk29 (by decide)) hk29 hr35 dX12_restore_20 ?_
    refine g_iload_n (pc := 23) X dX12_restore_23 rfl 1 rfl ?_
    obtain ⟨hk36, hf⟩ := gp_some hf
    obtain ⟨hi37, hf⟩ := gp_some hf
    refine g_zald (pc := 24) X (KMlt hk36 (by decide)) hk36 hi37 dX12_restore_24 ?_
    refine g_if_ne (pc := 25) (tgt := 32) X dX12_restore_25 (by decide) (fun hc => ?_) (fun hc => ?_)
    · have hf := itn hc hf
      refine g_iconst (v := (0 : Int32)) (pc := 32) X dX12_restore_32 (by decide) ?_
      obtain ⟨v2_38, e39, hf⟩ := lt1_some hf
      refine g_topi e39 ?_
      refine g_istore_n (lv2 := [(0, .ref (ad v0)), (1, .int v1), (2, .int v2_38)]) (pc := 33) X dX12_restore_33 rfl (by decide) [1, 2, 0] rfl ?_
      exact hL34 _ _ _ _ hf
    · have hf := itp hc hf
      refine g_ldc2 (pc := 28) X dX12_restore_28 kl_X12_259 ?_
      obtain ⟨rfl, rfl⟩ := som2 hf
      exact hret _ _ dX12_restore_31
  · have hf := itp hc hf
    refine g_ldc2 (pc := 15) X dX12_restore_15 kl_X12_81 ?_
    obtain ⟨rfl, rfl⟩ := som2 hf
    exact hret _ _ dX12_restore_18

noncomputable def fX12_isOf_31 : Option Int32 := some (1 : Int32)
noncomputable def fX12_isOf_19 (v0 : Int32) (v1 : Int32) : Option Int32 := if v1 = (6 : Int32) then (if v0 = (7 : Int32) then (fX12_isOf_31) else (some (0 : Int32))) else (some (0 : Int32))
noncomputable def fX12_isOf (v0 : Int32) (v1 : Int32) : Option Int32 := if v1 = 0 then (fX12_isOf_31) else (if v0 = v1 then (fX12_isOf_31) else (if v1 = (4 : Int32) then (if v0 = (5 : Int32) then (fX12_isOf_31) else (fX12_isOf_19 v0 v1)) else (fX12_isOf_19 v0 v1)))
set_option maxHeartbeats 4000000 in
set_option maxRecDepth 100000 in
theorem cX12_isOf_ct (z : Zx) (ad : Nat → Nat) (v0 : Int32) (v1 : Int32) (m : Mem) (r : Int32) (hf : fX12_isOf v0 v1 = some r) : CtI z wM yX12_isOf cX12_isOf 2 (some .boolean) (Rm 2) ad 17 [.int v0, .int v1] m m r := by
  refine ct_ofI mi_X12_isOf rfl (Nat.le_of_ble_eq_true rfl) (fun x X hret => ?_)
  refine g_lv [(0, .int v0), (1, .int v1)] [0, 1] rfl ?_
  have hL31 : fX12_isOf_31 = some r → G z wM x 2 0 0 ad 17 m 31 [] [] := by
    intro hf
    unfold fX12_isOf_31 at hf
    refine g_iconst (v := (1 : Int32)) (pc := 31) X dX12_isOf_31 (by decide) ?_
    refine g_goto (pc := 32) (tgt := 36) X dX12_isOf_32 (by decide) ?_
    obtain rfl := Option.some.inj hf
    exact hret _ _ (by decide) dX12_isOf_36
  have hL19 : ∀ (v0 : Int32) (v1 : Int32), fX12_isOf_19 v0 v1 = some r → G z wM x 2 0 0 ad 17 m 19 [(0, .int v0), (1, .int v1)] [] := by
    intro v0 v1 hf
    unfold fX12_isOf_19 at hf
    refine g_iload_n (pc := 19) X dX12_isOf_19 rfl 1 rfl ?_
    refine g_bipush (v := (6 : Int32)) (pc := 20) X dX12_isOf_20 (by decide) ?_
    refine g_icmp_ne (pc := 22) (tgt := 35) X dX12_isOf_22 (by decide) (fun hc => ?_) (fun hc => ?_)
    · have hf := itn hc hf
      refine g_iconst (v := (0 : Int32)) (pc := 35) X dX12_isOf_35 (by decide) ?_
      obtain rfl := Option.some.inj hf
      exact hret _ _ (by decide) dX12_isOf_36
    · have hf := itp hc hf
      refine g_iload_n (pc := 25) X dX12_isOf_25 rfl 0 rfl ?_
      refine g_bipush (v := (7 : Int32)) (pc := 26) X dX12_isOf_26 (by decide) ?_
      refine g_icmp_ne (pc := 28) (tgt := 35) X dX12_isOf_28 (by decide) (fun hc => ?_) (fun hc => ?_)
      · have hf := itn hc hf
        refine g_iconst (v := (0 : Int32)) (pc := 35) X dX12_isOf_35 (by decide) ?_
        obtain rfl := Option.some.inj hf
        exact hret _ _ (by decide) dX12_isOf_36
      · have hf := itp hc hf
        refine g_lv [] [] rfl ?_
        exact hL31 hf
  unfold fX12_isOf at hf
  refine g_iload_n (pc := 0) X dX12_isOf_0 rfl 1 rfl ?_
  refine g_if_eq (pc := 1) (tgt := 31) X dX12_isOf_1 (by decide) (fun hc => ?_) (fun hc => ?_)
  · have hf := itp hc hf
    refine g_lv [] [] rfl ?_
    exact hL31 hf
  · have hf := itn hc hf
    refine g_iload_n (pc := 4) X dX12_isOf_4 rfl 0 rfl ?_
    refine g_iload_n (pc := 5) X dX12_isOf_5 rfl 1 rfl ?_
    refine g_icmp_eq (pc := 6) (tgt := 31) X dX12_isOf_6 (by decide) (fun hc => ?_) (fun hc => ?_)
    · have hf := itp hc hf
      refine g_lv [] [] rfl ?_
      exact hL31 hf
    · have hf := itn hc hf
      refine g_iload_n (pc := 9) X dX12_isOf_9 rfl 1 rfl ?_
      refine g_iconst (v := (4 : Int32)) (pc := 10) X dX12_isOf_10 (by decide) ?_
      refine g_icmp_ne (pc := 11) (tgt := 19) X dX12_isOf_11 (by decide) (fun hc => ?_) (fun hc => ?_)
      · have hf := itn hc hf
        exact hL19 _ _ hf
      · have hf := itp hc hf
        refine g_iload_n (pc := 14) X dX12_isOf_14 rfl 0 rfl ?_
        refine g_iconst (v := (5 : Int32)) (pc := 15) X dX12_isOf_15 (by decide) ?_
        refine g_icmp_eq (pc := 16) (tgt := 31) X dX12_isOf_16 (by decide) (fun hc => ?_) (fun hc => ?_)
        · have hf := itp hc hf
          refine g_lv [] [] rfl ?_
          exact hL31 hf
        · have hf := itn hc hf
          exact hL19 _ _ hf

noncomputable def fX12_kind (v0 : Nat) (v1 : Int32) (m : Mem) : Option (Int64 × Mem) := gp (KM v0 = 12) (lt1 (uI m v0 0 (0 : Int32)) (fun m2 => bnd (fX12_isSign v0 v1 m2) (fun r5 => if r5 = 0 then (some ((-9000000000000000001 : Int64), m2)) else (bnd (fX12_signOf v0 v1 (0 : Int32) m2) (fun r7 => some (r7.toInt64, m2))))))
set_option maxHeartbeats 4000000 in
set_option maxRecDepth 100000 in
theorem cX12_kind_ct (z : Zx) (ad : Nat → Nat) (v0 : Nat) (v1 : Int32) (m m2 : Mem) (r : Int64) (hf : fX12_kind v0 v1 m = some (r, m2)) : CtL z wM yX12_kind cX12_kind 2 (some .long) (Rm 4) ad 17 [.ref (ad v0), .int v1] m m2 r := by
  refine ct_ofL mi_X12_kind rfl (Nat.le_of_ble_eq_true rfl) (fun x X hret => ?_)
  refine g_lv [(0, .ref (ad v0)), (1, .int v1)] [0, 1] rfl ?_
  unfold fX12_kind at hf
  refine g_aload_n (pc := 0) X dX12_kind_0 rfl 0 rfl ?_
  refine g_iconst (v := (0 : Int32)) (pc := 1) X dX12_kind_1 (by decide) ?_
  obtain ⟨hk1, hf⟩ := gp_some hf
  refine g_putI (pc := 2) X fl_X12_60 (KMlt hk1 (by decide)) hk1 rfl rfl dX12_kind_2 ?_
  obtain ⟨m2, e3, hf⟩ := lt1_some hf
  refine g_mem e3 ?_
  refine g_aload_n (pc := 5) X dX12_kind_5 rfl 0 rfl ?_
  refine g_iload_n (pc := 6) X dX12_kind_6 rfl 1 rfl ?_
  obtain ⟨r5, hq4, hf⟩ := bnd_some hf
  refine g_callVI (pc := 7) (As := [.int v1]) (rest := []) X mi_X12_isSign im_X12_isSign se_X12_isSign (KMlt hk1 (by decide)) hk1 clX12 ml_X12_360 (cX12_isSign_ct z ad v0 v1 m2 r5 hq4) rfl rfl (Nat.le_of_ble_eq_true rfl) ⟨rfl, rfl, by decide, by decide, Nat.le_refl _, Nat.le_refl _⟩ dX12_kind_7 ?_
  refine g_if_eq (pc := 10) (tgt := 23) X dX12_kind_10 (by decide) (fun hc => ?_) (fun hc => ?_)
  · have hf := itp hc hf
    refine g_ldc2 (pc := 23) X dX12_kind_23 kl_X12_81 ?_
    obtain ⟨rfl, rfl⟩ := som2 hf
    exact hret _ _ dX12_kind_26
  · have hf := itn hc hf
    refine g_aload_n (pc := 13) X dX12_kind_13 rfl 0 rfl ?_
    refine g_iload_n (pc := 14) X dX12_kind_14 rfl 1 rfl ?_
    refine g_iconst (v := (0 : Int32)) (pc := 15) X dX12_kind_15 (by decide) ?_
    obtain ⟨r7, hq6, hf⟩ := bnd_some hf
    refine g_callVI (pc := 16) (As := [.int v1, .int (0 : Int32)]) (rest := []) X mi_X12_signOf im_X12_signOf se_X12_signOf (KMlt hk1 (by decide)) hk1 clX12 ml_X12_363 (cX12_signOf_ct z ad v0 v1 (0 : Int32) m2 r7 hq6) rfl rfl (Nat.le_of_ble_eq_true rfl) ⟨rfl, rfl, by decide, by decide, Nat.le_refl _, Nat.le_refl _⟩ dX12_kind_16 ?_
    refine g_i2l (pc := 19) X dX12_kind_19 ?_
    refine g_goto (pc := 20) (tgt := 26) X dX12_kind_20 (by decide) ?_
    obtain ⟨rfl, rfl⟩ := som2 hf
    exact hret _ _ dX12_kind_26

noncomputable def fX12_as (v0 : Nat) (v1 : Int32) (v2 : Int32) (m : Mem) : Option (Int64 × Mem) := gp (KM v0 = 12) (lt1 (uI m v0 0 (0 : Int32)) (fun m2 => bnd (fX12_isSign v0 v1 m2) (fun r5 => if r5 = 0 then (some ((-9000000000000000001 : Int64), m2)) else (bnd (fX12_in v2.toInt64 (0 : Int64) (7 : Int64)) (fun r7 => if r7 = 0 then (some ((-9000000000000000001 : Int64), m2)) else (lt1 (uI m2 v0 1 (0 : Int32)) (fun m8 => bnd (fX12_signOf v0 v1 (0 : Int32) m8) (fun r11 => bnd (fX12_isOf r11 v2) (fun r13 => if r13 = 0 then (bnd2 (fX12_finding v0 (3 : Int32) m8) (fun r15 m16 => some (r15, m16))) else (some (v1.toInt64, m8)))))))))))
set_option maxHeartbeats 4000000 in
set_option maxRecDepth 100000 in
theorem cX12_as_ct (z : Zx) (ad : Nat → Nat) (v0 : Nat) (v1 : Int32) (v2 : Int32) (m m2 : Mem) (r : Int64) (hf : fX12_as v0 v1 v2 m = some (r, m2)) : CtL z wM yX12_as cX12_as 3 (some .long) (Rm 4) ad 17 [.ref (ad v0), .int v1, .int v2] m m2 r := by
  refine ct_ofL mi_X12_as rfl (Nat.le_of_ble_eq_true rfl) (fun x X hret => ?_)
  refine g_lv [(0, .ref (ad v0)), (1, .int v1), (2, .int v2)] [0, 1, 2] rfl ?_
  unfold fX12_as at hf
  refine g_aload_n (pc := 0) X dX12_as_0 rfl 0 rfl ?_
  refine g_iconst (v := (0 : Int32)) (pc := 1) X dX12_as_1 (by decide) ?_
  obtain ⟨hk1, hf⟩ := gp_some hf
  refine g_putI (pc := 2) X fl_X12_60 (KMlt hk1 (by decide)) hk1 rfl rfl dX12_as_2 ?_
  obtain ⟨m2, e3, hf⟩ := lt1_some hf
  refine g_mem e3 ?_
  refine g_aload_n (pc := 5) X dX12_as_5 rfl 0 rfl ?_
  refine g_iload_n (pc := 6) X dX12_as_6 rfl 1 rfl ?_
  obtain ⟨r5, hq4, hf⟩ := bnd_some hf
  refine g_callVI (pc := 7) (As := [.int v1]) (rest := []) X mi_X12_isSign im_X12_isSign se_X12_isSign (KMlt hk1 (by decide)) hk1 clX12 ml_X12_360 (cX12_isSign_ct z ad v0 v1 m2 r5 hq4) rfl rfl (Nat.le_of_ble_eq_true rfl) ⟨rfl, rfl, by decide, by decide, Nat.le_refl _, Nat.le_refl _⟩ dX12_as_7 ?_
  refine g_if_eq (pc := 10) (tgt := 25) X dX12_as_10 (by decide) (fun hc => ?_) (fun hc => ?_)
  · have hf := itp hc hf
    refine g_ldc2 (pc := 25) X dX12_as_25 kl_X12_81 ?_
    obtain ⟨rfl, rfl⟩ := som2 hf
    exact hret _ _ dX12_as_28
  · have hf := itn hc hf
    refine g_iload_n (pc := 13) X dX12_as_13 rfl 2 rfl ?_
    refine g_i2l (pc := 14) X dX12_as_14 ?_
    refine g_lconst (v := (0 : Int64)) (pc := 15) X dX12_as_15 (by decide) ?_
    refine g_ldc2 (pc := 16) X dX12_as_16 kl_X12_69 ?_
    obtain ⟨r7, hq6, hf⟩ := bnd_some hf
    refine g_callSI (pc := 19) (As := [.long v2.toInt64, .long (0 : Int64), .long (7 : Int64)]) (rest := []) X mi_X12_in sm_X12_in ml_X12_71 (cX12_in_ct z ad v2.toInt64 (0 : Int64) (7 : Int64) m2 r7 hq6) rfl rfl (Nat.le_of_ble_eq_true rfl) ⟨rfl, rfl, by decide, by decide, Nat.le_refl _, Nat.le_refl _⟩ dX12_as_19 ?_
    refine g_if_ne (pc := 22) (tgt := 29) X dX12_as_22 (by decide) (fun hc => ?_) (fun hc => ?_)
    · have hf := itn hc hf
      refine g_aload_n (pc := 29) X dX12_as_29 rfl 0 rfl ?_
      refine g_iconst (v := (0 : Int32)) (pc := 30) X dX12_as_30 (by decide) ?_
      refine g_putI (pc := 31) X fl_X12_64 (KMlt hk1 (by decide)) hk1 rfl rfl dX12_as_31 ?_
      obtain ⟨m8, e9, hf⟩ := lt1_some hf
      refine g_mem e9 ?_
      refine g_aload_n (pc := 34) X dX12_as_34 rfl 0 rfl ?_
      refine g_iload_n (pc := 35) X dX12_as_35 rfl 1 rfl ?_
      refine g_iconst (v := (0 : Int32)) (pc := 36) X dX12_as_36 (by decide) ?_
      obtain ⟨r11, hq10, hf⟩ := bnd_some hf
      refine g_callVI (pc := 37) (As := [.int v1, .int (0 : Int32)]) (rest := []) X mi_X12_signOf im_X12_signOf se_X12_signOf (KMlt hk1 (by decide)) hk1 clX12 ml_X12_363 (cX12_signOf_ct z ad v0 v1 (0 : Int32) m8 r11 hq10) rfl rfl (Nat.le_of_ble_eq_true rfl) ⟨rfl, rfl, by decide, by decide, Nat.le_refl _, Nat.le_refl _⟩ dX12_as_37 ?_
      refine g_iload_n (pc := 40) X dX12_as_40 rfl 2 rfl ?_
      obtain ⟨r13, hq12, hf⟩ := bnd_some hf
      refine g_callSI (pc := 41) (As := [.int r11, .int v2]) (rest := []) X mi_X12_isOf sm_X12_isOf ml_X12_390 (cX12_isOf_ct z ad r11 v2 m8 r13 hq12) rfl rfl (Nat.le_of_ble_eq_true rfl) ⟨rfl, rfl, by decide, by decide, Nat.le_refl _, Nat.le_refl _⟩ dX12_as_41 ?_
      refine g_if_eq (pc := 44) (tgt := 52) X dX12_as_44 (by decide) (fun hc => ?_) (fun hc => ?_)
      · have hf := itp hc hf
        refine g_aload_n (pc := 52) X dX12_as_52 rfl 0 rfl ?_
        refine g_iconst (v := (3 : Int32)) (pc := 53) X dX12_as_53 (by decide) ?_
        obtain ⟨r15, m16, hq14, hf⟩ := bnd2_some hf
        refine g_callVL (pc := 54) (As := [.int (3 : Int32)]) (rest := []) X mi_X12_finding im_X12_finding se_X12_finding (KMlt hk1 (by decide)) hk1 clX12 ml_X12_83 (cX12_finding_ct z ad v0 (3 : Int32) m8 m16 r15 hq14) rfl rfl (Nat.le_of_ble_eq_true rfl) ⟨rfl, rfl, by decide, by decide, Nat.le_refl _, Nat.le_refl _⟩ dX12_as_54 ?_
        obtain ⟨rfl, rfl⟩ := som2 hf
        exact hret _ _ dX12_as_57
      · have hf := itn hc hf
        refine g_iload_n (pc := 47) X dX12_as_47 rfl 1 rfl ?_
        refine g_i2l (pc := 48) X dX12_as_48 ?_
        refine g_goto (pc := 49) (tgt := 57) X dX12_as_49 (by decide) ?_
        obtain ⟨rfl, rfl⟩ := som2 hf
        exact hret _ _ dX12_as_57
    · have hf := itp hc hf
      refine g_ldc2 (pc := 25) X dX12_as_25 kl_X12_81 ?_
      obtain ⟨rfl, rfl⟩ := som2 hf
      exact hret _ _ dX12_as_28

noncomputable def fX12_began (v0 : Nat) (v1 : Int32) (m : Mem) : Option Mem := gp (KM v0 = 12) (if (16 : Int32) ≤ (m.1 v0 30) then (some m) else (bnd (m.2.2 v0 29) (fun q2 => gp (KM q2 = 14) (gp (inb (m.1 v0 30) (NM q2) = true) (lt1 (uI m q2 (m.1 v0 30).toNatClampNeg v1) (fun m6 => lt1 (uI m6 v0 30 ((m6.1 v0 30) + (1 : Int32))) (fun m8 => some m8)))))))
set_option maxHeartbeats 4000000 in
set_option maxRecDepth 100000 in
theorem cX12_began_ct (z : Zx) (ad : Nat → Nat) (v0 : Nat) (v1 : Int32) (m m2 : Mem) (hf : fX12_began v0 v1 m = some m2) : CtV z wM yX12_began cX12_began 2 none (Rm 2) ad 17 [.ref (ad v0), .int v1] m m2 := by
  refine ct_ofV mi_X12_began rfl (Nat.le_of_ble_eq_true rfl) (fun x X hret => ?_)
  refine g_lv [(0, .ref (ad v0)), (1, .int v1)] [0, 1] rfl ?_
  unfold fX12_began at hf
  refine g_aload_n (pc := 0) X dX12_began_0 rfl 0 rfl ?_
  obtain ⟨hk1, hf⟩ := gp_some hf
  refine g_getI (pc := 1) X fl_X12_393 (KMlt hk1 (by decide)) hk1 dX12_began_1 ?_
  refine g_bipush (v := (16 : Int32)) (pc := 4) X dX12_began_4 (by decide) ?_
  refine g_icmp_ge (pc := 6) (tgt := 29) X dX12_began_6 (by decide) (fun hc => ?_) (fun hc => ?_)
  · have hf := itp hc hf
    obtain rfl := Option.some.inj hf
    exact hret _ _ dX12_began_29
  · have hf := itn hc hf
    refine g_aload_n (pc := 9) X dX12_began_9 rfl 0 rfl ?_
    obtain ⟨q2, hr3, hf⟩ := bnd_some hf
    refine g_getR (pc := 10) X fl_X12_57 (KMlt hk1 (by decide)) hk1 hr3 dX12_began_10 ?_
    refine g_aload_n (pc := 13) X dX12_began_13 rfl 0 rfl ?_
    refine g_getI (pc := 14) X fl_X12_393 (KMlt hk1 (by decide)) hk1 dX12_began_14 ?_
    refine g_iload_n (pc := 17) X dX12_began_17 rfl 1 rfl ?_
    obtain ⟨hk4, hf⟩ := gp_some hf
    obtain ⟨hi5, hf⟩ := gp_some hf
    refine g_iast (pc := 18) X (KMlt hk4 (by decide)) hk4 hi5 dX12_began_18 ?_
    obtain ⟨m6, e7, hf⟩ := lt1_some hf
    refine g_mem e7 ?_
    refine g_aload_n (pc := 19) X dX12_began_19 rfl 0 rfl ?_
    refine g_dup (pc := 20) X dX12_began_20 rfl ?_
    refine g_getI (pc := 21) X fl_X12_393 (KMlt hk1 (by decide)) hk1 dX12_began_21 ?_
    refine g_iconst (v := (1 : Int32)) (pc := 24) X dX12_began_24 (by decide) ?_
    refine g_iadd (pc := 25) X dX12_began_25 ?_
    refine g_putI (pc := 26) X fl_X12_393 (KMlt hk1 (by decide)) hk1 rfl rfl dX12_began_26 ?_
    obtain ⟨m8, e9, hf⟩ := lt1_some hf
    refine g_mem e9 ?_
    obtain rfl := Option.some.inj hf
    exact hret _ _ dX12_began_29

noncomputable def fX12_plainSize (v0 : Nat) (v1 : Int32) (m : Mem) : Option (Int32 × Mem) := gp (KM v0 = 12) (bnd (fX12_began v0 (10 : Int32) m) (fun m2 => bnd (fX12_signOf v0 v1 (1 : Int32) m2) (fun r5 => some (r5, m2))))
set_option maxHeartbeats 4000000 in
set_option maxRecDepth 100000 in
theorem cX12_plainSize_ct (z : Zx) (ad : Nat → Nat) (v0 : Nat) (v1 : Int32) (m m2 : Mem) (r : Int32) (hf : fX12_plainSize v0 v1 m = some (r, m2)) : CtI z wM yX12_plainSize cX12_plainSize 2 (some .int) (Rm 3) ad 17 [.ref (ad v0), .int v1] m m2 r := by
  refine ct_ofI mi_X12_plainSize rfl (Nat.le_of_ble_eq_true rfl) (fun x X hret => ?_)
  refine g_lv [(0, .ref (ad v0)), (1, .int v1)] [0, 1] rfl ?_
  unfold fX12_plainSize at hf
  refine g_aload_n (pc := 0) X dX12_plainSize_0 rfl 0 rfl ?_
  refine g_bipush (v := (10 : Int32)) (pc := 1) X dX12_plainSize_1 (by decide) ?_
  obtain ⟨hk3, hf⟩ := gp_some hf
  obtain ⟨m2, hq1, hf⟩ := bnd_some hf
  refine g_callVV (pc := 3) (As := [.int (10 : Int32)]) (rest := []) X mi_X12_began im_X12_began se_X12_began (KMlt hk3 (by decide)) hk3 clX12 ml_X12_396 (cX12_began_ct z ad v0 (10 : Int32) m m2 hq1) rfl rfl (Nat.le_of_ble_eq_true rfl) ⟨rfl, rfl, by decide, by decide, Nat.le_refl _, Nat.le_refl _⟩ dX12_plainSize_3 ?_
  refine g_aload_n (pc := 6) X dX12_plainSize_6 rfl 0 rfl ?_
  refine g_iload_n (pc := 7) X dX12_plainSize_7 rfl 1 rfl ?_
  refine g_iconst (v := (1 : Int32)) (pc := 8) X dX12_plainSize_8 (by decide) ?_
  obtain ⟨r5, hq4, hf⟩ := bnd_some hf
  refine g_callVI (pc := 9) (As := [.int v1, .int (1 : Int32)]) (rest := []) X mi_X12_signOf im_X12_signOf se_X12_signOf (KMlt hk3 (by decide)) hk3 clX12 ml_X12_363 (cX12_signOf_ct z ad v0 v1 (1 : Int32) m2 r5 hq4) rfl rfl (Nat.le_of_ble_eq_true rfl) ⟨rfl, rfl, by decide, by decide, Nat.le_refl _, Nat.le_refl _⟩ dX12_plainSize_9 ?_
  obtain ⟨rfl, rfl⟩ := som2 hf
  exact hret _ _ rfl dX12_plainSize_12

noncomputable def fX12_ownSize_58 (v2 : Int32) (s0 : Int32) (s1 : Int32) (m : Mem) : Option (Int32 × Mem) := lt1 (s0 + s1) (fun v4_1 => if v2 = (5 : Int32) then (some ((10 : Int32) * v4_1, m)) else (if v2 = (7 : Int32) then (some (-v4_1, m)) else (some (v4_1, m))))
noncomputable def fX12_ownSize_44 (v0 : Nat) (v1 : Int32) (v2 : Int32) (v3 : Int32) (m : Mem) : Option (Int32 × Mem) := gp (KM v0 = 12) (bnd2 (fX12_plainSize v0 v1 m) (fun r4 m5 => if v3 = 0 then (fX12_ownSize_58 v2 r4 (0 : Int32) m5) else (fX12_ownSize_58 v2 r4 (1 : Int32) m5)))
noncomputable def fX12_ownSize_27 (v0 : Nat) (v1 : Int32) (v2 : Int32) (m : Mem) : Option (Int32 × Mem) := bnd (fX12_isOf v2 (6 : Int32)) (fun r8 => if r8 = 0 then (fX12_ownSize_44 v0 v1 v2 r8 m) else (gp (KM v0 = 12) (bnd (fX12_began v0 (13 : Int32) m) (fun m10 => fX12_ownSize_44 v0 v1 v2 r8 m10))))
noncomputable def fX12_ownSize_24 (v0 : Nat) (v1 : Int32) (v2 : Int32) (s0 : Nat) (s1 : Int32) (m : Mem) : Option (Int32 × Mem) := gp (KM s0 = 12) (bnd (fX12_began s0 s1 m) (fun m13 => fX12_ownSize_27 v0 v1 v2 m13))
noncomputable def fX12_ownSize_11 (v0 : Nat) (v1 : Int32) (v2 : Int32) (m : Mem) : Option (Int32 × Mem) := if v2 = (5 : Int32) then (fX12_ownSize_24 v0 v1 v2 v0 (12 : Int32) m) else (fX12_ownSize_24 v0 v1 v2 v0 (14 : Int32) m)
noncomputable def fX12_ownSize (v0 : Nat) (v1 : Int32) (v2 : Int32) (m : Mem) : Option (Int32 × Mem) := if v2 = (5 : Int32) then (fX12_ownSize_11 v0 v1 v2 m) else (if v2 = (7 : Int32) then (fX12_ownSize_11 v0 v1 v2 m) else (fX12_ownSize_27 v0 v1 v2 m))
set_option maxHeartbeats 4000000 in
set_option maxRecDepth 100000 in
theorem cX12_ownSize_ct (z : Zx) (ad : Nat → Nat) (v0 : Nat) (v1 : Int32) (v2 : Int32) (m m2 : Mem) (r : Int32) (hf : fX12_ownSize v0 v1 v2 m = some (r, m2)) : CtI z wM yX12_ownSize cX12_ownSize 5 (some .int) (Rm 4) ad 17 [.ref (ad v0), .int v1, .int v2] m m2 r := by
  refine ct_ofI mi_X12_ownSize rfl (Nat.le_of_ble_eq_true rfl) (fun x X hret => ?_)
  refine g_lv [(0, .ref (ad v0)), (1, .int v1), (2, .int v2)] [0, 1, 2] rfl ?_
  have hL58 : ∀ (v2 : Int32) (s0 : Int32) (s1 : Int32) (m : Mem), fX12_ownSize_58 v2 s0 s1 m = some (r, m2) → G z wM x 5 0 0 ad 17 m 58 [(2, .int v2)] [.int s1, .int s0] := by
    intro v2 s0 s1 m hf
    unfold fX12_ownSize_58 at hf
    refine g_iadd (pc := 58) X dX12_ownSize_58 ?_
    obtain ⟨v4_1, e2, hf⟩ := lt1_some hf
    refine g_topi e2 ?_
    refine g_istore (lv2 := [(2, .int v2), (4, .int v4_1)]) (pc := 59) X dX12_ownSize_59 (by decide) [1, 0] rfl ?_
    refine g_iload_n (pc := 61) X dX12_ownSize_61 rfl 0 rfl ?_
    refine g_iconst (v := (5 : Int32)) (pc := 62) X dX12_ownSize_62 (by decide) ?_
    refine g_icmp_ne (pc := 63) (tgt := 74) X dX12_ownSize_63 (by decide) (fun hc => ?_) (fun hc => ?_)
    · have hf := itn hc hf
      refine g_iload_n (pc := 74) X dX12_ownSize_74 rfl 0 rfl ?_
      refine g_bipush (v := (7 : Int32)) (pc := 75) X dX12_ownSize_75 (by decide) ?_
      refine g_icmp_ne (pc := 77) (tgt := 86) X dX12_ownSize_77 (by decide) (fun hc => ?_) (fun hc => ?_)
      · have hf := itn hc hf
        refine g_iload (pc := 86) X dX12_ownSize_86 1 rfl ?_
        obtain ⟨rfl, rfl⟩ := som2 hf
        exact hret _ _ rfl dX12_ownSize_88
      · have hf := itp hc hf
        refine g_iload (pc := 80) X dX12_ownSize_80 1 rfl ?_
        refine g_ineg (pc := 82) X dX12_ownSize_82 ?_
        refine g_goto (pc := 83) (tgt := 88) X dX12_ownSize_83 (by decide) ?_
        obtain ⟨rfl, rfl⟩ := som2 hf
        exact hret _ _ rfl dX12_ownSize_88
    · have hf := itp hc hf
      refine g_bipush (v := (10 : Int32)) (pc := 66) X dX12_ownSize_66 (by decide) ?_
      refine g_iload (pc := 68) X dX12_ownSize_68 1 rfl ?_
      refine g_imul (pc := 70) X dX12_ownSize_70 ?_
      refine g_goto (pc := 71) (tgt := 88) X dX12_ownSize_71 (by decide) ?_
      obtain ⟨rfl, rfl⟩ := som2 hf
      exact hret _ _ rfl dX12_ownSize_88
  have hL44 : ∀ (v0 : Nat) (v1 : Int32) (v2 : Int32) (v3 : Int32) (m : Mem), fX12_ownSize_44 v0 v1 v2 v3 m = some (r, m2) → G z wM x 5 0 0 ad 17 m 44 [(0, .ref (ad v0)), (1, .int v1), (2, .int v2), (3, .int v3)] [] := by
    intro v0 v1 v2 v3 m hf
    unfold fX12_ownSize_44 at hf
    refine g_aload_n (pc := 44) X dX12_ownSize_44 rfl 0 rfl ?_
    refine g_iload_n (pc := 45) X dX12_ownSize_45 rfl 1 rfl ?_
    obtain ⟨hk6, hf⟩ := gp_some hf
    obtain ⟨r4, m5, hq3, hf⟩ := bnd2_some hf
    refine g_callVI (pc := 46) (As := [.int v1]) (rest := []) X mi_X12_plainSize im_X12_plainSize se_X12_plainSize (KMlt hk6 (by decide)) hk6 clX12 ml_X12_402 (cX12_plainSize_ct z ad v0 v1 m m5 r4 hq3) rfl rfl (Nat.le_of_ble_eq_true rfl) ⟨rfl, rfl, by decide, by decide, Nat.le_refl _, Nat.le_refl _⟩ dX12_ownSize_46 ?_
    refine g_iload_n (pc := 49) X dX12_ownSize_49 rfl 3 rfl ?_
    refine g_if_eq (pc := 50) (tgt := 57) X dX12_ownSize_50 (by decide) (fun hc => ?_) (fun hc => ?_)
    · have hf := itp hc hf
      refine g_iconst (v := (0 : Int32)) (pc := 57) X dX12_ownSize_57 (by decide) ?_
      refine g_lv [(2, .int v2)] [2] rfl ?_
      exact hL58 _ _ _ _ hf
    · have hf := itn hc hf
      refine g_iconst (v := (1 : Int32)) (pc := 53) X dX12_ownSize_53 (by decide) ?_
      refine g_goto (pc := 54) (tgt := 58) X dX12_ownSize_54 (by decide) ?_
      refine g_lv [(2, .int v2)] [2] rfl ?_
      exact hL58 _ _ _ _ hf
  have hL27 : ∀ (v0 : Nat) (v1 : Int32) (v2 : Int32) (m : Mem), fX12_ownSize_27 v0 v1 v2 m = some (r, m2) → G z wM x 5 0 0 ad 17 m 27 [(0, .ref (ad v0)), (1, .int v1), (2, .int v2)] [] := by
    intro v0 v1 v2 m hf
    unfold fX12_ownSize_27 at hf
    refine g_iload_n (pc := 27) X dX12_ownSize_27 rfl 2 rfl ?_
    refine g_bipush (v := (6 : Int32)) (pc := 28) X dX12_ownSize_28 (by decide) ?_
    obtain ⟨r8, hq7, hf⟩ := bnd_some hf
    refine g_callSI (pc := 30) (As := [.int v2, .int (6 : Int32)]) (rest := []) X mi_X12_isOf sm_X12_isOf ml_X12_390 (cX12_isOf_ct z ad v2 (6 : Int32) m r8 hq7) rfl rfl (Nat.le_of_ble_eq_true rfl) ⟨rfl, rfl, by decide, by decide, Nat.le_refl _, Nat.le_refl _⟩ dX12_ownSize_30 ?_
    refine g_istore_n (lv2 := [(0, .ref (ad v0)), (1, .int v1), (2, .int v2), (3, .int r8)]) (pc := 33) X dX12_ownSize_33 rfl (by decide) [1, 2, 3, 0] rfl ?_
    refine g_iload_n (pc := 34) X dX12_ownSize_34 rfl 3 rfl ?_
    refine g_if_eq (pc := 35) (tgt := 44) X dX12_ownSize_35 (by decide) (fun hc => ?_) (fun hc => ?_)
    · have hf := itp hc hf
      exact hL44 _ _ _ _ _ hf
    · have hf := itn hc hf
      refine g_aload_n (pc := 38) X dX12_ownSize_38 rfl 0 rfl ?_
      refine g_bipush (v := (13 : Int32)) (pc := 39) X dX12_ownSize_39 (by decide) ?_
      obtain ⟨hk11, hf⟩ := gp_some hf
      obtain ⟨m10, hq9, hf⟩ := bnd_some hf
      refine g_callVV (pc := 41) (As := [.int (13 : Int32)]) (rest := []) X mi_X12_began im_X12_began se_X12_began (KMlt hk11 (by decide)) hk11 clX12 ml_X12_396 (cX12_began_ct z ad v0 (13 : Int32) m m10 hq9) rfl rfl (Nat.le_of_ble_eq_true rfl) ⟨rfl, rfl, by decide, by decide, Nat.le_refl _, Nat.le_refl _⟩ dX12_ownSize_41 ?_
      exact hL44 _ _ _ _ _ hf
  have hL24 : ∀ (v0 : Nat) (v1 : Int32) (v2 : Int32) (s0 : Nat) (s1 : Int32) (m : Mem), fX12_ownSize_24 v0 v1 v2 s0 s1 m = some (r, m2) → G z wM x 5 0 0 ad 17 m 24 [(0, .ref (ad v0)), (1, .int v1), (2, .int v2)] [.int s1, .ref (ad s0)] := by
    intro v0 v1 v2 s0 s1 m hf
    unfold fX12_ownSize_24 at hf
    obtain ⟨hk14, hf⟩ := gp_some hf
    obtain ⟨m13, hq12, hf⟩ := bnd_some hf
    refine g_callVV (pc := 24) (As := [.int s1]) (rest := []) X mi_X12_began im_X12_began se_X12_began (KMlt hk14 (by decide)) hk14 clX12 ml_X12_396 (cX12_began_ct z ad s0 s1 m m13 hq12) rfl rfl (Nat.le_of_ble_eq_true rfl) ⟨rfl, rfl, by decide, by decide, Nat.le_refl _, Nat.le_refl _⟩ dX12_ownSize_24 ?_
    exact hL27 _ _ _ _ hf
  have hL11 : ∀ (v0 : Nat) (v1 : Int32) (v2 : Int32) (m : Mem), fX12_ownSize_11 v0 v1 v2 m = some (r, m2) → G z wM x 5 0 0 ad 17 m 11 [(0, .ref (ad v0)), (1, .int v1), (2, .int v2)] [] := by
    intro v0 v1 v2 m hf
    unfold fX12_ownSize_11 at hf
    refine g_aload_n (pc := 11) X dX12_ownSize_11 rfl 0 rfl ?_
    refine g_iload_n (pc := 12) X dX12_ownSize_12 rfl 2 rfl ?_
    refine g_iconst (v := (5 : Int32)) (pc := 13) X dX12_ownSize_13 (by decide) ?_
    refine g_icmp_ne (pc := 14) (tgt := 22) X dX12_ownSize_14 (by decide) (fun hc => ?_) (fun hc => ?_)
    · have hf := itn hc hf
      refine g_bipush (v := (14 : Int32)) (pc := 22) X dX12_ownSize_22 (by decide) ?_
      exact hL24 _ _ _ _ _ _ hf
    · have hf := itp hc hf
      refine g_bipush (v := (12 : Int32)) (pc := 17) X dX12_ownSize_17 (by decide) ?_
      refine g_goto (pc := 19) (tgt := 24) X dX12_ownSize_19 (by decide) ?_
      exact hL24 _ _ _ _ _ _ hf
  unfold fX12_ownSize at hf
  refine g_iload_n (pc := 0) X dX12_ownSize_0 rfl 2 rfl ?_
  refine g_iconst (v := (5 : Int32)) (pc := 1) X dX12_ownSize_1 (by decide) ?_
  refine g_icmp_eq (pc := 2) (tgt := 11) X dX12_ownSize_2 (by decide) (fun hc => ?_) (fun hc => ?_)
  · have hf := itp hc hf
    exact hL11 _ _ _ _ hf
  · have hf := itn hc hf
    refine g_iload_n (pc := 5) X dX12_ownSize_5 rfl 2 rfl ?_
    refine g_bipush (v := (7 : Int32)) (pc := 6) X dX12_ownSize_6 (by decide) ?_
    refine g_icmp_ne (pc := 8) (tgt := 27) X dX12_ownSize_8 (by decide) (fun hc => ?_) (fun hc => ?_)
    · have hf := itn hc hf
      exact hL27 _ _ _ _ hf
    · have hf := itp hc hf
      exact hL11 _ _ _ _ hf

noncomputable def fX12_ownMark_92 (v0 : Nat) (v1 : Int32) (v2 : Int32) (s0 : Int32) (s1 : Int32) (m : Mem) : Option (Int32 × Mem) := lt1 (s0 + s1) (fun v4_1 => if v2 = (7 : Int32) then (gp (KM v0 = 12) (bnd (fX12_storiesBy v0 v1 (1 : Int32) m) (fun r8 => bnd (fX12_bits r8) (fun r11 => some (v4_1 + r11, m))))) else (if v2 = (3 : Int32) then (gp (KM v0 = 12) (bnd2 (fX12_plainSize v0 v1 m) (fun r4 m5 => some (v4_1 - r4, m5)))) else (some (v4_1, m))))
noncomputable def fX12_ownMark_80 (v0 : Nat) (v1 : Int32) (v2 : Int32) (s0 : Int32) (s1 : Int32) (m : Mem) : Option (Int32 × Mem) := if v2 = (5 : Int32) then (fX12_ownMark_92 v0 v1 v2 (s0 + s1) (100 : Int32) m) else (fX12_ownMark_92 v0 v1 v2 (s0 + s1) (0 : Int32) m)
noncomputable def fX12_ownMark_59 (v0 : Nat) (v1 : Int32) (v2 : Int32) (v3 : Int32) (m : Mem) : Option (Int32 × Mem) := gp (KM v0 = 12) (bnd (fX12_began v0 (20 : Int32) m) (fun m13 => if v3 = 0 then (fX12_ownMark_80 v0 v1 v2 v1 (0 : Int32) m13) else (bnd2 (fX12_ownSize v0 v1 v2 m13) (fun r16 m17 => fX12_ownMark_80 v0 v1 v2 v1 r16 m17))))
noncomputable def fX12_ownMark_43 (v0 : Nat) (v1 : Int32) (v2 : Int32) (m : Mem) : Option (Int32 × Mem) := bnd (fX12_isOf v2 (4 : Int32)) (fun r19 => if r19 = 0 then (fX12_ownMark_59 v0 v1 v2 r19 m) else (gp (KM v0 = 12) (bnd (fX12_began v0 (21 : Int32) m) (fun m21 => fX12_ownMark_59 v0 v1 v2 r19 m21))))
noncomputable def fX12_ownMark_40 (v0 : Nat) (v1 : Int32) (v2 : Int32) (s0 : Nat) (s1 : Int32) (m : Mem) : Option (Int32 × Mem) := gp (KM s0 = 12) (bnd (fX12_began s0 s1 m) (fun m24 => fX12_ownMark_43 v0 v1 v2 m24))
noncomputable def fX12_ownMark_16 (v0 : Nat) (v1 : Int32) (v2 : Int32) (m : Mem) : Option (Int32 × Mem) := if v2 = (5 : Int32) then (fX12_ownMark_40 v0 v1 v2 v0 (22 : Int32) m) else (if v2 = (7 : Int32) then (fX12_ownMark_40 v0 v1 v2 v0 (23 : Int32) m) else (fX12_ownMark_40 v0 v1 v2 v0 (24 : Int32) m))
noncomputable def fX12_ownMark (v0 : Nat) (v1 : Int32) (v2 : Int32) (m : Mem) : Option (Int32 × Mem) := if v2 = (5 : Int32) then (fX12_ownMark_16 v0 v1 v2 m) else (if v2 = (7 : Int32) then (fX12_ownMark_16 v0 v1 v2 m) else (if v2 = (3 : Int32) then (fX12_ownMark_16 v0 v1 v2 m) else (fX12_ownMark_43 v0 v1 v2 m)))
set_option maxHeartbeats 4000000 in
set_option maxRecDepth 100000 in
theorem cX12_ownMark_ct (z : Zx) (ad : Nat → Nat) (v0 : Nat) (v1 : Int32) (v2 : Int32) (m m2 : Mem) (r : Int32) (hf : fX12_ownMark v0 v1 v2 m = some (r, m2)) : CtI z wM yX12_ownMark cX12_ownMark 5 (some .int) (Rm 5) ad 17 [.ref (ad v0), .int v1, .int v2] m m2 r := by
  refine ct_ofI mi_X12_ownMark rfl (Nat.le_of_ble_eq_true rfl) (fun x X hret => ?_)
  refine g_lv [(0, .ref (ad v0)), (1, .int v1), (2, .int v2)] [0, 1, 2] rfl ?_
  have hL92 : ∀ (v0 : Nat) (v1 : Int32) (v2 : Int32) (s0 : Int32) (s1 : Int32) (m : Mem), fX12_ownMark_92 v0 v1 v2 s0 s1 m = some (r, m2) → G z wM x 5 0 0 ad 17 m 92 [(0, .ref (ad v0)), (1, .int v1), (2, .int v2)] [.int s1, .int s0] := by
    intro v0 v1 v2 s0 s1 m hf
    unfold fX12_ownMark_92 at hf
    refine g_iadd (pc := 92) X dX12_ownMark_92 ?_
    obtain ⟨v4_1, e2, hf⟩ := lt1_some hf
    refine g_topi e2 ?_
    refine g_istore (lv2 := [(0, .ref (ad v0)), (1, .int v1), (2, .int v2), (4, .int v4_1)]) (pc := 93) X dX12_ownMark_93 (by decide) [1, 2, 3, 0] rfl ?_
    refine g_iload_n (pc := 95) X dX12_ownMark_95 rfl 2 rfl ?_
    refine g_bipush (v := (7 : Int32)) (pc := 96) X dX12_ownMark_96 (by decide) ?_
    refine g_icmp_ne (pc := 98) (tgt := 116) X dX12_ownMark_98 (by decide) (fun hc => ?_) (fun hc => ?_)
    · have hf := itn hc hf
      refine g_iload_n (pc := 116) X dX12_ownMark_116 rfl 2 rfl ?_
      refine g_iconst (v := (3 : Int32)) (pc := 117) X dX12_ownMark_117 (by decide) ?_
      refine g_icmp_ne (pc := 118) (tgt := 132) X dX12_ownMark_118 (by decide) (fun hc => ?_) (fun hc => ?_)
      · have hf := itn hc hf
        refine g_iload (pc := 132) X dX12_ownMark_132 3 rfl ?_
        obtain ⟨rfl, rfl⟩ := som2 hf
        exact hret _ _ rfl dX12_ownMark_134
      · have hf := itp hc hf
        refine g_iload (pc := 121) X dX12_ownMark_121 3 rfl ?_
        refine g_aload_n (pc := 123) X dX12_ownMark_123 rfl 0 rfl ?_
        refine g_iload_n (pc := 124) X dX12_ownMark_124 rfl 1 rfl ?_
        obtain ⟨hk6, hf⟩ := gp_some hf
        obtain ⟨r4, m5, hq3, hf⟩ := bnd2_some hf
        refine g_callVI (pc := 125) (As := [.int v1]) (rest := [.int v4_1]) X mi_X12_plainSize im_X12_plainSize se_X12_plainSize (KMlt hk6 (by decide)) hk6 clX12 ml_X12_402 (cX12_plainSize_ct z ad v0 v1 m m5 r4 hq3) rfl rfl (Nat.le_of_ble_eq_true rfl) ⟨rfl, rfl, by decide, by decide, Nat.le_refl _, Nat.le_refl _⟩ dX12_ownMark_125 ?_
        refine g_isub (pc := 128) X dX12_ownMark_128 ?_
        refine g_goto (pc := 129) (tgt := 134) X dX12_ownMark_129 (by decide) ?_
        obtain ⟨rfl, rfl⟩ := som2 hf
        exact hret _ _ rfl dX12_ownMark_134
    · have hf := itp hc hf
      refine g_iload (pc := 101) X dX12_ownMark_101 3 rfl ?_
      refine g_aload_n (pc := 103) X dX12_ownMark_103 rfl 0 rfl ?_
      refine g_iload_n (pc := 104) X dX12_ownMark_104 rfl 1 rfl ?_
      refine g_iconst (v := (1 : Int32)) (pc := 105) X dX12_ownMark_105 (by decide) ?_
      obtain ⟨hk9, hf⟩ := gp_some hf
      obtain ⟨r8, hq7, hf⟩ := bnd_some hf
      refine g_callVI (pc := 106) (As := [.int v1, .int (1 : Int32)]) (rest := [.int v4_1]) X mi_X12_storiesBy im_X12_storiesBy se_X12_storiesBy (KMlt hk9 (by decide)) hk9 clX12 ml_X12_366 (cX12_storiesBy_ct z ad v0 v1 (1 : Int32) m r8 hq7) rfl rfl (Nat.le_of_ble_eq_true rfl) ⟨rfl, rfl, by decide, by decide, Nat.le_refl _, Nat.le_refl _⟩ dX12_ownMark_106 ?_
      obtain ⟨r11, hq10, hf⟩ := bnd_some hf
      refine g_callSI (pc := 109) (As := [.int r8]) (rest := [.int v4_1]) X mi_X12_bits sm_X12_bits ml_X12_387 (cX12_bits_ct z ad r8 m r11 hq10) rfl rfl (Nat.le_of_ble_eq_true rfl) ⟨rfl, rfl, by decide, by decide, Nat.le_refl _, Nat.le_refl _⟩ dX12_ownMark_109 ?_
      refine g_iadd (pc := 112) X dX12_ownMark_112 ?_
      refine g_goto (pc := 113) (tgt := 134) X dX12_ownMark_113 (by decide) ?_
      obtain ⟨rfl, rfl⟩ := som2 hf
      exact hret _ _ rfl dX12_ownMark_134
  have hL80 : ∀ (v0 : Nat) (v1 : Int32) (v2 : Int32) (s0 : Int32) (s1 : Int32) (m : Mem), fX12_ownMark_80 v0 v1 v2 s0 s1 m = some (r, m2) → G z wM x 5 0 0 ad 17 m 80 [(0, .ref (ad v0)), (1, .int v1), (2, .int v2)] [.int s1, .int s0] := by
    intro v0 v1 v2 s0 s1 m hf
    unfold fX12_ownMark_80 at hf
    refine g_iadd (pc := 80) X dX12_ownMark_80 ?_
    refine g_iload_n (pc := 81) X dX12_ownMark_81 rfl 2 rfl ?_
    refine g_iconst (v := (5 : Int32)) (pc := 82) X dX12_ownMark_82 (by decide) ?_
    refine g_icmp_ne (pc := 83) (tgt := 91) X dX12_ownMark_83 (by decide) (fun hc => ?_) (fun hc => ?_)
    · have hf := itn hc hf
      refine g_iconst (v := (0 : Int32)) (pc := 91) X dX12_ownMark_91 (by decide) ?_
      exact hL92 _ _ _ _ _ _ hf
    · have hf := itp hc hf
      refine g_bipush (v := (100 : Int32)) (pc := 86) X dX12_ownMark_86 (by decide) ?_
      refine g_goto (pc := 88) (tgt := 92) X dX12_ownMark_88 (by decide) ?_
      exact hL92 _ _ _ _ _ _ hf
  have hL59 : ∀ (v0 : Nat) (v1 : Int32) (v2 : Int32) (v3 : Int32) (m : Mem), fX12_ownMark_59 v0 v1 v2 v3 m = some (r, m2) → G z wM x 5 0 0 ad 17 m 59 [(0, .ref (ad v0)), (1, .int v1), (2, .int v2), (3, .int v3)] [] := by
    intro v0 v1 v2 v3 m hf
    unfold fX12_ownMark_59 at hf
    refine g_aload_n (pc := 59) X dX12_ownMark_59 rfl 0 rfl ?_
    refine g_bipush (v := (20 : Int32)) (pc := 60) X dX12_ownMark_60 (by decide) ?_
    obtain ⟨hk14, hf⟩ := gp_some hf
    obtain ⟨m13, hq12, hf⟩ := bnd_some hf
    refine g_callVV (pc := 62) (As := [.int (20 : Int32)]) (rest := []) X mi_X12_began im_X12_began se_X12_began (KMlt hk14 (by decide)) hk14 clX12 ml_X12_396 (cX12_began_ct z ad v0 (20 : Int32) m m13 hq12) rfl rfl (Nat.le_of_ble_eq_true rfl) ⟨rfl, rfl, by decide, by decide, Nat.le_refl _, Nat.le_refl _⟩ dX12_ownMark_62 ?_
    refine g_iload_n (pc := 65) X dX12_ownMark_65 rfl 1 rfl ?_
    refine g_iload_n (pc := 66) X dX12_ownMark_66 rfl 3 rfl ?_
    refine g_if_eq (pc := 67) (tgt := 79) X dX12_ownMark_67 (by decide) (fun hc => ?_) (fun hc => ?_)
    · have hf := itp hc hf
      refine g_iconst (v := (0 : Int32)) (pc := 79) X dX12_ownMark_79 (by decide) ?_
      refine g_lv [(0, .ref (ad v0)), (1, .int v1), (2, .int v2)] [0, 1, 2] rfl ?_
      exact hL80 _ _ _ _ _ _ hf
    · have hf := itn hc hf
      refine g_aload_n (pc := 70) X dX12_ownMark_70 rfl 0 rfl ?_
      refine g_iload_n (pc := 71) X dX12_ownMark_71 rfl 1 rfl ?_
      refine g_iload_n (pc := 72) X dX12_ownMark_72 rfl 2 rfl ?_
      obtain ⟨r16, m17, hq15, hf⟩ := bnd2_some hf
      refine g_callVI (pc := 73) (As := [.int v1, .int v2]) (rest := [.int v1]) X mi_X12_ownSize im_X12_ownSize se_X12_ownSize (KMlt hk14 (by decide)) hk14 clX12 ml_X12_399 (cX12_ownSize_ct z ad v0 v1 v2 m13 m17 r16 hq15) rfl rfl (Nat.le_of_ble_eq_true rfl) ⟨rfl, rfl, by decide, by decide, Nat.le_refl _, Nat.le_refl _⟩ dX12_ownMark_73 ?_
      refine g_goto (pc := 76) (tgt := 80) X dX12_ownMark_76 (by decide) ?_
      refine g_lv [(0, .ref (ad v0)), (1, .int v1), (2, .int v2)] [0, 1, 2] rfl ?_
      exact hL80 _ _ _ _ _ _ hf
  have hL43 : ∀ (v0 : Nat) (v1 : Int32) (v2 : Int32) (m : Mem), fX12_ownMark_43 v0 v1 v2 m = some (r, m2) → G z wM x 5 0 0 ad 17 m 43 [(0, .ref (ad v0)), (1, .int v1), (2, .int v2)] [] := by
    intro v0 v1 v2 m hf
    unfold fX12_ownMark_43 at hf
    refine g_iload_n (pc := 43) X dX12_ownMark_43 rfl 2 rfl ?_
    refine g_iconst (v := (4 : Int32)) (pc := 44) X dX12_ownMark_44 (by decide) ?_
    obtain ⟨r19, hq18, hf⟩ := bnd_some hf
    refine g_callSI (pc := 45) (As := [.int v2, .int (4 : Int32)]) (rest := []) X mi_X12_isOf sm_X12_isOf ml_X12_390 (cX12_isOf_ct z ad v2 (4 : Int32) m r19 hq18) rfl rfl (Nat.le_of_ble_eq_true rfl) ⟨rfl, rfl, by decide, by decide, Nat.le_refl _, Nat.le_refl _⟩ dX12_ownMark_45 ?_
    refine g_istore_n (lv2 := [(0, .ref (ad v0)), (1, .int v1), (2, .int v2), (3, .int r19)]) (pc := 48) X dX12_ownMark_48 rfl (by decide) [1, 2, 3, 0] rfl ?_
    refine g_iload_n (pc := 49) X dX12_ownMark_49 rfl 3 rfl ?_
    refine g_if_eq (pc := 50) (tgt := 59) X dX12_ownMark_50 (by decide) (fun hc => ?_) (fun hc => ?_)
    · have hf := itp hc hf
      exact hL59 _ _ _ _ _ hf
    · have hf := itn hc hf
      refine g_aload_n (pc := 53) X dX12_ownMark_53 rfl 0 rfl ?_
      refine g_bipush (v := (21 : Int32)) (pc := 54) X dX12_ownMark_54 (by decide) ?_
      obtain ⟨hk22, hf⟩ := gp_some hf
      obtain ⟨m21, hq20, hf⟩ := bnd_some hf
      refine g_callVV (pc := 56) (As := [.int (21 : Int32)]) (rest := []) X mi_X12_began im_X12_began se_X12_began (KMlt hk22 (by decide)) hk22 clX12 ml_X12_396 (cX12_began_ct z ad v0 (21 : Int32) m m21 hq20) rfl rfl (Nat.le_of_ble_eq_true rfl) ⟨rfl, rfl, by decide, by decide, Nat.le_refl _, Nat.le_refl _⟩ dX12_ownMark_56 ?_
      exact hL59 _ _ _ _ _ hf
  have hL40 : ∀ (v0 : Nat) (v1 : Int32) (v2 : Int32) (s0 : Nat) (s1 : Int32) (m : Mem), fX12_ownMark_40 v0 v1 v2 s0 s1 m = some (r, m2) → G z wM x 5 0 0 ad 17 m 40 [(0, .ref (ad v0)), (1, .int v1), (2, .int v2)] [.int s1, .ref (ad s0)] := by
    intro v0 v1 v2 s0 s1 m hf
    unfold fX12_ownMark_40 at hf
    obtain ⟨hk25, hf⟩ := gp_some hf
    obtain ⟨m24, hq23, hf⟩ := bnd_some hf
    refine g_callVV (pc := 40) (As := [.int s1]) (rest := []) X mi_X12_began im_X12_began se_X12_began (KMlt hk25 (by decide)) hk25 clX12 ml_X12_396 (cX12_began_ct z ad s0 s1 m m24 hq23) rfl rfl (Nat.le_of_ble_eq_true rfl) ⟨rfl, rfl, by decide, by decide, Nat.le_refl _, Nat.le_refl _⟩ dX12_ownMark_40 ?_
    exact hL43 _ _ _ _ hf
  have hL16 : ∀ (v0 : Nat) (v1 : Int32) (v2 : Int32) (m : Mem), fX12_ownMark_16 v0 v1 v2 m = some (r, m2) → G z wM x 5 0 0 ad 17 m 16 [(0, .ref (ad v0)), (1, .int v1), (2, .int v2)] [] := by
    intro v0 v1 v2 m hf
    unfold fX12_ownMark_16 at hf
    refine g_aload_n (pc := 16) X dX12_ownMark_16 rfl 0 rfl ?_
    refine g_iload_n (pc := 17) X dX12_ownMark_17 rfl 2 rfl ?_
    refine g_iconst (v := (5 : Int32)) (pc := 18) X dX12_ownMark_18 (by decide) ?_
    refine g_icmp_ne (pc := 19) (tgt := 27) X dX12_ownMark_19 (by decide) (fun hc => ?_) (fun hc => ?_)
    · have hf := itn hc hf
      refine g_iload_n (pc := 27) X dX12_ownMark_27 rfl 2 rfl ?_
      refine g_bipush (v := (7 : Int32)) (pc := 28) X dX12_ownMark_28 (by decide) ?_
      refine g_icmp_ne (pc := 30) (tgt := 38) X dX12_ownMark_30 (by decide) (fun hc => ?_) (fun hc => ?_)
      · have hf := itn hc hf
        refine g_bipush (v := (24 : Int32)) (pc := 38) X dX12_ownMark_38 (by decide) ?_
        exact hL40 _ _ _ _ _ _ hf
      · have hf := itp hc hf
        refine g_bipush (v := (23 : Int32)) (pc := 33) X dX12_ownMark_33 (by decide) ?_
        refine g_goto (pc := 35) (tgt := 40) X dX12_ownMark_35 (by decide) ?_
        exact hL40 _ _ _ _ _ _ hf
    · have hf := itp hc hf
      refine g_bipush (v := (22 : Int32)) (pc := 22) X dX12_ownMark_22 (by decide) ?_
      refine g_goto (pc := 24) (tgt := 40) X dX12_ownMark_24 (by decide) ?_
      exact hL40 _ _ _ _ _ _ hf
  unfold fX12_ownMark at hf
  refine g_iload_n (pc := 0) X dX12_ownMark_0 rfl 2 rfl ?_
  refine g_iconst (v := (5 : Int32)) (pc := 1) X dX12_ownMark_1 (by decide) ?_
  refine g_icmp_eq (pc := 2) (tgt := 16) X dX12_ownMark_2 (by decide) (fun hc => ?_) (fun hc => ?_)
  · have hf := itp hc hf
    exact hL16 _ _ _ _ hf
  · have hf := itn hc hf
    refine g_iload_n (pc := 5) X dX12_ownMark_5 rfl 2 rfl ?_
    refine g_bipush (v := (7 : Int32)) (pc := 6) X dX12_ownMark_6 (by decide) ?_
    refine g_icmp_eq (pc := 8) (tgt := 16) X dX12_ownMark_8 (by decide) (fun hc => ?_) (fun hc => ?_)
    · have hf := itp hc hf
      exact hL16 _ _ _ _ hf
    · have hf := itn hc hf
      refine g_iload_n (pc := 11) X dX12_ownMark_11 rfl 2 rfl ?_
      refine g_iconst (v := (3 : Int32)) (pc := 12) X dX12_ownMark_12 (by decide) ?_
      refine g_icmp_ne (pc := 13) (tgt := 43) X dX12_ownMark_13 (by decide) (fun hc => ?_) (fun hc => ?_)
      · have hf := itn hc hf
        exact hL43 _ _ _ _ hf
      · have hf := itp hc hf
        exact hL16 _ _ _ _ hf

noncomputable def fX12_goneSize (v0 : Nat) (v1 : Int32) (m : Mem) : Option (Int32 × Mem) := gp (KM v0 = 12) (bnd (fX12_began v0 (11 : Int32) m) (fun m2 => bnd (fX12_began v0 (10 : Int32) m2) (fun m5 => bnd (fX12_began v0 (20 : Int32) m5) (fun m7 => bnd (fX12_signOf v0 v1 (1 : Int32) m7) (fun r9 => some (r9 + v1, m7))))))
set_option maxHeartbeats 4000000 in
set_option maxRecDepth 100000 in
theorem cX12_goneSize_ct (z : Zx) (ad : Nat → Nat) (v0 : Nat) (v1 : Int32) (m m2 : Mem) (r : Int32) (hf : fX12_goneSize v0 v1 m = some (r, m2)) : CtI z wM yX12_goneSize cX12_goneSize 2 (some .int) (Rm 3) ad 17 [.ref (ad v0), .int v1] m m2 r := by
  refine ct_ofI mi_X12_goneSize rfl (Nat.le_of_ble_eq_true rfl) (fun x X hret => ?_)
  refine g_lv [(0, .ref (ad v0)), (1, .int v1)] [0, 1] rfl ?_
  unfold fX12_goneSize at hf
  refine g_aload_n (pc := 0) X dX12_goneSize_0 rfl 0 rfl ?_
  refine g_bipush (v := (11 : Int32)) (pc := 1) X dX12_goneSize_1 (by decide) ?_
  obtain ⟨hk3, hf⟩ := gp_some hf
  obtain ⟨m2, hq1, hf⟩ := bnd_some hf
  refine g_callVV (pc := 3) (As := [.int (11 : Int32)]) (rest := []) X mi_X12_began im_X12_began se_X12_began (KMlt hk3 (by decide)) hk3 clX12 ml_X12_396 (cX12_began_ct z ad v0 (11 : Int32) m m2 hq1) rfl rfl (Nat.le_of_ble_eq_true rfl) ⟨rfl, rfl, by decide, by decide, Nat.le_refl _, Nat.le_refl _⟩ dX12_goneSize_3 ?_
  refine g_aload_n (pc := 6) X dX12_goneSize_6 rfl 0 rfl ?_
  refine g_bipush (v := (10 : Int32)) (pc := 7) X dX12_goneSize_7 (by decide) ?_
  obtain ⟨m5, hq4, hf⟩ := bnd_some hf
  refine g_callVV (pc := 9) (As := [.int (10 : Int32)]) (rest := []) X mi_X12_began im_X12_began se_X12_began (KMlt hk3 (by decide)) hk3 clX12 ml_X12_396 (cX12_began_ct z ad v0 (10 : Int32) m2 m5 hq4) rfl rfl (Nat.le_of_ble_eq_true rfl) ⟨rfl, rfl, by decide, by decide, Nat.le_refl _, Nat.le_refl _⟩ dX12_goneSize_9 ?_
  refine g_aload_n (pc := 12) X dX12_goneSize_12 rfl 0 rfl ?_
  refine g_bipush (v := (20 : Int32)) (pc := 13) X dX12_goneSize_13 (by decide) ?_
  obtain ⟨m7, hq6, hf⟩ := bnd_some hf
  refine g_callVV (pc := 15) (As := [.int (20 : Int32)]) (rest := []) X mi_X12_began im_X12_began se_X12_began (KMlt hk3 (by decide)) hk3 clX12 ml_X12_396 (cX12_began_ct z ad v0 (20 : Int32) m5 m7 hq6) rfl rfl (Nat.le_of_ble_eq_true rfl) ⟨rfl, rfl, by decide, by decide, Nat.le_refl _, Nat.le_refl _⟩ dX12_goneSize_15 ?_
  refine g_aload_n (pc := 18) X dX12_goneSize_18 rfl 0 rfl ?_
  refine g_iload_n (pc := 19) X dX12_goneSize_19 rfl 1 rfl ?_
  refine g_iconst (v := (1 : Int32)) (pc := 20) X dX12_goneSize_20 (by decide) ?_
  obtain ⟨r9, hq8, hf⟩ := bnd_some hf
  refine g_callVI (pc := 21) (As := [.int v1, .int (1 : Int32)]) (rest := []) X mi_X12_signOf im_X12_signOf se_X12_signOf (KMlt hk3 (by decide)) hk3 clX12 ml_X12_363 (cX12_signOf_ct z ad v0 v1 (1 : Int32) m7 r9 hq8) rfl rfl (Nat.le_of_ble_eq_true rfl) ⟨rfl, rfl, by decide, by decide, Nat.le_refl _, Nat.le_refl _⟩ dX12_goneSize_21 ?_
  refine g_iload_n (pc := 24) X dX12_goneSize_24 rfl 1 rfl ?_
  refine g_iadd (pc := 25) X dX12_goneSize_25 ?_
  obtain ⟨rfl, rfl⟩ := som2 hf
  exact hret _ _ rfl dX12_goneSize_26

noncomputable def fX12_ask (v0 : Nat) (v1 : Int32) (v2 : Int32) (m : Mem) : Option (Int64 × Mem) := gp (KM v0 = 12) (lt1 (uI m v0 0 (0 : Int32)) (fun m2 => bnd (fX12_isSign v0 v1 m2) (fun r5 => if r5 = 0 then (some ((-9000000000000000001 : Int64), m2)) else (bnd (fX12_in v2.toInt64 (0 : Int64) (1 : Int64)) (fun r7 => if r7 = 0 then (some ((-9000000000000000001 : Int64), m2)) else (lt1 (uI m2 v0 30 (0 : Int32)) (fun m8 => bnd (fX12_signOf v0 v1 (0 : Int32) m8) (fun r11 => if v2 = (1 : Int32) then (bnd2 (fX12_ownMark v0 v1 r11 m8) (fun r19 m20 => some (r19.toInt64, m20))) else (if r11 = (2 : Int32) then (bnd2 (fX12_goneSize v0 v1 m8) (fun r16 m17 => some (r16.toInt64, m17))) else (bnd2 (fX12_ownSize v0 v1 r11 m8) (fun r13 m14 => some (r13.toInt64, m14))))))))))))
set_option maxHeartbeats 4000000 in
set_option maxRecDepth 100000 in
theorem cX12_ask_ct (z : Zx) (ad : Nat → Nat) (v0 : Nat) (v1 : Int32) (v2 : Int32) (m m2 : Mem) (r : Int64) (hf : fX12_ask v0 v1 v2 m = some (r, m2)) : CtL z wM yX12_ask cX12_ask 4 (some .long) (Rm 6) ad 17 [.ref (ad v0), .int v1, .int v2] m m2 r := by
  refine ct_ofL mi_X12_ask rfl (Nat.le_of_ble_eq_true rfl) (fun x X hret => ?_)
  refine g_lv [(0, .ref (ad v0)), (1, .int v1), (2, .int v2)] [0, 1, 2] rfl ?_
  unfold fX12_ask at hf
  refine g_aload_n (pc := 0) X dX12_ask_0 rfl 0 rfl ?_
  refine g_iconst (v := (0 : Int32)) (pc := 1) X dX12_ask_1 (by decide) ?_
  obtain ⟨hk1, hf⟩ := gp_some hf
  refine g_putI (pc := 2) X fl_X12_60 (KMlt hk1 (by decide)) hk1 rfl rfl dX12_ask_2 ?_
  obtain ⟨m2, e3, hf⟩ := lt1_some hf
  refine g_mem e3 ?_
  refine g_aload_n (pc := 5) X dX12_ask_5 rfl 0 rfl ?_
  refine g_iload_n (pc := 6) X dX12_ask_6 rfl 1 rfl ?_
  obtain ⟨r5, hq4, hf⟩ := bnd_some hf
  refine g_callVI (pc := 7) (As := [.int v1]) (rest := []) X mi_X12_isSign im_X12_isSign se_X12_isSign (KMlt hk1 (by decide)) hk1 clX12 ml_X12_360 (cX12_isSign_ct z ad v0 v1 m2 r5 hq4) rfl rfl (Nat.le_of_ble_eq_true rfl) ⟨rfl, rfl, by decide, by decide, Nat.le_refl _, Nat.le_refl _⟩ dX12_ask_7 ?_
  refine g_if_eq (pc := 10) (tgt := 23) X dX12_ask_10 (by decide) (fun hc => ?_) (fun hc => ?_)
  · have hf := itp hc hf
    refine g_ldc2 (pc := 23) X dX12_ask_23 kl_X12_81 ?_
    obtain ⟨rfl, rfl⟩ := som2 hf
    exact hret _ _ dX12_ask_26
  · have hf := itn hc hf
    refine g_iload_n (pc := 13) X dX12_ask_13 rfl 2 rfl ?_
    refine g_i2l (pc := 14) X dX12_ask_14 ?_
    refine g_lconst (v := (0 : Int64)) (pc := 15) X dX12_ask_15 (by decide) ?_
    refine g_lconst (v := (1 : Int64)) (pc := 16) X dX12_ask_16 (by decide) ?_
    obtain ⟨r7, hq6, hf⟩ := bnd_some hf
    refine g_callSI (pc := 17) (As := [.long v2.toInt64, .long (0 : Int64), .long (1 : Int64)]) (rest := []) X mi_X12_in sm_X12_in ml_X12_71 (cX12_in_ct z ad v2.toInt64 (0 : Int64) (1 : Int64) m2 r7 hq6) rfl rfl (Nat.le_of_ble_eq_true rfl) ⟨rfl, rfl, by decide, by decide, Nat.le_refl _, Nat.le_refl _⟩ dX12_ask_17 ?_
    refine g_if_ne (pc := 20) (tgt := 27) X dX12_ask_20 (by decide) (fun hc => ?_) (fun hc => ?_)
    · have hf := itn hc hf
      refine g_aload_n (pc := 27) X dX12_ask_27 rfl 0 rfl ?_
      refine g_iconst (v := (0 : Int32)) (pc := 28) X dX12_ask_28 (by decide) ?_
      refine g_putI (pc := 29) X fl_X12_393 (KMlt hk1 (by decide)) hk1 rfl rfl dX12_ask_29 ?_
      obtain ⟨m8, e9, hf⟩ := lt1_some hf
      refine g_mem e9 ?_
      refine g_aload_n (pc := 32) X dX12_ask_32 rfl 0 rfl ?_
      refine g_iload_n (pc := 33) X dX12_ask_33 rfl 1 rfl ?_
      refine g_iconst (v := (0 : Int32)) (pc := 34) X dX12_ask_34 (by decide) ?_
      obtain ⟨r11, hq10, hf⟩ := bnd_some hf
      refine g_callVI (pc := 35) (As := [.int v1, .int (0 : Int32)]) (rest := []) X mi_X12_signOf im_X12_signOf se_X12_signOf (KMlt hk1 (by decide)) hk1 clX12 ml_X12_363 (cX12_signOf_ct z ad v0 v1 (0 : Int32) m8 r11 hq10) rfl rfl (Nat.le_of_ble_eq_true rfl) ⟨rfl, rfl, by decide, by decide, Nat.le_refl _, Nat.le_refl _⟩ dX12_ask_35 ?_
      refine g_istore_n (lv2 := [(0, .ref (ad v0)), (1, .int v1), (2, .int v2), (3, .int r11)]) (pc := 38) X dX12_ask_38 rfl (by decide) [1, 2, 3, 0] rfl ?_
      refine g_iload_n (pc := 39) X dX12_ask_39 rfl 2 rfl ?_
      refine g_iconst (v := (1 : Int32)) (pc := 40) X dX12_ask_40 (by decide) ?_
      refine g_icmp_ne (pc := 41) (tgt := 54) X dX12_ask_41 (by decide) (fun hc => ?_) (fun hc => ?_)
      · have hf := itn hc hf
        refine g_iload_n (pc := 54) X dX12_ask_54 rfl 3 rfl ?_
        refine g_iconst (v := (2 : Int32)) (pc := 55) X dX12_ask_55 (by decide) ?_
        refine g_icmp_ne (pc := 56) (tgt := 68) X dX12_ask_56 (by decide) (fun hc => ?_) (fun hc => ?_)
        · have hf := itn hc hf
          refine g_aload_n (pc := 68) X dX12_ask_68 rfl 0 rfl ?_
          refine g_iload_n (pc := 69) X dX12_ask_69 rfl 1 rfl ?_
          refine g_iload_n (pc := 70) X dX12_ask_70 rfl 3 rfl ?_
          obtain ⟨r13, m14, hq12, hf⟩ := bnd2_some hf
          refine g_callVI (pc := 71) (As := [.int v1, .int r11]) (rest := []) X mi_X12_ownSize im_X12_ownSize se_X12_ownSize (KMlt hk1 (by decide)) hk1 clX12 ml_X12_399 (cX12_ownSize_ct z ad v0 v1 r11 m8 m14 r13 hq12) rfl rfl (Nat.le_of_ble_eq_true rfl) ⟨rfl, rfl, by decide, by decide, Nat.le_refl _, Nat.le_refl _⟩ dX12_ask_71 ?_
          refine g_i2l (pc := 74) X dX12_ask_74 ?_
          obtain ⟨rfl, rfl⟩ := som2 hf
          exact hret _ _ dX12_ask_75
        · have hf := itp hc hf
          refine g_aload_n (pc := 59) X dX12_ask_59 rfl 0 rfl ?_
          refine g_iload_n (pc := 60) X dX12_ask_60 rfl 1 rfl ?_
          obtain ⟨r16, m17, hq15, hf⟩ := bnd2_some hf
          refine g_callVI (pc := 61) (As := [.int v1]) (rest := []) X mi_X12_goneSize im_X12_goneSize se_X12_goneSize (KMlt hk1 (by decide)) hk1 clX12 ml_X12_408 (cX12_goneSize_ct z ad v0 v1 m8 m17 r16 hq15) rfl rfl (Nat.le_of_ble_eq_true rfl) ⟨rfl, rfl, by decide, by decide, Nat.le_refl _, Nat.le_refl _⟩ dX12_ask_61 ?_
          refine g_i2l (pc := 64) X dX12_ask_64 ?_
          refine g_goto (pc := 65) (tgt := 75) X dX12_ask_65 (by decide) ?_
          obtain ⟨rfl, rfl⟩ := som2 hf
          exact hret _ _ dX12_ask_75
      · have hf := itp hc hf
        refine g_aload_n (pc := 44) X dX12_ask_44 rfl 0 rfl ?_
        refine g_iload_n (pc := 45) X dX12_ask_45 rfl 1 rfl ?_
        refine g_iload_n (pc := 46) X dX12_ask_46 rfl 3 rfl ?_
        obtain ⟨r19, m20, hq18, hf⟩ := bnd2_some hf
        refine g_callVI (pc := 47) (As := [.int v1, .int r11]) (rest := []) X mi_X12_ownMark im_X12_ownMark se_X12_ownMark (KMlt hk1 (by decide)) hk1 clX12 ml_X12_405 (cX12_ownMark_ct z ad v0 v1 r11 m8 m20 r19 hq18) rfl rfl (Nat.le_of_ble_eq_true rfl) ⟨rfl, rfl, by decide, by decide, Nat.le_refl _, Nat.le_refl _⟩ dX12_ask_47 ?_
        refine g_i2l (pc := 50) X dX12_ask_50 ?_
        refine g_goto (pc := 51) (tgt := 75) X dX12_ask_51 (by decide) ?_
        obtain ⟨rfl, rfl⟩ := som2 hf
        exact hret _ _ dX12_ask_75
    · have hf := itp hc hf
      refine g_ldc2 (pc := 23) X dX12_ask_23 kl_X12_81 ?_
      obtain ⟨rfl, rfl⟩ := som2 hf
      exact hret _ _ dX12_ask_26

noncomputable def fX12_trace (v0 : Nat) (v1 : Int32) (m : Mem) : Option (Int32 × Mem) := gp (KM v0 = 12) (lt1 (uI m v0 0 (0 : Int32)) (fun m2 => bnd (fX12_in v1.toInt64 (0 : Int64) (((m2.1 v0 30) - (1 : Int32)).toInt64)) (fun r5 => if r5 = 0 then (some ((-1000000 : Int32), m2)) else (bnd (m2.2.2 v0 29) (fun q6 => gp (KM q6 = 14) (gp (inb v1 (NM q6) = true) (some (m2.1 q6 v1.toNatClampNeg, m2))))))))
set_option maxHeartbeats 4000000 in
set_option maxRecDepth 100000 in
theorem cX12_trace_ct (z : Zx) (ad : Nat → Nat) (v0 : Nat) (v1 : Int32) (m m2 : Mem) (r : Int32) (hf : fX12_trace v0 v1 m = some (r, m2)) : CtI z wM yX12_trace cX12_trace 2 (some .int) (Rm 3) ad 17 [.ref (ad v0), .int v1] m m2 r := by
  refine ct_ofI mi_X12_trace rfl (Nat.le_of_ble_eq_true rfl) (fun x X hret => ?_)
  refine g_lv [(0, .ref (ad v0)), (1, .int v1)] [0, 1] rfl ?_
  unfold fX12_trace at hf
  refine g_aload_n (pc := 0) X dX12_trace_0 rfl 0 rfl ?_
  refine g_iconst (v := (0 : Int32)) (pc := 1) X dX12_trace_1 (by decide) ?_
  obtain ⟨hk1, hf⟩ := gp_some hf
  refine g_putI (pc := 2) X fl_X12_60 (KMlt hk1 (by decide)) hk1 rfl rfl dX12_trace_2 ?_
  obtain ⟨m2, e3, hf⟩ := lt1_some hf
  refine g_mem e3 ?_
  refine g_iload_n (pc := 5) X dX12_trace_5 rfl 1 rfl ?_
  refine g_i2l (pc := 6) X dX12_trace_6 ?_
  refine g_lconst (v := (0 : Int64)) (pc := 7) X dX12_trace_7 (by decide) ?_
  refine g_aload_n (pc := 8) X dX12_trace_8 rfl 0 rfl ?_
  refine g_getI (pc := 9) X fl_X12_393 (KMlt hk1 (by decide)) hk1 dX12_trace_9 ?_
  refine g_iconst (v := (1 : Int32)) (pc := 12) X dX12_trace_12 (by decide) ?_
  refine g_isub (pc := 13) X dX12_trace_13 ?_
  refine g_i2l (pc := 14) X dX12_trace_14 ?_
  obtain ⟨r5, hq4, hf⟩ := bnd_some hf
  refine g_callSI (pc := 15) (As := [.long v1.toInt64, .long (0 : Int64), .long (((m2.1 v0 30) - (1 : Int32)).toInt64)]) (rest := []) X mi_X12_in sm_X12_in ml_X12_71 (cX12_in_ct z ad v1.toInt64 (0 : Int64) (((m2.1 v0 30) - (1 : Int32)).toInt64) m2 r5 hq4) rfl rfl (Nat.le_of_ble_eq_true rfl) ⟨rfl, rfl, by decide, by decide, Nat.le_refl _, Nat.le_refl _⟩ dX12_trace_15 ?_
  refine g_if_eq (pc := 18) (tgt := 30) X dX12_trace_18 (by decide) (fun hc => ?_) (fun hc => ?_)
  · have hf := itp hc hf
    refine g_ldc (pc := 30) X dX12_trace_30 k_X12_99 ?_
    obtain ⟨rfl, rfl⟩ := som2 hf
    exact hret _ _ rfl dX12_trace_32
  · have hf := itn hc hf
    refine g_aload_n (pc := 21) X dX12_trace_21 rfl 0 rfl ?_
    obtain ⟨q6, hr7, hf⟩ := bnd_some hf
    refine g_getR (pc := 22) X fl_X12_57 (KMlt hk1 (by decide)) hk1 hr7 dX12_trace_22 ?_
    refine g_iload_n (pc := 25) X dX12_trace_25 rfl 1 rfl ?_
    obtain ⟨hk8, hf⟩ := gp_some hf
    obtain ⟨hi9, hf⟩ := gp_some hf
    refine g_iald (pc := 26) X (KMlt hk8 (by decide)) hk8 hi9 dX12_trace_26 ?_
    refine g_goto (pc := 27) (tgt := 32) X dX12_trace_27 (by decide) ?_
    obtain ⟨rfl, rfl⟩ := som2 hf
    exact hret _ _ rfl dX12_trace_32

noncomputable def fX12_count_142 (v0 : Nat) (v3 : Int32) (s0 : Int32) (s1 : Int32) (m : Mem) : Option ((Int32 × Int32) ⊕ (Int32)) := lt1 (s0 + s1) (fun v2_1 => lt1 (v3 + 1) (fun v3_3 => some (.inl (v2_1, v3_3))))
noncomputable def fX12_count_121b (v0 : Nat) (v2 : Int32) (v3 : Int32) (m : Mem) : Option ((Int32 × Int32) ⊕ (Int32)) := if (128 : Int32) ≤ v3 then (some (.inr (v2))) else (gp (KM v0 = 12) (bnd (fX12_isLand v0 v3 m) (fun r6 => if r6 = 0 then (fX12_count_142 v0 v3 v2 (0 : Int32) m) else (fX12_count_142 v0 v3 v2 (1 : Int32) m))))
noncomputable def fX12_count_121 (v0 : Nat) (v2 : Int32) (v3 : Int32) (m : Mem) : Option (Int64 × Mem) := bnd (iter (fun s => fX12_count_121b v0 s.1 s.2 m) FU (v2, v3)) (fun e => some (e.toInt64, m))
noncomputable def fX12_count_83 (v0 : Nat) (v3 : Int32) (s0 : Int32) (s1 : Int32) (m : Mem) : Option ((Int32 × Int32) ⊕ (Int32)) := lt1 (s0 + s1) (fun v2_8 => lt1 (v3 + 1) (fun v3_10 => some (.inl (v2_8, v3_10))))
noncomputable def fX12_count_62b (v0 : Nat) (v2 : Int32) (v3 : Int32) (m : Mem) : Option ((Int32 × Int32) ⊕ (Int32)) := if (8 : Int32) ≤ v3 then (some (.inr (v2))) else (gp (KM v0 = 12) (bnd (m.2.2 v0 2) (fun q13 => gp (KM q13 = 14) (gp (inb v3 (NM q13) = true) (if (m.1 q13 v3.toNatClampNeg) < 0 then (fX12_count_83 v0 v3 v2 (0 : Int32) m) else (fX12_count_83 v0 v3 v2 (1 : Int32) m))))))
noncomputable def fX12_count_62 (v0 : Nat) (v2 : Int32) (v3 : Int32) (m : Mem) : Option (Int64 × Mem) := bnd (iter (fun s => fX12_count_62b v0 s.1 s.2 m) FU (v2, v3)) (fun e => some (e.toInt64, m))
noncomputable def fX12_count (v0 : Nat) (v1 : Int32) (m : Mem) : Option (Int64 × Mem) := gp (KM v0 = 12) (lt1 (uI m v0 0 (0 : Int32)) (fun m18 => lt1 ((0 : Int32)) (fun v2_20 => if v1 = 0 then (lt1 ((0 : Int32)) (fun v3_22 => fX12_count_62 v0 v2_20 v3_22 m18)) else if v1 = 1 then (bnd (m18.2.2 v0 5) (fun q25 => gp (KM q25 = 14) (gp (inb (6 : Int32) (NM q25) = true) (gp (inb (7 : Int32) (NM q25) = true) (some (((m18.1 q25 (6 : Int32).toNatClampNeg) * (m18.1 q25 (7 : Int32).toNatClampNeg)).toInt64, m18)))))) else if v1 = 2 then (bnd (m18.2.2 v0 5) (fun q31 => gp (KM q31 = 14) (gp (inb (0 : Int32) (NM q31) = true) (some ((m18.1 q31 (0 : Int32).toNatClampNeg).toInt64, m18))))) else if v1 = 3 then (lt1 ((0 : Int32)) (fun v3_36 => fX12_count_121 v0 v2_20 v3_36 m18)) else if v1 = 4 then (bnd (m18.2.2 v0 5) (fun q39 => gp (KM q39 = 14) (gp (inb (v1 - (1 : Int32)) (NM q39) = true) (some ((m18.1 q39 (v1 - (1 : Int32)).toNatClampNeg).toInt64, m18))))) else if v1 = 5 then (bnd (m18.2.2 v0 5) (fun q44 => gp (KM q44 = 14) (gp (inb (v1 - (1 : Int32)) (NM q44) = true) (some ((m18.1 q44 (v1 - (1 : Int32)).toNatClampNeg).toInt64, m18))))) else if v1 = 6 then (bnd (m18.2.2 v0 5) (fun q49 => gp (KM q49 = 14) (gp (inb (v1 - (1 : Int32)) (NM q49) = true) (some ((m18.1 q49 (v1 - (1 : Int32)).toNatClampNeg).toInt64, m18))))) else if v1 = 7 then (some ((m18.1 v0 10).toInt64, m18)) else if v1 = 8 then (bnd (fX12_allOdds v0 m18) (fun r56 => some (r56.toInt64, m18))) else some ((-9000000000000000001 : Int64), m18))))
set_option maxHeartbeats 4000000 in
set_option maxRecDepth 100000 in
theorem cX12_count_ct (z : Zx) (ad : Nat → Nat) (v0 : Nat) (v1 : Int32) (m m2 : Mem) (r : Int64) (hf : fX12_count v0 v1 m = some (r, m2)) : CtL z wM yX12_count cX12_count 4 (some .long) (Rm 4) ad 17 [.ref (ad v0), .int v1] m m2 r := by
  refine ct_ofL mi_X12_count rfl (Nat.le_of_ble_eq_true rfl) (fun x X hret => ?_)
  refine g_lv [(0, .ref (ad v0)), (1, .int v1)] [0, 1] rfl ?_
  have hL121 : ∀ (v0 : Nat) (v2 : Int32) (v3 : Int32) (m : Mem), fX12_count_121 v0 v2 v3 m = some (r, m2) → G z wM x 4 0 0 ad 17 m 121 [(0, .ref (ad v0)), (2, .int v2), (3, .int v3)] [] := by
    intro v0 v2 v3 m hf
    unfold fX12_count_121 at hf
    obtain ⟨e121, hit121, hrest121⟩ := bnd_some hf
    refine iter_ok (Hd := fun (s : (Int32 × Int32)) => G z wM x 4 0 0 ad 17 m 121 [(0, .ref (ad v0)), (2, .int s.1), (3, .int s.2)] []) ?_ FU (v2, v3) hit121
    intro s ob121 hf hs121 he121
    obtain ⟨v2, v3⟩ := s
    have hf : fX12_count_121b v0 v2 v3 m = some ob121 := hf
    have hL142 : ∀ (v3 : Int32) (s0 : Int32) (s1 : Int32), fX12_count_142 v0 v3 s0 s1 m = some ob121 → G z wM x 4 0 0 ad 17 m 142 [(0, .ref (ad v0)), (3, .int v3)] [.int s1, .int s0] := by
      intro v3 s0 s1 hf
      unfold fX12_count_142 at hf
      refine g_iadd (pc := 142) X dX12_count_142 ?_
      obtain ⟨v2_1, e2, hf⟩ := lt1_some hf
      refine g_topi e2 ?_
      refine g_istore_n (lv2 := [(0, .ref (ad v0)), (2, .int v2_1), (3, .int v3)]) (pc := 143) X dX12_count_143 rfl (by decide) [1, 0, 2] rfl ?_
      obtain ⟨v3_3, e4, hf⟩ := lt1_some hf
      refine g_iinc (v2 := v3_3) (lv2 := [(0, .ref (ad v0)), (2, .int v2_1), (3, .int v3_3)]) (pc := 144) X dX12_count_144 2 rfl (by rw [e4]; rfl) (by decide) [1, 2, 0] rfl ?_
      refine g_goto (pc := 147) (tgt := 121) X dX12_count_147 (by decide) ?_
      exact hs121 (v2_1, v3_3) (Option.some.inj hf).symm
    unfold fX12_count_121b at hf
    refine g_iload_n (pc := 121) X dX12_count_121 rfl 2 rfl ?_
    refine g_sipush (v := (128 : Int32)) (pc := 122) X dX12_count_122 (by decide) ?_
    refine g_icmp_ge (pc := 125) (tgt := 150) X dX12_count_125 (by decide) (fun hc => ?_) (fun hc => ?_)
    · have hf := itp hc hf
      have he121 := he121 _ (Option.some.inj hf).symm
      subst he121
      have hf : some (v2.toInt64, m) = some (r, m2) := hrest121
      refine g_iload_n (pc := 150) X dX12_count_150 rfl 1 rfl ?_
      refine g_i2l (pc := 151) X dX12_count_151 ?_
      obtain ⟨rfl, rfl⟩ := som2 hf
      exact hret _ _ dX12_count_152
    · have hf := itn hc hf
      refine g_iload_n (pc := 128) X dX12_count_128 rfl 1 rfl ?_
      refine g_aload_n (pc := 129) X dX12_count_129 rfl 0 rfl ?_
      refine g_iload_n (pc := 130) X dX12_count_130 rfl 2 rfl ?_
      obtain ⟨hk7, hf⟩ := gp_some hf
      obtain ⟨r6, hq5, hf⟩ := bnd_some hf
      refine g_callVI (pc := 131) (As := [.int v3]) (rest := [.int v2]) X mi_X12_isLand im_X12_isLand se_X12_isLand (KMlt hk7 (by decide)) hk7 clX12 ml_X12_246 (cX12_isLand_ct z ad v0 v3 m r6 hq5) rfl rfl (Nat.le_of_ble_eq_true rfl) ⟨rfl, rfl, by decide, by decide, Nat.le_refl _, Nat.le_refl _⟩ dX12_count_131 ?_
      refine g_if_eq (pc := 134) (tgt := 141) X dX12_count_134 (by decide) (fun hc => ?_) (fun hc => ?_)
      · have hf := itp hc hf
        refine g_iconst (v := (0 : Int32)) (pc := 141) X dX12_count_141 (by decide) ?_
        refine g_lv [(0, .ref (ad v0)), (3, .int v3)] [0, 2] rfl ?_
        exact hL142 _ _ _ hf
      · have hf := itn hc hf
        refine g_iconst (v := (1 : Int32)) (pc := 137) X dX12_count_137 (by decide) ?_
        refine g_goto (pc := 138) (tgt := 142) X dX12_count_138 (by decide) ?_
        refine g_lv [(0, .ref (ad v0)), (3, .int v3)] [0, 2] rfl ?_
        exact hL142 _ _ _ hf
  have hL62 : ∀ (v0 : Nat) (v2 : Int32) (v3 : Int32) (m : Mem), fX12_count_62 v0 v2 v3 m = some (r, m2) → G z wM x 4 0 0 ad 17 m 62 [(0, .ref (ad v0)), (2, .int v2), (3, .int v3)] [] := by
    intro v0 v2 v3 m hf
    unfold fX12_count_62 at hf
    obtain ⟨e62, hit62, hrest62⟩ := bnd_some hf
    refine iter_ok (Hd := fun (s : (Int32 × Int32)) => G z wM x 4 0 0 ad 17 m 62 [(0, .ref (ad v0)), (2, .int s.1), (3, .int s.2)] []) ?_ FU (v2, v3) hit62
    intro s ob62 hf hs62 he62
    obtain ⟨v2, v3⟩ := s
    have hf : fX12_count_62b v0 v2 v3 m = some ob62 := hf
    have hL83 : ∀ (v3 : Int32) (s0 : Int32) (s1 : Int32), fX12_count_83 v0 v3 s0 s1 m = some ob62 → G z wM x 4 0 0 ad 17 m 83 [(0, .ref (ad v0)), (3, .int v3)] [.int s1, .int s0] := by
      intro v3 s0 s1 hf
      unfold fX12_count_83 at hf
      refine g_iadd (pc := 83) X dX12_count_83 ?_
      obtain ⟨v2_8, e9, hf⟩ := lt1_some hf
      refine g_topi e9 ?_
      refine g_istore_n (lv2 := [(0, .ref (ad v0)), (2, .int v2_8), (3, .int v3)]) (pc := 84) X dX12_count_84 rfl (by decide) [1, 0, 2] rfl ?_
      obtain ⟨v3_10, e11, hf⟩ := lt1_some hf
      refine g_iinc (v2 := v3_10) (lv2 := [(0, .ref (ad v0)), (2, .int v2_8), (3, .int v3_10)]) (pc := 85) X dX12_count_85 2 rfl (by rw [e11]; rfl) (by decide) [1, 2, 0] rfl ?_
      refine g_goto (pc := 88) (tgt := 62) X dX12_count_88 (by decide) ?_
      exact hs62 (v2_8, v3_10) (Option.some.inj hf).symm
    unfold fX12_count_62b at hf
    refine g_iload_n (pc := 62) X dX12_count_62 rfl 2 rfl ?_
    refine g_bipush (v := (8 : Int32)) (pc := 63) X dX12_count_63 (by decide) ?_
    refine g_icmp_ge (pc := 65) (tgt := 91) X dX12_count_65 (by decide) (fun hc => ?_) (fun hc => ?_)
    · have hf := itp hc hf
      have he62 := he62 _ (Option.some.inj hf).symm
      subst he62
      have hf : some (v2.toInt64, m) = some (r, m2) := hrest62
      refine g_iload_n (pc := 91) X dX12_count_91 rfl 1 rfl ?_
      refine g_i2l (pc := 92) X dX12_count_92 ?_
      obtain ⟨rfl, rfl⟩ := som2 hf
      exact hret _ _ dX12_count_93
    · have hf := itn hc hf
      refine g_iload_n (pc := 68) X dX12_count_68 rfl 1 rfl ?_
      refine g_aload_n (pc := 69) X dX12_count_69 rfl 0 rfl ?_
      obtain ⟨hk12, hf⟩ := gp_some hf
      obtain ⟨q13, hr14, hf⟩ := bnd_some hf
      refine g_getR (pc := 70) X fl_X12_9 (KMlt hk12 (by decide)) hk12 hr14 dX12_count_70 ?_
      refine g_iload_n (pc := 73) X dX12_count_73 rfl 2 rfl ?_
      obtain ⟨hk15, hf⟩ := gp_some hf
      obtain ⟨hi16, hf⟩ := gp_some hf
      refine g_iald (pc := 74) X (KMlt hk15 (by decide)) hk15 hi16 dX12_count_74 ?_
      refine g_if_lt (pc := 75) (tgt := 82) X dX12_count_75 (by decide) (fun hc => ?_) (fun hc => ?_)
      · have hf := itp hc hf
        refine g_iconst (v := (0 : Int32)) (pc := 82) X dX12_count_82 (by decide) ?_
        refine g_lv [(0, .ref (ad v0)), (3, .int v3)] [0, 2] rfl ?_
        exact hL83 _ _ _ hf
      · have hf := itn hc hf
        refine g_iconst (v := (1 : Int32)) (pc := 78) X dX12_count_78 (by decide) ?_
        refine g_goto (pc := 79) (tgt := 83) X dX12_count_79 (by decide) ?_
        refine g_lv [(0, .ref (ad v0)), (3, .int v3)] [0, 2] rfl ?_
        exact hL83 _ _ _ hf
  unfold fX12_count at hf
  refine g_aload_n (pc := 0) X dX12_count_0 rfl 0 rfl ?_
  refine g_iconst (v := (0 : Int32)) (pc := 1) X dX12_count_1 (by decide) ?_
  obtain ⟨hk17, hf⟩ := gp_some hf
  refine g_putI (pc := 2) X fl_X12_60 (KMlt hk17 (by decide)) hk17 rfl rfl dX12_count_2 ?_
  obtain ⟨m18, e19, hf⟩ := lt1_some hf
  refine g_mem e19 ?_
  refine g_iconst (v := (0 : Int32)) (pc := 5) X dX12_count_5 (by decide) ?_
  obtain ⟨v2_20, e21, hf⟩ := lt1_some hf
  refine g_topi e21 ?_
  refine g_istore_n (lv2 := [(0, .ref (ad v0)), (1, .int v1), (2, .int v2_20)]) (pc := 6) X dX12_count_6 rfl (by decide) [1, 2, 0] rfl ?_
  refine g_iload_n (pc := 7) X dX12_count_7 rfl 1 rfl ?_
  by_cases hw24 : v1 = 0
  · have hf := itp hw24 hf
    refine g_tblIn (pc := 8) (tgt := 60) (off := 52) X dX12_count_8 (by rw [hw24]; decide) (by rw [hw24]; decide) (by rw [hw24]; rfl) (by decide) ?_
    refine g_iconst (v := (0 : Int32)) (pc := 60) X dX12_count_60 (by decide) ?_
    obtain ⟨v3_22, e23, hf⟩ := lt1_some hf
    refine g_topi e23 ?_
    refine g_istore_n (lv2 := [(0, .ref (ad v0)), (1, .int v1), (2, .int v2_20), (3, .int v3_22)]) (pc := 61) X dX12_count_61 rfl (by decide) [1, 2, 3, 0] rfl ?_
    refine g_lv [(0, .ref (ad v0)), (2, .int v2_20), (3, .int v3_22)] [0, 2, 3] rfl ?_
    exact hL62 _ _ _ _ hf
  have hf := itn hw24 hf
  by_cases hw30 : v1 = 1
  · have hf := itp hw30 hf
    refine g_tblIn (pc := 8) (tgt := 94) (off := 86) X dX12_count_8 (by rw [hw30]; decide) (by rw [hw30]; decide) (by rw [hw30]; rfl) (by decide) ?_
    refine g_aload_n (pc := 94) X dX12_count_94 rfl 0 rfl ?_
    obtain ⟨q25, hr26, hf⟩ := bnd_some hf
    refine g_getR (pc := 95) X fl_X12_19 (KMlt hk17 (by decide)) hk17 hr26 dX12_count_95 ?_
    refine g_bipush (v := (6 : Int32)) (pc := 98) X dX12_count_98 (by decide) ?_
    obtain ⟨hk27, hf⟩ := gp_some hf
    obtain ⟨hi28, hf⟩ := gp_some hf
    refine g_iald (pc := 100) X (KMlt hk27 (by decide)) hk27 hi28 dX12_count_100 ?_
    refine g_aload_n (pc := 101) X dX12_count_101 rfl 0 rfl ?_
    refine g_getR (pc := 102) X fl_X12_19 (KMlt hk17 (by decide)) hk17 hr26 dX12_count_102 ?_
    refine g_bipush (v := (7 : Int32)) (pc := 105) X dX12_count_105 (by decide) ?_
    obtain ⟨hi29, hf⟩ := gp_some hf
    refine g_iald (pc := 107) X (KMlt hk27 (by decide)) hk27 hi29 dX12_count_107 ?_
    refine g_imul (pc := 108) X dX12_count_108 ?_
    refine g_i2l (pc := 109) X dX12_count_109 ?_
    obtain ⟨rfl, rfl⟩ := som2 hf
    exact hret _ _ dX12_count_110
  have hf := itn hw30 hf
  by_cases hw35 : v1 = 2
  · have hf := itp hw35 hf
    refine g_tblIn (pc := 8) (tgt := 111) (off := 103) X dX12_count_8 (by rw [hw35]; decide) (by rw [hw35]; decide) (by rw [hw35]; rfl) (by decide) ?_
    refine g_aload_n (pc := 111) X dX12_count_111 rfl 0 rfl ?_
    obtain ⟨q31, hr32, hf⟩ := bnd_some hf
    refine g_getR (pc := 112) X fl_X12_19 (KMlt hk17 (by decide)) hk17 hr32 dX12_count_112 ?_
    refine g_iconst (v := (0 : Int32)) (pc := 115) X dX12_count_115 (by decide) ?_
    obtain ⟨hk33, hf⟩ := gp_some hf
    obtain ⟨hi34, hf⟩ := gp_some hf
    refine g_iald (pc := 116) X (KMlt hk33 (by decide)) hk33 hi34 dX12_count_116 ?_
    refine g_i2l (pc := 117) X dX12_count_117 ?_
    obtain ⟨rfl, rfl⟩ := som2 hf
    exact hret _ _ dX12_count_118
  have hf := itn hw35 hf
  by_cases hw38 : v1 = 3
  · have hf := itp hw38 hf
    refine g_tblIn (pc := 8) (tgt := 119) (off := 111) X dX12_count_8 (by rw [hw38]; decide) (by rw [hw38]; decide) (by rw [hw38]; rfl) (by decide) ?_
    refine g_iconst (v := (0 : Int32)) (pc := 119) X dX12_count_119 (by decide) ?_
    obtain ⟨v3_36, e37, hf⟩ := lt1_some hf
    refine g_topi e37 ?_
    refine g_istore_n (lv2 := [(0, .ref (ad v0)), (1, .int v1), (2, .int v2_20), (3, .int v3_36)]) (pc := 120) X dX12_count_120 rfl (by decide) [1, 2, 3, 0] rfl ?_
    refine g_lv [(0, .ref (ad v0)), (2, .int v2_20), (3, .int v3_36)] [0, 2, 3] rfl ?_
    exact hL121 _ _ _ _ hf
  have hf := itn hw38 hf
  by_cases hw43 : v1 = 4
  · have hf := itp hw43 hf
    refine g_tblIn (pc := 8) (tgt := 153) (off := 145) X dX12_count_8 (by rw [hw43]; decide) (by rw [hw43]; decide) (by rw [hw43]; rfl) (by decide) ?_
    refine g_aload_n (pc := 153) X dX12_count_153 rfl 0 rfl ?_
    obtain ⟨q39, hr40, hf⟩ := bnd_some hf
    refine g_getR (pc := 154) X fl_X12_19 (KMlt hk17 (by decide)) hk17 hr40 dX12_count_154 ?_
    refine g_iload_n (pc := 157) X dX12_count_157 rfl 1 rfl ?_
    refine g_iconst (v := (1 : Int32)) (pc := 158) X dX12_count_158 (by decide) ?_
    refine g_isub (pc := 159) X dX12_count_159 ?_
    obtain ⟨hk41, hf⟩ := gp_some hf
    obtain ⟨hi42, hf⟩ := gp_some hf
    refine g_iald (pc := 160) X (KMlt hk41 (by decide)) hk41 hi42 dX12_count_160 ?_
    refine g_i2l (pc := 161) X dX12_count_161 ?_
    obtain ⟨rfl, rfl⟩ := som2 hf
    exact hret _ _ dX12_count_162
  have hf := itn hw43 hf
  by_cases hw48 : v1 = 5
  · have hf := itp hw48 hf
    refine g_tblIn (pc := 8) (tgt := 153) (off := 145) X dX12_count_8 (by rw [hw48]; decide) (by rw [hw48]; decide) (by rw [hw48]; rfl) (by decide) ?_
    refine g_aload_n (pc := 153) X dX12_count_153 rfl 0 rfl ?_
    obtain ⟨q44, hr45, hf⟩ := bnd_some hf
    refine g_getR (pc := 154) X fl_X12_19 (KMlt hk17 (by decide)) hk17 hr45 dX12_count_154 ?_
    refine g_iload_n (pc := 157) X dX12_count_157 rfl 1 rfl ?_
    refine g_iconst (v := (1 : Int32)) (pc := 158) X dX12_count_158 (by decide) ?_
    refine g_isub (pc := 159) X dX12_count_159 ?_
    obtain ⟨hk46, hf⟩ := gp_some hf
    obtain ⟨hi47, hf⟩ := gp_some hf
    refine g_iald (pc := 160) X (KMlt hk46 (by decide)) hk46 hi47 dX12_count_160 ?_
    refine g_i2l (pc := 161) X dX12_count_161 ?_
    obtain ⟨rfl, rfl⟩ := som2 hf
    exact hret _ _ dX12_count_162
  have hf := itn hw48 hf
  by_cases hw53 : v1 = 6
  · have hf := itp hw53 hf
    refine g_tblIn (pc := 8) (tgt := 153) (off := 145) X dX12_count_8 (by rw [hw53]; decide) (by rw [hw53]; decide) (by rw [hw53]; rfl) (by decide) ?_
    refine g_aload_n (pc := 153) X dX12_count_153 rfl 0 rfl ?_
    obtain ⟨q49, hr50, hf⟩ := bnd_some hf
    refine g_getR (pc := 154) X fl_X12_19 (KMlt hk17 (by decide)) hk17 hr50 dX12_count_154 ?_
    refine g_iload_n (pc := 157) X dX12_count_157 rfl 1 rfl ?_
    refine g_iconst (v := (1 : Int32)) (pc := 158) X dX12_count_158 (by decide) ?_
    refine g_isub (pc := 159) X dX12_count_159 ?_
    obtain ⟨hk51, hf⟩ := gp_some hf
    obtain ⟨hi52, hf⟩ := gp_some hf
    refine g_iald (pc := 160) X (KMlt hk51 (by decide)) hk51 hi52 dX12_count_160 ?_
    refine g_i2l (pc := 161) X dX12_count_161 ?_
    obtain ⟨rfl, rfl⟩ := som2 hf
    exact hret _ _ dX12_count_162
  have hf := itn hw53 hf
  by_cases hw54 : v1 = 7
  · have hf := itp hw54 hf
    refine g_tblIn (pc := 8) (tgt := 163) (off := 155) X dX12_count_8 (by rw [hw54]; decide) (by rw [hw54]; decide) (by rw [hw54]; rfl) (by decide) ?_
    refine g_aload_n (pc := 163) X dX12_count_163 rfl 0 rfl ?_
    refine g_getI (pc := 164) X fl_X12_89 (KMlt hk17 (by decide)) hk17 dX12_count_164 ?_
    refine g_i2l (pc := 167) X dX12_count_167 ?_
    obtain ⟨rfl, rfl⟩ := som2 hf
    exact hret _ _ dX12_count_168
  have hf := itn hw54 hf
  by_cases hw57 : v1 = 8
  · have hf := itp hw57 hf
    refine g_tblIn (pc := 8) (tgt := 169) (off := 161) X dX12_count_8 (by rw [hw57]; decide) (by rw [hw57]; decide) (by rw [hw57]; rfl) (by decide) ?_
    refine g_aload_n (pc := 169) X dX12_count_169 rfl 0 rfl ?_
    obtain ⟨r56, hq55, hf⟩ := bnd_some hf
    refine g_callVI (pc := 170) (As := []) (rest := []) X mi_X12_allOdds im_X12_allOdds se_X12_allOdds (KMlt hk17 (by decide)) hk17 clX12 ml_X12_281 (cX12_allOdds_ct z ad v0 m18 r56 hq55) rfl rfl (Nat.le_of_ble_eq_true rfl) ⟨rfl, rfl, by decide, by decide, Nat.le_refl _, Nat.le_refl _⟩ dX12_count_170 ?_
    refine g_i2l (pc := 173) X dX12_count_173 ?_
    obtain ⟨rfl, rfl⟩ := som2 hf
    exact hret _ _ dX12_count_174
  have hf := itn hw57 hf
  have hsw : v1.toInt < 0 ∨ 8 < v1.toInt := by
    have nhw24 : ¬ v1.toInt = 0 := fun h => hw24 (Int32.toInt_inj.mp (by rw [h]; rfl))
    have nhw30 : ¬ v1.toInt = 1 := fun h => hw30 (Int32.toInt_inj.mp (by rw [h]; rfl))
    have nhw35 : ¬ v1.toInt = 2 := fun h => hw35 (Int32.toInt_inj.mp (by rw [h]; rfl))
    have nhw38 : ¬ v1.toInt = 3 := fun h => hw38 (Int32.toInt_inj.mp (by rw [h]; rfl))
    have nhw43 : ¬ v1.toInt = 4 := fun h => hw43 (Int32.toInt_inj.mp (by rw [h]; rfl))
    have nhw48 : ¬ v1.toInt = 5 := fun h => hw48 (Int32.toInt_inj.mp (by rw [h]; rfl))
    have nhw53 : ¬ v1.toInt = 6 := fun h => hw53 (Int32.toInt_inj.mp (by rw [h]; rfl))
    have nhw54 : ¬ v1.toInt = 7 := fun h => hw54 (Int32.toInt_inj.mp (by rw [h]; rfl))
    have nhw57 : ¬ v1.toInt = 8 := fun h => hw57 (Int32.toInt_inj.mp (by rw [h]; rfl))
    omega
  refine g_tblOut (pc := 8) (tgt := 175) X dX12_count_8 hsw (by decide) ?_
  refine g_ldc2 (pc := 175) X dX12_count_175 kl_X12_81 ?_
  obtain ⟨rfl, rfl⟩ := som2 hf
  exact hret _ _ dX12_count_178

noncomputable def fX12_status (v0 : Nat) (m : Mem) : Option (Int32 × Mem) := gp (KM v0 = 12) (lt1 (uI m v0 0 (0 : Int32)) (fun m2 => some (m2.1 v0 1, m2)))
set_option maxHeartbeats 4000000 in
set_option maxRecDepth 100000 in
theorem cX12_status_ct (z : Zx) (ad : Nat → Nat) (v0 : Nat) (m m2 : Mem) (r : Int32) (hf : fX12_status v0 m = some (r, m2)) : CtI z wM yX12_status cX12_status 1 (some .int) (Rm 2) ad 17 [.ref (ad v0)] m m2 r := by
  refine ct_ofI mi_X12_status rfl (Nat.le_of_ble_eq_true rfl) (fun x X hret => ?_)
  refine g_lv [(0, .ref (ad v0))] [0] rfl ?_
  unfold fX12_status at hf
  refine g_aload_n (pc := 0) X dX12_status_0 rfl 0 rfl ?_
  refine g_iconst (v := (0 : Int32)) (pc := 1) X dX12_status_1 (by decide) ?_
  obtain ⟨hk1, hf⟩ := gp_some hf
  refine g_putI (pc := 2) X fl_X12_60 (KMlt hk1 (by decide)) hk1 rfl rfl dX12_status_2 ?_
  obtain ⟨m2, e3, hf⟩ := lt1_some hf
  refine g_mem e3 ?_
  refine g_aload_n (pc := 5) X dX12_status_5 rfl 0 rfl ?_
  refine g_getI (pc := 6) X fl_X12_64 (KMlt hk1 (by decide)) hk1 dX12_status_6 ?_
  obtain ⟨rfl, rfl⟩ := som2 hf
  exact hret _ _ rfl dX12_status_9

