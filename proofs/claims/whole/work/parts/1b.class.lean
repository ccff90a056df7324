noncomputable def fX8_isName_28b (v0 : Nat) (v1 : Nat) (v2 : Int32) (m : Mem) : Option ((Int32) ⊕ (Unit ⊕ Unit)) := gp (v1 < 24) (if (Int32.ofNat (lenS.getD v1 0)) ≤ v2 then (some (.inr (.inr ()))) else (gp (KC v0 = 8) (bnd (m.2.2 v0 0) (fun q3 => gp (KC q3 = 7) (bnd (m.2.2 q3 0) (fun q6 => gp (KC q6 = 13) (gp (inb ((m.1 v0 2) + v2) (NC q6) = true) (gp (v1 < 24) (gp (inb v2 (lenS.getD v1 0) = true) (if (m.1 q6 ((m.1 v0 2) + v2).toNatClampNeg) = ((bytS.getD v1 []).getD v2.toNatClampNeg 0) then (lt1 (v2 + 1) (fun v2_12 => some (.inl (v2_12)))) else (some (.inr (.inl ())))))))))))))
noncomputable def fX8_isName_28 (v0 : Nat) (v1 : Nat) (v2 : Int32) (m : Mem) : Option Int32 := bnd (iter (fun s => fX8_isName_28b v0 v1 s m) FU (v2)) (Sum.elim (fun e => some (0 : Int32)) (fun e => some (1 : Int32)))
noncomputable def fX8_isName (v0 : Nat) (v1 : Nat) (m : Mem) : Option Int32 := gp (KC v0 = 8) (if (m.1 v0 3) = (1 : Int32) then (gp (v1 < 24) (if ((m.1 v0 1) - (m.1 v0 2)) = (Int32.ofNat (lenS.getD v1 0)) then (lt1 ((0 : Int32)) (fun v2_16 => fX8_isName_28 v0 v1 v2_16 m)) else (some (0 : Int32)))) else (some (0 : Int32)))
set_option maxHeartbeats 4000000 in
set_option maxRecDepth 100000 in
theorem cX8_isName_ct (z : Zx) (ad : Nat → Nat) (v0 : Nat) (v1 : Nat) (m : Mem) (r : Int32) (hf : fX8_isName v0 v1 m = some r) : CtI z wC yX8_isName cX8_isName 3 (some .boolean) (Rm 7) ad 91 [.ref (ad v0), .ref (z.2.2.2.1 v1)] m m r := by
  refine ct_ofI mi_X8_isName rfl (Nat.le_of_ble_eq_true rfl) (fun x X hret => ?_)
  refine g_lv [(0, .ref (ad v0)), (1, .ref (z.2.2.2.1 v1))] [0, 1] rfl ?_
  have hL28 : ∀ (v0 : Nat) (v1 : Nat) (v2 : Int32), fX8_isName_28 v0 v1 v2 m = some r → G z wC x 3 0 0 ad 91 m 28 [(0, .ref (ad v0)), (1, .ref (z.2.2.2.1 v1)), (2, .int v2)] [] := by
    intro v0 v1 v2 hf
    unfold fX8_isName_28 at hf
    obtain ⟨e28, hit28, hrest28⟩ := bnd_some hf
    refine iter_ok (Hd := fun (s : (Int32)) => G z wC x 3 0 0 ad 91 m 28 [(0, .ref (ad v0)), (1, .ref (z.2.2.2.1 v1)), (2, .int s)] []) ?_ FU (v2) hit28
    intro v2 ob28 hf hs28 he28
    have hf : fX8_isName_28b v0 v1 v2 m = some ob28 := hf
    unfold fX8_isName_28b at hf
    refine g_iload_n (pc := 28) X dX8_isName_28 rfl 2 rfl ?_
    refine g_aload_n (pc := 29) X dX8_isName_29 rfl 1 rfl ?_
    obtain ⟨hs1, hf⟩ := gp_some hf
    refine g_strlen_8 (pc := 30) X hs1 (by decide) (Nat.le_of_ble_eq_true rfl) dX8_isName_30 ?_
    refine g_icmp_ge (pc := 33) (tgt := 66) X dX8_isName_33 (by decide) (fun hc => ?_) (fun hc => ?_)
    · have hf := itp hc hf
      have he28 := he28 _ (Option.some.inj hf).symm
      subst he28
      have hf : some (1 : Int32) = some r := hrest28
      refine g_iconst (v := (1 : Int32)) (pc := 66) X dX8_isName_66 (by decide) ?_
      obtain rfl := Option.some.inj hf
      exact hret _ _ (by decide) dX8_isName_67
    · have hf := itn hc hf
      refine g_aload_n (pc := 36) X dX8_isName_36 rfl 0 rfl ?_
      obtain ⟨hk2, hf⟩ := gp_some hf
      obtain ⟨q3, hr4, hf⟩ := bnd_some hf
      refine g_getR (pc := 37) X fl_X8_7 (KClt hk2 (by decide)) hk2 hr4 dX8_isName_37 ?_
      obtain ⟨hk5, hf⟩ := gp_some hf
      obtain ⟨q6, hr7, hf⟩ := bnd_some hf
      refine g_getR (pc := 40) X fl_X8_28 (KClt hk5 (by decide)) hk5 hr7 dX8_isName_40 ?_
      refine g_aload_n (pc := 43) X dX8_isName_43 rfl 0 rfl ?_
      refine g_getI (pc := 44) X fl_X8_20 (KClt hk2 (by decide)) hk2 dX8_isName_44 ?_
      refine g_iload_n (pc := 47) X dX8_isName_47 rfl 2 rfl ?_
      refine g_iadd (pc := 48) X dX8_isName_48 ?_
      obtain ⟨hk8, hf⟩ := gp_some hf
      obtain ⟨hi9, hf⟩ := gp_some hf
      refine g_bald (pc := 49) X (KClt hk8 (by decide)) hk8 hi9 dX8_isName_49 ?_
      refine g_aload_n (pc := 50) X dX8_isName_50 rfl 1 rfl ?_
      refine g_iload_n (pc := 51) X dX8_isName_51 rfl 2 rfl ?_
      obtain ⟨hs10, hf⟩ := gp_some hf
      obtain ⟨hi11, hf⟩ := gp_some hf
      refine g_strch_8 (pc := 52) X hs10 hi11 (by decide) (Nat.le_of_ble_eq_true rfl) dX8_isName_52 ?_
      refine g_icmp_eq (pc := 55) (tgt := 60) X dX8_isName_55 (by decide) (fun hc => ?_) (fun hc => ?_)
      · have hf := itp hc hf
        obtain ⟨v2_12, e13, hf⟩ := lt1_some hf
        refine g_iinc (v2 := v2_12) (lv2 := [(0, .ref (ad v0)), (1, .ref (z.2.2.2.1 v1)), (2, .int v2_12)]) (pc := 60) X dX8_isName_60 2 rfl (by rw [e13]; rfl) (by decide) [1, 2, 0] rfl ?_
        refine g_goto (pc := 63) (tgt := 28) X dX8_isName_63 (by decide) ?_
        exact hs28 (v2_12) (Option.some.inj hf).symm
      · have hf := itn hc hf
        have he28 := he28 _ (Option.some.inj hf).symm
        subst he28
        have hf : some (0 : Int32) = some r := hrest28
        refine g_iconst (v := (0 : Int32)) (pc := 58) X dX8_isName_58 (by decide) ?_
        obtain rfl := Option.some.inj hf
        exact hret _ _ (by decide) dX8_isName_59
  unfold fX8_isName at hf
  refine g_aload_n (pc := 0) X dX8_isName_0 rfl 0 rfl ?_
  obtain ⟨hk14, hf⟩ := gp_some hf
  refine g_getI (pc := 1) X fl_X8_36 (KClt hk14 (by decide)) hk14 dX8_isName_1 ?_
  refine g_iconst (v := (1 : Int32)) (pc := 4) X dX8_isName_4 (by decide) ?_
  refine g_icmp_ne (pc := 5) (tgt := 24) X dX8_isName_5 (by decide) (fun hc => ?_) (fun hc => ?_)
  · have hf := itn hc hf
    refine g_iconst (v := (0 : Int32)) (pc := 24) X dX8_isName_24 (by decide) ?_
    obtain rfl := Option.some.inj hf
    exact hret _ _ (by decide) dX8_isName_25
  · have hf := itp hc hf
    refine g_aload_n (pc := 8) X dX8_isName_8 rfl 0 rfl ?_
    refine g_getI (pc := 9) X fl_X8_13 (KClt hk14 (by decide)) hk14 dX8_isName_9 ?_
    refine g_aload_n (pc := 12) X dX8_isName_12 rfl 0 rfl ?_
    refine g_getI (pc := 13) X fl_X8_20 (KClt hk14 (by decide)) hk14 dX8_isName_13 ?_
    refine g_isub (pc := 16) X dX8_isName_16 ?_
    refine g_aload_n (pc := 17) X dX8_isName_17 rfl 1 rfl ?_
    obtain ⟨hs15, hf⟩ := gp_some hf
    refine g_strlen_8 (pc := 18) X hs15 (by decide) (Nat.le_of_ble_eq_true rfl) dX8_isName_18 ?_
    refine g_icmp_eq (pc := 21) (tgt := 26) X dX8_isName_21 (by decide) (fun hc => ?_) (fun hc => ?_)
    · have hf := itp hc hf
      refine g_iconst (v := (0 : Int32)) (pc := 26) X dX8_isName_26 (by decide) ?_
      obtain ⟨v2_16, e17, hf⟩ := lt1_some hf
      refine g_topi e17 ?_
      refine g_istore_n (lv2 := [(0, .ref (ad v0)), (1, .ref (z.2.2.2.1 v1)), (2, .int v2_16)]) (pc := 27) X dX8_isName_27 rfl (by decide) [1, 2, 0] rfl ?_
      exact hL28 _ _ _ hf
    · have hf := itn hc hf
      refine g_iconst (v := (0 : Int32)) (pc := 24) X dX8_isName_24 (by decide) ?_
      obtain rfl := Option.some.inj hf
      exact hret _ _ (by decide) dX8_isName_25

noncomputable def fX5_fail (v0 : Nat) (v1 : Int32) (m : Mem) : Option Mem := gp (KC v0 = 5) (if (m.1 v0 1) = 0 then (lt1 (uI m v0 1 v1) (fun m2 => bnd (m2.2.2 v0 0) (fun q4 => gp (KC q4 = 8) (lt1 (uI m2 v0 2 (m2.1 q4 2)) (fun m7 => some m7))))) else (some m))
set_option maxHeartbeats 4000000 in
set_option maxRecDepth 100000 in
theorem cX5_fail_ct (z : Zx) (ad : Nat → Nat) (v0 : Nat) (v1 : Int32) (m m2 : Mem) (hf : fX5_fail v0 v1 m = some m2) : CtV z wC yX5_fail cX5_fail 2 none (Rm 2) ad 91 [.ref (ad v0), .int v1] m m2 := by
  refine ct_ofV mi_X5_fail rfl (Nat.le_of_ble_eq_true rfl) (fun x X hret => ?_)
  refine g_lv [(0, .ref (ad v0)), (1, .int v1)] [0, 1] rfl ?_
  unfold fX5_fail at hf
  refine g_aload_n (pc := 0) X dX5_fail_0 rfl 0 rfl ?_
  obtain ⟨hk1, hf⟩ := gp_some hf
  refine g_getI (pc := 1) X fl_X5_20 (KClt hk1 (by decide)) hk1 dX5_fail_1 ?_
  refine g_if_ne (pc := 4) (tgt := 23) X dX5_fail_4 (by decide) (fun hc => ?_) (fun hc => ?_)
  · have hf := itn hc hf
    obtain rfl := Option.some.inj hf
    exact hret _ _ dX5_fail_23
  · have hf := itp hc hf
    refine g_aload_n (pc := 7) X dX5_fail_7 rfl 0 rfl ?_
    refine g_iload_n (pc := 8) X dX5_fail_8 rfl 1 rfl ?_
    refine g_putI (pc := 9) X fl_X5_20 (KClt hk1 (by decide)) hk1 rfl rfl dX5_fail_9 ?_
    obtain ⟨m2, e3, hf⟩ := lt1_some hf
    refine g_mem e3 ?_
    refine g_aload_n (pc := 12) X dX5_fail_12 rfl 0 rfl ?_
    refine g_aload_n (pc := 13) X dX5_fail_13 rfl 0 rfl ?_
    obtain ⟨q4, hr5, hf⟩ := bnd_some hf
    refine g_getR (pc := 14) X fl_X5_14 (KClt hk1 (by decide)) hk1 hr5 dX5_fail_14 ?_
    obtain ⟨hk6, hf⟩ := gp_some hf
    refine g_getI (pc := 17) X fl_X5_195 (KClt hk6 (by decide)) hk6 dX5_fail_17 ?_
    refine g_putI (pc := 20) X fl_X5_24 (KClt hk1 (by decide)) hk1 rfl rfl dX5_fail_20 ?_
    obtain ⟨m7, e8, hf⟩ := lt1_some hf
    refine g_mem e8 ?_
    obtain rfl := Option.some.inj hf
    exact hret _ _ dX5_fail_23

noncomputable def fX5_takeWord (v0 : Nat) (v1 : Nat) (m : Mem) : Option Mem := gp (KC v0 = 5) (bnd (m.2.2 v0 0) (fun q2 => gp (KC q2 = 8) (bnd (fX8_isName q2 v1 m) (fun r5 => if r5 = 0 then (bnd (fX5_fail v0 (1 : Int32) m) (fun m8 => some m8)) else (bnd (fX8_advance q2 m) (fun m10 => some m10))))))
set_option maxHeartbeats 4000000 in
set_option maxRecDepth 100000 in
theorem cX5_takeWord_ct (z : Zx) (ad : Nat → Nat) (v0 : Nat) (v1 : Nat) (m m2 : Mem) (hf : fX5_takeWord v0 v1 m = some m2) : CtV z wC yX5_takeWord cX5_takeWord 2 none (Rm 8) ad 91 [.ref (ad v0), .ref (z.2.2.2.1 v1)] m m2 := by
  refine ct_ofV mi_X5_takeWord rfl (Nat.le_of_ble_eq_true rfl) (fun x X hret => ?_)
  refine g_lv [(0, .ref (ad v0)), (1, .ref (z.2.2.2.1 v1))] [0, 1] rfl ?_
  unfold fX5_takeWord at hf
  refine g_aload_n (pc := 0) X dX5_takeWord_0 rfl 0 rfl ?_
  obtain ⟨hk1, hf⟩ := gp_some hf
  obtain ⟨q2, hr3, hf⟩ := bnd_some hf
  refine g_getR (pc := 1) X fl_X5_14 (KClt hk1 (by decide)) hk1 hr3 dX5_takeWord_1 ?_
  refine g_aload_n (pc := 4) X dX5_takeWord_4 rfl 1 rfl ?_
  obtain ⟨hk6, hf⟩ := gp_some hf
  obtain ⟨r5, hq4, hf⟩ := bnd_some hf
  refine g_callVI (pc := 5) (As := [.ref (z.2.2.2.1 v1)]) (rest := []) X mi_X8_isName im_X8_isName se_X8_isName (KClt hk6 (by decide)) hk6 clX8 ml_X5_108 (cX8_isName_ct z ad q2 v1 m r5 hq4) rfl rfl (Nat.le_of_ble_eq_true rfl) ⟨rfl, rfl, by decide, by decide, Nat.le_refl _, Nat.le_refl _⟩ dX5_takeWord_5 ?_
  refine g_if_eq (pc := 8) (tgt := 21) X dX5_takeWord_8 (by decide) (fun hc => ?_) (fun hc => ?_)
  · have hf := itp hc hf
    refine g_aload_n (pc := 21) X dX5_takeWord_21 rfl 0 rfl ?_
    refine g_iconst (v := (1 : Int32)) (pc := 22) X dX5_takeWord_22 (by decide) ?_
    obtain ⟨m8, hq7, hf⟩ := bnd_some hf
    refine g_callVV (pc := 23) (As := [.int (1 : Int32)]) (rest := []) X mi_X5_fail im_X5_fail se_X5_fail (KClt hk1 (by decide)) hk1 clX5 ml_X5_79 (cX5_fail_ct z ad v0 (1 : Int32) m m8 hq7) rfl rfl (Nat.le_of_ble_eq_true rfl) ⟨rfl, rfl, by decide, by decide, Nat.le_refl _, Nat.le_refl _⟩ dX5_takeWord_23 ?_
    obtain rfl := Option.some.inj hf
    exact hret _ _ dX5_takeWord_26
  · have hf := itn hc hf
    refine g_aload_n (pc := 11) X dX5_takeWord_11 rfl 0 rfl ?_
    refine g_getR (pc := 12) X fl_X5_14 (KClt hk1 (by decide)) hk1 hr3 dX5_takeWord_12 ?_
    obtain ⟨m10, hq9, hf⟩ := bnd_some hf
    refine g_callVV (pc := 15) (As := []) (rest := []) X mi_X8_advance im_X8_advance se_X8_advance (KClt hk6 (by decide)) hk6 clX8 ml_X5_171 (cX8_advance_ct z ad q2 m m10 hq9) rfl rfl (Nat.le_of_ble_eq_true rfl) ⟨rfl, rfl, by decide, by decide, Nat.le_refl _, Nat.le_refl _⟩ dX5_takeWord_15 ?_
    refine g_goto (pc := 18) (tgt := 26) X dX5_takeWord_18 (by decide) ?_
    obtain rfl := Option.some.inj hf
    exact hret _ _ dX5_takeWord_26

noncomputable def fX5_takeNumber_39 (v0 : Nat) (v1 : Int32) (m : Mem) : Option (Int32 × Mem) := gp (KC v0 = 5) (if (m.1 v0 1) = 0 then (bnd (m.2.2 v0 0) (fun q2 => gp (KC q2 = 8) (lt1 (m.1 q2 4) (fun v3_5 => bnd (fX8_advance q2 m) (fun m8 => some (v3_5, m8)))))) else (some (v1, m)))
noncomputable def fX5_takeNumber (v0 : Nat) (v1 : Int32) (v2 : Int32) (m : Mem) : Option (Int32 × Mem) := gp (KC v0 = 5) (bnd (m.2.2 v0 0) (fun q10 => gp (KC q10 = 8) (if (m.1 q10 3) = (2 : Int32) then (bnd (fX11_isWithin (m.1 q10 4) v1 v2) (fun r14 => if r14 = 0 then (bnd (fX5_fail v0 (2 : Int32) m) (fun m16 => fX5_takeNumber_39 v0 v1 m16)) else (fX5_takeNumber_39 v0 v1 m))) else (bnd (fX5_fail v0 (1 : Int32) m) (fun m18 => fX5_takeNumber_39 v0 v1 m18)))))
set_option maxHeartbeats 4000000 in
set_option maxRecDepth 100000 in
theorem cX5_takeNumber_ct (z : Zx) (ad : Nat → Nat) (v0 : Nat) (v1 : Int32) (v2 : Int32) (m m2 : Mem) (r : Int32) (hf : fX5_takeNumber v0 v1 v2 m = some (r, m2)) : CtI z wC yX5_takeNumber cX5_takeNumber 4 (some .int) (Rm 5) ad 91 [.ref (ad v0), .int v1, .int v2] m m2 r := by
  refine ct_ofI mi_X5_takeNumber rfl (Nat.le_of_ble_eq_true rfl) (fun x X hret => ?_)
  refine g_lv [(0, .ref (ad v0)), (1, .int v1), (2, .int v2)] [0, 1, 2] rfl ?_
  have hL39 : ∀ (v0 : Nat) (v1 : Int32) (m : Mem), fX5_takeNumber_39 v0 v1 m = some (r, m2) → G z wC x 4 0 0 ad 91 m 39 [(0, .ref (ad v0)), (1, .int v1)] [] := by
    intro v0 v1 m hf
    unfold fX5_takeNumber_39 at hf
    refine g_aload_n (pc := 39) X dX5_takeNumber_39 rfl 0 rfl ?_
    obtain ⟨hk1, hf⟩ := gp_some hf
    refine g_getI (pc := 40) X fl_X5_20 (KClt hk1 (by decide)) hk1 dX5_takeNumber_40 ?_
    refine g_if_eq (pc := 43) (tgt := 48) X dX5_takeNumber_43 (by decide) (fun hc => ?_) (fun hc => ?_)
    · have hf := itp hc hf
      refine g_aload_n (pc := 48) X dX5_takeNumber_48 rfl 0 rfl ?_
      obtain ⟨q2, hr3, hf⟩ := bnd_some hf
      refine g_getR (pc := 49) X fl_X5_14 (KClt hk1 (by decide)) hk1 hr3 dX5_takeNumber_49 ?_
      obtain ⟨hk4, hf⟩ := gp_some hf
      refine g_getI (pc := 52) X fl_X5_181 (KClt hk4 (by decide)) hk4 dX5_takeNumber_52 ?_
      obtain ⟨v3_5, e6, hf⟩ := lt1_some hf
      refine g_topi e6 ?_
      refine g_istore_n (lv2 := [(0, .ref (ad v0)), (1, .int v1), (3, .int v3_5)]) (pc := 55) X dX5_takeNumber_55 rfl (by decide) [1, 2, 0] rfl ?_
      refine g_aload_n (pc := 56) X dX5_takeNumber_56 rfl 0 rfl ?_
      refine g_getR (pc := 57) X fl_X5_14 (KClt hk1 (by decide)) hk1 hr3 dX5_takeNumber_57 ?_
      obtain ⟨m8, hq7, hf⟩ := bnd_some hf
      refine g_callVV (pc := 60) (As := []) (rest := []) X mi_X8_advance im_X8_advance se_X8_advance (KClt hk4 (by decide)) hk4 clX8 ml_X5_171 (cX8_advance_ct z ad q2 m m8 hq7) rfl rfl (Nat.le_of_ble_eq_true rfl) ⟨rfl, rfl, by decide, by decide, Nat.le_refl _, Nat.le_refl _⟩ dX5_takeNumber_60 ?_
      refine g_iload_n (pc := 63) X dX5_takeNumber_63 rfl 2 rfl ?_
      obtain ⟨rfl, rfl⟩ := som2 hf
      exact hret _ _ rfl dX5_takeNumber_64
    · have hf := itn hc hf
      refine g_iload_n (pc := 46) X dX5_takeNumber_46 rfl 1 rfl ?_
      obtain ⟨rfl, rfl⟩ := som2 hf
      exact hret _ _ rfl dX5_takeNumber_47
  unfold fX5_takeNumber at hf
  refine g_aload_n (pc := 0) X dX5_takeNumber_0 rfl 0 rfl ?_
  obtain ⟨hk9, hf⟩ := gp_some hf
  obtain ⟨q10, hr11, hf⟩ := bnd_some hf
  refine g_getR (pc := 1) X fl_X5_14 (KClt hk9 (by decide)) hk9 hr11 dX5_takeNumber_1 ?_
  obtain ⟨hk12, hf⟩ := gp_some hf
  refine g_getI (pc := 4) X fl_X5_76 (KClt hk12 (by decide)) hk12 dX5_takeNumber_4 ?_
  refine g_iconst (v := (2 : Int32)) (pc := 7) X dX5_takeNumber_7 (by decide) ?_
  refine g_icmp_eq (pc := 8) (tgt := 19) X dX5_takeNumber_8 (by decide) (fun hc => ?_) (fun hc => ?_)
  · have hf := itp hc hf
    refine g_aload_n (pc := 19) X dX5_takeNumber_19 rfl 0 rfl ?_
    refine g_getR (pc := 20) X fl_X5_14 (KClt hk9 (by decide)) hk9 hr11 dX5_takeNumber_20 ?_
    refine g_getI (pc := 23) X fl_X5_181 (KClt hk12 (by decide)) hk12 dX5_takeNumber_23 ?_
    refine g_iload_n (pc := 26) X dX5_takeNumber_26 rfl 1 rfl ?_
    refine g_iload_n (pc := 27) X dX5_takeNumber_27 rfl 2 rfl ?_
    obtain ⟨r14, hq13, hf⟩ := bnd_some hf
    refine g_callSNI (pc := 28) (As := [.int (m.1 q10 4), .int v1, .int v2]) (rest := []) (q := 9) X mi_X11_isWithin sm_X11_isWithin rfl (cX11_isWithin_ct z ad (m.1 q10 4) v1 v2 m r14 hq13) rfl rfl (Nat.le_of_ble_eq_true rfl) ⟨rfl, rfl, by decide, by decide, Nat.le_refl _, Nat.le_refl _⟩ dX5_takeNumber_28 ?_
    refine g_if_ne (pc := 31) (tgt := 39) X dX5_takeNumber_31 (by decide) (fun hc => ?_) (fun hc => ?_)
    · have hf := itn hc hf
      refine g_lv [(0, .ref (ad v0)), (1, .int v1)] [0, 1] rfl ?_
      exact hL39 _ _ _ hf
    · have hf := itp hc hf
      refine g_aload_n (pc := 34) X dX5_takeNumber_34 rfl 0 rfl ?_
      refine g_iconst (v := (2 : Int32)) (pc := 35) X dX5_takeNumber_35 (by decide) ?_
      obtain ⟨m16, hq15, hf⟩ := bnd_some hf
      refine g_callVV (pc := 36) (As := [.int (2 : Int32)]) (rest := []) X mi_X5_fail im_X5_fail se_X5_fail (KClt hk9 (by decide)) hk9 clX5 ml_X5_79 (cX5_fail_ct z ad v0 (2 : Int32) m m16 hq15) rfl rfl (Nat.le_of_ble_eq_true rfl) ⟨rfl, rfl, by decide, by decide, Nat.le_refl _, Nat.le_refl _⟩ dX5_takeNumber_36 ?_
      refine g_lv [(0, .ref (ad v0)), (1, .int v1)] [0, 1] rfl ?_
      exact hL39 _ _ _ hf
  · have hf := itn hc hf
    refine g_aload_n (pc := 11) X dX5_takeNumber_11 rfl 0 rfl ?_
    refine g_iconst (v := (1 : Int32)) (pc := 12) X dX5_takeNumber_12 (by decide) ?_
    obtain ⟨m18, hq17, hf⟩ := bnd_some hf
    refine g_callVV (pc := 13) (As := [.int (1 : Int32)]) (rest := []) X mi_X5_fail im_X5_fail se_X5_fail (KClt hk9 (by decide)) hk9 clX5 ml_X5_79 (cX5_fail_ct z ad v0 (1 : Int32) m m18 hq17) rfl rfl (Nat.le_of_ble_eq_true rfl) ⟨rfl, rfl, by decide, by decide, Nat.le_refl _, Nat.le_refl _⟩ dX5_takeNumber_13 ?_
    refine g_goto (pc := 16) (tgt := 39) X dX5_takeNumber_16 (by decide) ?_
    refine g_lv [(0, .ref (ad v0)), (1, .int v1)] [0, 1] rfl ?_
    exact hL39 _ _ _ hf

noncomputable def fX5_takeEnd (v0 : Nat) (m : Mem) : Option Mem := gp (KC v0 = 5) (bnd (m.2.2 v0 0) (fun q2 => gp (KC q2 = 8) (if (m.1 q2 3) = (3 : Int32) then (bnd (fX8_advance q2 m) (fun m8 => some m8)) else (bnd (fX5_fail v0 (1 : Int32) m) (fun m6 => some m6)))))
set_option maxHeartbeats 4000000 in
set_option maxRecDepth 100000 in
theorem cX5_takeEnd_ct (z : Zx) (ad : Nat → Nat) (v0 : Nat) (m m2 : Mem) (hf : fX5_takeEnd v0 m = some m2) : CtV z wC yX5_takeEnd cX5_takeEnd 1 none (Rm 5) ad 91 [.ref (ad v0)] m m2 := by
  refine ct_ofV mi_X5_takeEnd rfl (Nat.le_of_ble_eq_true rfl) (fun x X hret => ?_)
  refine g_lv [(0, .ref (ad v0))] [0] rfl ?_
  unfold fX5_takeEnd at hf
  refine g_aload_n (pc := 0) X dX5_takeEnd_0 rfl 0 rfl ?_
  obtain ⟨hk1, hf⟩ := gp_some hf
  obtain ⟨q2, hr3, hf⟩ := bnd_some hf
  refine g_getR (pc := 1) X fl_X5_14 (KClt hk1 (by decide)) hk1 hr3 dX5_takeEnd_1 ?_
  obtain ⟨hk4, hf⟩ := gp_some hf
  refine g_getI (pc := 4) X fl_X5_76 (KClt hk4 (by decide)) hk4 dX5_takeEnd_4 ?_
  refine g_iconst (v := (3 : Int32)) (pc := 7) X dX5_takeEnd_7 (by decide) ?_
  refine g_icmp_ne (pc := 8) (tgt := 21) X dX5_takeEnd_8 (by decide) (fun hc => ?_) (fun hc => ?_)
  · have hf := itn hc hf
    refine g_aload_n (pc := 21) X dX5_takeEnd_21 rfl 0 rfl ?_
    refine g_iconst (v := (1 : Int32)) (pc := 22) X dX5_takeEnd_22 (by decide) ?_
    obtain ⟨m6, hq5, hf⟩ := bnd_some hf
    refine g_callVV (pc := 23) (As := [.int (1 : Int32)]) (rest := []) X mi_X5_fail im_X5_fail se_X5_fail (KClt hk1 (by decide)) hk1 clX5 ml_X5_79 (cX5_fail_ct z ad v0 (1 : Int32) m m6 hq5) rfl rfl (Nat.le_of_ble_eq_true rfl) ⟨rfl, rfl, by decide, by decide, Nat.le_refl _, Nat.le_refl _⟩ dX5_takeEnd_23 ?_
    obtain rfl := Option.some.inj hf
    exact hret _ _ dX5_takeEnd_26
  · have hf := itp hc hf
    refine g_aload_n (pc := 11) X dX5_takeEnd_11 rfl 0 rfl ?_
    refine g_getR (pc := 12) X fl_X5_14 (KClt hk1 (by decide)) hk1 hr3 dX5_takeEnd_12 ?_
    obtain ⟨m8, hq7, hf⟩ := bnd_some hf
    refine g_callVV (pc := 15) (As := []) (rest := []) X mi_X8_advance im_X8_advance se_X8_advance (KClt hk4 (by decide)) hk4 clX8 ml_X5_171 (cX8_advance_ct z ad q2 m m8 hq7) rfl rfl (Nat.le_of_ble_eq_true rfl) ⟨rfl, rfl, by decide, by decide, Nat.le_refl _, Nat.le_refl _⟩ dX5_takeEnd_15 ?_
    refine g_goto (pc := 18) (tgt := 26) X dX5_takeEnd_18 (by decide) ?_
    obtain rfl := Option.some.inj hf
    exact hret _ _ dX5_takeEnd_26

noncomputable def fX9_measure (v0 : Nat) (v1 : Int32) (v2 : Int32) (m : Mem) : Option Mem := gp (KC v0 = 9) (lt1 (uI m v0 3 v1) (fun m2 => lt1 (uI m2 v0 4 v2) (fun m4 => some m4)))
set_option maxHeartbeats 4000000 in
set_option maxRecDepth 100000 in
theorem cX9_measure_ct (z : Zx) (ad : Nat → Nat) (v0 : Nat) (v1 : Int32) (v2 : Int32) (m m2 : Mem) (hf : fX9_measure v0 v1 v2 m = some m2) : CtV z wC yX9_measure cX9_measure 3 none (Rm 2) ad 91 [.ref (ad v0), .int v1, .int v2] m m2 := by
  refine ct_ofV mi_X9_measure rfl (Nat.le_of_ble_eq_true rfl) (fun x X hret => ?_)
  refine g_lv [(0, .ref (ad v0)), (1, .int v1), (2, .int v2)] [0, 1, 2] rfl ?_
  unfold fX9_measure at hf
  refine g_aload_n (pc := 0) X dX9_measure_0 rfl 0 rfl ?_
  refine g_iload_n (pc := 1) X dX9_measure_1 rfl 1 rfl ?_
  obtain ⟨hk1, hf⟩ := gp_some hf
  refine g_putI (pc := 2) X fl_X9_21 (KClt hk1 (by decide)) hk1 rfl rfl dX9_measure_2 ?_
  obtain ⟨m2, e3, hf⟩ := lt1_some hf
  refine g_mem e3 ?_
  refine g_aload_n (pc := 5) X dX9_measure_5 rfl 0 rfl ?_
  refine g_iload_n (pc := 6) X dX9_measure_6 rfl 2 rfl ?_
  refine g_putI (pc := 7) X fl_X9_25 (KClt hk1 (by decide)) hk1 rfl rfl dX9_measure_7 ?_
  obtain ⟨m4, e5, hf⟩ := lt1_some hf
  refine g_mem e5 ?_
  obtain rfl := Option.some.inj hf
  exact hret _ _ dX9_measure_10

noncomputable def fX5_readSize (v0 : Nat) (v1 : Nat) (m : Mem) : Option Mem := gp (KC v0 = 5) (bnd (fX5_takeWord v0 0 m) (fun m2 => bnd2 (fX5_takeNumber v0 (1 : Int32) (16 : Int32) m2) (fun r5 m6 => bnd2 (fX5_takeNumber v0 (1 : Int32) (8 : Int32) m6) (fun r8 m9 => bnd (fX5_takeEnd v0 m9) (fun m11 => gp (KC v1 = 9) (bnd (fX9_measure v1 r5 r8 m11) (fun m13 => some m13)))))))
set_option maxHeartbeats 4000000 in
set_option maxRecDepth 100000 in
theorem cX5_readSize_ct (z : Zx) (ad : Nat → Nat) (v0 : Nat) (v1 : Nat) (m m2 : Mem) (hf : fX5_readSize v0 v1 m = some m2) : CtV z wC yX5_readSize cX5_readSize 4 none (Rm 9) ad 91 [.ref (ad v0), .ref (ad v1)] m m2 := by
  refine ct_ofV mi_X5_readSize rfl (Nat.le_of_ble_eq_true rfl) (fun x X hret => ?_)
  refine g_lv [(0, .ref (ad v0)), (1, .ref (ad v1))] [0, 1] rfl ?_
  unfold fX5_readSize at hf
  refine g_aload_n (pc := 0) X dX5_readSize_0 rfl 0 rfl ?_
  refine g_ldcS (pc := 1) (i := 0) X rfl dX5_readSize_1 ?_
  obtain ⟨hk3, hf⟩ := gp_some hf
  obtain ⟨m2, hq1, hf⟩ := bnd_some hf
  refine g_callVV (pc := 3) (As := [.ref (z.2.2.2.1 0)]) (rest := []) X mi_X5_takeWord im_X5_takeWord se_X5_takeWord (KClt hk3 (by decide)) hk3 clX5 ml_X5_89 (cX5_takeWord_ct z ad v0 0 m m2 hq1) rfl rfl (Nat.le_of_ble_eq_true rfl) ⟨rfl, rfl, by decide, by decide, Nat.le_refl _, Nat.le_refl _⟩ dX5_readSize_3 ?_
  refine g_aload_n (pc := 6) X dX5_readSize_6 rfl 0 rfl ?_
  refine g_iconst (v := (1 : Int32)) (pc := 7) X dX5_readSize_7 (by decide) ?_
  refine g_bipush (v := (16 : Int32)) (pc := 8) X dX5_readSize_8 (by decide) ?_
  obtain ⟨r5, m6, hq4, hf⟩ := bnd2_some hf
  refine g_callVI (pc := 10) (As := [.int (1 : Int32), .int (16 : Int32)]) (rest := []) X mi_X5_takeNumber im_X5_takeNumber se_X5_takeNumber (KClt hk3 (by decide)) hk3 clX5 ml_X5_93 (cX5_takeNumber_ct z ad v0 (1 : Int32) (16 : Int32) m2 m6 r5 hq4) rfl rfl (Nat.le_of_ble_eq_true rfl) ⟨rfl, rfl, by decide, by decide, Nat.le_refl _, Nat.le_refl _⟩ dX5_readSize_10 ?_
  refine g_istore_n (lv2 := [(0, .ref (ad v0)), (1, .ref (ad v1)), (2, .int r5)]) (pc := 13) X dX5_readSize_13 rfl (by decide) [1, 2, 0] rfl ?_
  refine g_aload_n (pc := 14) X dX5_readSize_14 rfl 0 rfl ?_
  refine g_iconst (v := (1 : Int32)) (pc := 15) X dX5_readSize_15 (by decide) ?_
  refine g_bipush (v := (8 : Int32)) (pc := 16) X dX5_readSize_16 (by decide) ?_
  obtain ⟨r8, m9, hq7, hf⟩ := bnd2_some hf
  refine g_callVI (pc := 18) (As := [.int (1 : Int32), .int (8 : Int32)]) (rest := []) X mi_X5_takeNumber im_X5_takeNumber se_X5_takeNumber (KClt hk3 (by decide)) hk3 clX5 ml_X5_93 (cX5_takeNumber_ct z ad v0 (1 : Int32) (8 : Int32) m6 m9 r8 hq7) rfl rfl (Nat.le_of_ble_eq_true rfl) ⟨rfl, rfl, by decide, by decide, Nat.le_refl _, Nat.le_refl _⟩ dX5_readSize_18 ?_
  refine g_istore_n (lv2 := [(0, .ref (ad v0)), (1, .ref (ad v1)), (2, .int r5), (3, .int r8)]) (pc := 21) X dX5_readSize_21 rfl (by decide) [1, 2, 3, 0] rfl ?_
  refine g_aload_n (pc := 22) X dX5_readSize_22 rfl 0 rfl ?_
  obtain ⟨m11, hq10, hf⟩ := bnd_some hf
  refine g_callVV (pc := 23) (As := []) (rest := []) X mi_X5_takeEnd im_X5_takeEnd se_X5_takeEnd (KClt hk3 (by decide)) hk3 clX5 ml_X5_97 (cX5_takeEnd_ct z ad v0 m9 m11 hq10) rfl rfl (Nat.le_of_ble_eq_true rfl) ⟨rfl, rfl, by decide, by decide, Nat.le_refl _, Nat.le_refl _⟩ dX5_readSize_23 ?_
  refine g_aload_n (pc := 26) X dX5_readSize_26 rfl 1 rfl ?_
  refine g_iload_n (pc := 27) X dX5_readSize_27 rfl 2 rfl ?_
  refine g_iload_n (pc := 28) X dX5_readSize_28 rfl 3 rfl ?_
  obtain ⟨hk14, hf⟩ := gp_some hf
  obtain ⟨m13, hq12, hf⟩ := bnd_some hf
  refine g_callVV (pc := 29) (As := [.int r5, .int r8]) (rest := []) X mi_X9_measure im_X9_measure se_X9_measure (KClt hk14 (by decide)) hk14 clX9 ml_X5_100 (cX9_measure_ct z ad v1 r5 r8 m11 m13 hq12) rfl rfl (Nat.le_of_ble_eq_true rfl) ⟨rfl, rfl, by decide, by decide, Nat.le_refl _, Nat.le_refl _⟩ dX5_readSize_29 ?_
  obtain rfl := Option.some.inj hf
  exact hret _ _ dX5_readSize_32

noncomputable def fX5_begins (v0 : Nat) (v1 : Nat) (v2 : Int32) (v3 : Int32) (m : Mem) : Option (Int32 × Mem) := gp (KC v0 = 5) (if (m.1 v0 1) = 0 then (bnd (m.2.2 v0 0) (fun q2 => gp (KC q2 = 8) (bnd (fX8_isName q2 v1 m) (fun r5 => if r5 = 0 then (some ((0 : Int32), m)) else (if v2 < v3 then (bnd (fX8_advance q2 m) (fun m8 => some ((1 : Int32), m8))) else (bnd (fX5_fail v0 (3 : Int32) m) (fun m10 => some ((0 : Int32), m10)))))))) else (some ((0 : Int32), m)))
set_option maxHeartbeats 4000000 in
set_option maxRecDepth 100000 in
theorem cX5_begins_ct (z : Zx) (ad : Nat → Nat) (v0 : Nat) (v1 : Nat) (v2 : Int32) (v3 : Int32) (m m2 : Mem) (r : Int32) (hf : fX5_begins v0 v1 v2 v3 m = some (r, m2)) : CtI z wC yX5_begins cX5_begins 4 (some .boolean) (Rm 8) ad 91 [.ref (ad v0), .ref (z.2.2.2.1 v1), .int v2, .int v3] m m2 r := by
  refine ct_ofI mi_X5_begins rfl (Nat.le_of_ble_eq_true rfl) (fun x X hret => ?_)
  refine g_lv [(0, .ref (ad v0)), (1, .ref (z.2.2.2.1 v1)), (2, .int v2), (3, .int v3)] [0, 1, 2, 3] rfl ?_
  unfold fX5_begins at hf
  refine g_aload_n (pc := 0) X dX5_begins_0 rfl 0 rfl ?_
  obtain ⟨hk1, hf⟩ := gp_some hf
  refine g_getI (pc := 1) X fl_X5_20 (KClt hk1 (by decide)) hk1 dX5_begins_1 ?_
  refine g_if_ne (pc := 4) (tgt := 18) X dX5_begins_4 (by decide) (fun hc => ?_) (fun hc => ?_)
  · have hf := itn hc hf
    refine g_iconst (v := (0 : Int32)) (pc := 18) X dX5_begins_18 (by decide) ?_
    obtain ⟨rfl, rfl⟩ := som2 hf
    exact hret _ _ (by decide) dX5_begins_19
  · have hf := itp hc hf
    refine g_aload_n (pc := 7) X dX5_begins_7 rfl 0 rfl ?_
    obtain ⟨q2, hr3, hf⟩ := bnd_some hf
    refine g_getR (pc := 8) X fl_X5_14 (KClt hk1 (by decide)) hk1 hr3 dX5_begins_8 ?_
    refine g_aload_n (pc := 11) X dX5_begins_11 rfl 1 rfl ?_
    obtain ⟨hk6, hf⟩ := gp_some hf
    obtain ⟨r5, hq4, hf⟩ := bnd_some hf
    refine g_callVI (pc := 12) (As := [.ref (z.2.2.2.1 v1)]) (rest := []) X mi_X8_isName im_X8_isName se_X8_isName (KClt hk6 (by decide)) hk6 clX8 ml_X5_108 (cX8_isName_ct z ad q2 v1 m r5 hq4) rfl rfl (Nat.le_of_ble_eq_true rfl) ⟨rfl, rfl, by decide, by decide, Nat.le_refl _, Nat.le_refl _⟩ dX5_begins_12 ?_
    refine g_if_ne (pc := 15) (tgt := 20) X dX5_begins_15 (by decide) (fun hc => ?_) (fun hc => ?_)
    · have hf := itn hc hf
      refine g_iload_n (pc := 20) X dX5_begins_20 rfl 2 rfl ?_
      refine g_iload_n (pc := 21) X dX5_begins_21 rfl 3 rfl ?_
      refine g_icmp_lt (pc := 22) (tgt := 32) X dX5_begins_22 (by decide) (fun hc => ?_) (fun hc => ?_)
      · have hf := itp hc hf
        refine g_aload_n (pc := 32) X dX5_begins_32 rfl 0 rfl ?_
        refine g_getR (pc := 33) X fl_X5_14 (KClt hk1 (by decide)) hk1 hr3 dX5_begins_33 ?_
        obtain ⟨m8, hq7, hf⟩ := bnd_some hf
        refine g_callVV (pc := 36) (As := []) (rest := []) X mi_X8_advance im_X8_advance se_X8_advance (KClt hk6 (by decide)) hk6 clX8 ml_X5_171 (cX8_advance_ct z ad q2 m m8 hq7) rfl rfl (Nat.le_of_ble_eq_true rfl) ⟨rfl, rfl, by decide, by decide, Nat.le_refl _, Nat.le_refl _⟩ dX5_begins_36 ?_
        refine g_iconst (v := (1 : Int32)) (pc := 39) X dX5_begins_39 (by decide) ?_
        obtain ⟨rfl, rfl⟩ := som2 hf
        exact hret _ _ (by decide) dX5_begins_40
      · have hf := itn hc hf
        refine g_aload_n (pc := 25) X dX5_begins_25 rfl 0 rfl ?_
        refine g_iconst (v := (3 : Int32)) (pc := 26) X dX5_begins_26 (by decide) ?_
        obtain ⟨m10, hq9, hf⟩ := bnd_some hf
        refine g_callVV (pc := 27) (As := [.int (3 : Int32)]) (rest := []) X mi_X5_fail im_X5_fail se_X5_fail (KClt hk1 (by decide)) hk1 clX5 ml_X5_79 (cX5_fail_ct z ad v0 (3 : Int32) m m10 hq9) rfl rfl (Nat.le_of_ble_eq_true rfl) ⟨rfl, rfl, by decide, by decide, Nat.le_refl _, Nat.le_refl _⟩ dX5_begins_27 ?_
        refine g_iconst (v := (0 : Int32)) (pc := 30) X dX5_begins_30 (by decide) ?_
        obtain ⟨rfl, rfl⟩ := som2 hf
        exact hret _ _ (by decide) dX5_begins_31
    · have hf := itp hc hf
      refine g_iconst (v := (0 : Int32)) (pc := 18) X dX5_begins_18 (by decide) ?_
      obtain ⟨rfl, rfl⟩ := som2 hf
      exact hret _ _ (by decide) dX5_begins_19

noncomputable def fX5_wayName (v0 : Int32) : Option Nat := if v0 = 0 then (some 2) else if v0 = 1 then (some 3) else if v0 = 2 then (some 4) else if v0 = 3 then (some 5) else if v0 = 4 then (some 6) else if v0 = 5 then (some 7) else if v0 = 6 then (some 8) else some 9
set_option maxHeartbeats 4000000 in
set_option maxRecDepth 100000 in
theorem cX5_wayName_ct (z : Zx) (ad : Nat → Nat) (v0 : Int32) (m : Mem) (r : Nat) (hf : fX5_wayName v0 = some r) : CtS z wC yX5_wayName cX5_wayName 1 (some (.object "java/lang/String")) (Rm 2) ad 91 [.int v0] m m (z.2.2.2.1 r) := by
  refine ct_ofS mi_X5_wayName rfl (Nat.le_of_ble_eq_true rfl) (fun x X hret => ?_)
  refine g_lv [(0, .int v0)] [0] rfl ?_
  unfold fX5_wayName at hf
  refine g_iload_n (pc := 0) X dX5_wayName_0 rfl 0 rfl ?_
  by_cases hw1 : v0 = 0
  · have hf := itp hw1 hf
    refine g_tblIn (pc := 1) (tgt := 44) (off := 43) X dX5_wayName_1 (by rw [hw1]; decide) (by rw [hw1]; decide) (by rw [hw1]; rfl) (by decide) ?_
    refine g_ldcS (pc := 44) (i := 2) X rfl dX5_wayName_44 ?_
    obtain rfl := Option.some.inj hf
    exact hret _ _ dX5_wayName_46
  have hf := itn hw1 hf
  by_cases hw2 : v0 = 1
  · have hf := itp hw2 hf
    refine g_tblIn (pc := 1) (tgt := 47) (off := 46) X dX5_wayName_1 (by rw [hw2]; decide) (by rw [hw2]; decide) (by rw [hw2]; rfl) (by decide) ?_
    refine g_ldcS (pc := 47) (i := 3) X rfl dX5_wayName_47 ?_
    obtain rfl := Option.some.inj hf
    exact hret _ _ dX5_wayName_49
  have hf := itn hw2 hf
  by_cases hw3 : v0 = 2
  · have hf := itp hw3 hf
    refine g_tblIn (pc := 1) (tgt := 50) (off := 49) X dX5_wayName_1 (by rw [hw3]; decide) (by rw [hw3]; decide) (by rw [hw3]; rfl) (by decide) ?_
    refine g_ldcS (pc := 50) (i := 4) X rfl dX5_wayName_50 ?_
    obtain rfl := Option.some.inj hf
    exact hret _ _ dX5_wayName_52
  have hf := itn hw3 hf
  by_cases hw4 : v0 = 3
  · have hf := itp hw4 hf
    refine g_tblIn (pc := 1) (tgt := 53) (off := 52) X dX5_wayName_1 (by rw [hw4]; decide) (by rw [hw4]; decide) (by rw [hw4]; rfl) (by decide) ?_
    refine g_ldcS (pc := 53) (i := 5) X rfl dX5_wayName_53 ?_
    obtain rfl := Option.some.inj hf
    exact hret _ _ dX5_wayName_55
  have hf := itn hw4 hf
  by_cases hw5 : v0 = 4
  · have hf := itp hw5 hf
    refine g_tblIn (pc := 1) (tgt := 56) (off := 55) X dX5_wayName_1 (by rw [hw5]; decide) (by rw [hw5]; decide) (by rw [hw5]; rfl) (by decide) ?_
    refine g_ldcS (pc := 56) (i := 6) X rfl dX5_wayName_56 ?_
    obtain rfl := Option.some.inj hf
    exact hret _ _ dX5_wayName_58
  have hf := itn hw5 hf
  by_cases hw6 : v0 = 5
  · have hf := itp hw6 hf
    refine g_tblIn (pc := 1) (tgt := 59) (off := 58) X dX5_wayName_1 (by rw [hw6]; decide) (by rw [hw6]; decide) (by rw [hw6]; rfl) (by decide) ?_
    refine g_ldcS (pc := 59) (i := 7) X rfl dX5_wayName_59 ?_
    obtain rfl := Option.some.inj hf
    exact hret _ _ dX5_wayName_61
  have hf := itn hw6 hf
  by_cases hw7 : v0 = 6
  · have hf := itp hw7 hf
    refine g_tblIn (pc := 1) (tgt := 62) (off := 61) X dX5_wayName_1 (by rw [hw7]; decide) (by rw [hw7]; decide) (by rw [hw7]; rfl) (by decide) ?_
    refine g_ldcS (pc := 62) (i := 8) X rfl dX5_wayName_62 ?_
    obtain rfl := Option.some.inj hf
    exact hret _ _ dX5_wayName_64
  have hf := itn hw7 hf
  have hsw : v0.toInt < 0 ∨ 6 < v0.toInt := by
    have nhw1 : ¬ v0.toInt = 0 := fun h => hw1 (Int32.toInt_inj.mp (by rw [h]; rfl))
    have nhw2 : ¬ v0.toInt = 1 := fun h => hw2 (Int32.toInt_inj.mp (by rw [h]; rfl))
    have nhw3 : ¬ v0.toInt = 2 := fun h => hw3 (Int32.toInt_inj.mp (by rw [h]; rfl))
    have nhw4 : ¬ v0.toInt = 3 := fun h => hw4 (Int32.toInt_inj.mp (by rw [h]; rfl))
    have nhw5 : ¬ v0.toInt = 4 := fun h => hw5 (Int32.toInt_inj.mp (by rw [h]; rfl))
    have nhw6 : ¬ v0.toInt = 5 := fun h => hw6 (Int32.toInt_inj.mp (by rw [h]; rfl))
    have nhw7 : ¬ v0.toInt = 6 := fun h => hw7 (Int32.toInt_inj.mp (by rw [h]; rfl))
    omega
  refine g_tblOut (pc := 1) (tgt := 65) X dX5_wayName_1 hsw (by decide) ?_
  refine g_ldcS (pc := 65) (i := 9) X rfl dX5_wayName_65 ?_
  obtain rfl := Option.some.inj hf
  exact hret _ _ dX5_wayName_67

noncomputable def fX5_takeWay_37 (v0 : Nat) (m : Mem) : Option (Int32 × Mem) := gp (KC v0 = 5) (bnd (fX5_fail v0 (1 : Int32) m) (fun m2 => some ((0 : Int32), m2)))
noncomputable def fX5_takeWay_22 (v0 : Nat) (v1 : Int32) (m : Mem) : Option (Int32 × Mem) := gp (KC v0 = 5) (bnd (m.2.2 v0 0) (fun q5 => gp (KC q5 = 8) (bnd (fX8_advance q5 m) (fun m8 => some (v1, m8)))))
noncomputable def fX5_takeWay_2b (v0 : Nat) (v1 : Int32) (m : Mem) : Option ((Int32) ⊕ ((Int32) ⊕ Unit)) := if (8 : Int32) ≤ v1 then (some (.inr (.inr ()))) else (gp (KC v0 = 5) (bnd (m.2.2 v0 0) (fun q11 => bnd (fX5_wayName v1) (fun r14 => gp (KC q11 = 8) (bnd (fX8_isName q11 r14 m) (fun r16 => if r16 = 0 then (lt1 (v1 + 1) (fun v1_18 => some (.inl (v1_18)))) else (some (.inr (.inl (v1))))))))))
noncomputable def fX5_takeWay_2 (v0 : Nat) (v1 : Int32) (m : Mem) : Option (Int32 × Mem) := bnd (iter (fun s => fX5_takeWay_2b v0 s m) FU (v1)) (Sum.elim (fun e => fX5_takeWay_22 v0 e m) (fun e => fX5_takeWay_37 v0 m))
noncomputable def fX5_takeWay (v0 : Nat) (m : Mem) : Option (Int32 × Mem) := lt1 ((0 : Int32)) (fun v1_20 => fX5_takeWay_2 v0 v1_20 m)
set_option maxHeartbeats 4000000 in
set_option maxRecDepth 100000 in
theorem cX5_takeWay_ct (z : Zx) (ad : Nat → Nat) (v0 : Nat) (m m2 : Mem) (r : Int32) (hf : fX5_takeWay v0 m = some (r, m2)) : CtI z wC yX5_takeWay cX5_takeWay 2 (some .int) (Rm 8) ad 91 [.ref (ad v0)] m m2 r := by
  refine ct_ofI mi_X5_takeWay rfl (Nat.le_of_ble_eq_true rfl) (fun x X hret => ?_)
  refine g_lv [(0, .ref (ad v0))] [0] rfl ?_
  have hL37 : ∀ (v0 : Nat) (m : Mem), fX5_takeWay_37 v0 m = some (r, m2) → G z wC x 2 0 0 ad 91 m 37 [(0, .ref (ad v0))] [] := by
    intro v0 m hf
    unfold fX5_takeWay_37 at hf
    refine g_aload_n (pc := 37) X dX5_takeWay_37 rfl 0 rfl ?_
    refine g_iconst (v := (1 : Int32)) (pc := 38) X dX5_takeWay_38 (by decide) ?_
    obtain ⟨hk3, hf⟩ := gp_some hf
    obtain ⟨m2, hq1, hf⟩ := bnd_some hf
    refine g_callVV (pc := 39) (As := [.int (1 : Int32)]) (rest := []) X mi_X5_fail im_X5_fail se_X5_fail (KClt hk3 (by decide)) hk3 clX5 ml_X5_79 (cX5_fail_ct z ad v0 (1 : Int32) m m2 hq1) rfl rfl (Nat.le_of_ble_eq_true rfl) ⟨rfl, rfl, by decide, by decide, Nat.le_refl _, Nat.le_refl _⟩ dX5_takeWay_39 ?_
    refine g_iconst (v := (0 : Int32)) (pc := 42) X dX5_takeWay_42 (by decide) ?_
    obtain ⟨rfl, rfl⟩ := som2 hf
    exact hret _ _ rfl dX5_takeWay_43
  have hL22 : ∀ (v0 : Nat) (v1 : Int32) (m : Mem), fX5_takeWay_22 v0 v1 m = some (r, m2) → G z wC x 2 0 0 ad 91 m 22 [(0, .ref (ad v0)), (1, .int v1)] [] := by
    intro v0 v1 m hf
    unfold fX5_takeWay_22 at hf
    refine g_aload_n (pc := 22) X dX5_takeWay_22 rfl 0 rfl ?_
    obtain ⟨hk4, hf⟩ := gp_some hf
    obtain ⟨q5, hr6, hf⟩ := bnd_some hf
    refine g_getR (pc := 23) X fl_X5_14 (KClt hk4 (by decide)) hk4 hr6 dX5_takeWay_23 ?_
    obtain ⟨hk9, hf⟩ := gp_some hf
    obtain ⟨m8, hq7, hf⟩ := bnd_some hf
    refine g_callVV (pc := 26) (As := []) (rest := []) X mi_X8_advance im_X8_advance se_X8_advance (KClt hk9 (by decide)) hk9 clX8 ml_X5_171 (cX8_advance_ct z ad q5 m m8 hq7) rfl rfl (Nat.le_of_ble_eq_true rfl) ⟨rfl, rfl, by decide, by decide, Nat.le_refl _, Nat.le_refl _⟩ dX5_takeWay_26 ?_
    refine g_iload_n (pc := 29) X dX5_takeWay_29 rfl 1 rfl ?_
    obtain ⟨rfl, rfl⟩ := som2 hf
    exact hret _ _ rfl dX5_takeWay_30
  have hL2 : ∀ (v0 : Nat) (v1 : Int32) (m : Mem), fX5_takeWay_2 v0 v1 m = some (r, m2) → G z wC x 2 0 0 ad 91 m 2 [(0, .ref (ad v0)), (1, .int v1)] [] := by
    intro v0 v1 m hf
    unfold fX5_takeWay_2 at hf
    obtain ⟨e2, hit2, hrest2⟩ := bnd_some hf
    refine iter_ok (Hd := fun (s : (Int32)) => G z wC x 2 0 0 ad 91 m 2 [(0, .ref (ad v0)), (1, .int s)] []) ?_ FU (v1) hit2
    intro v1 ob2 hf hs2 he2
    have hf : fX5_takeWay_2b v0 v1 m = some ob2 := hf
    unfold fX5_takeWay_2b at hf
    refine g_iload_n (pc := 2) X dX5_takeWay_2 rfl 1 rfl ?_
    refine g_bipush (v := (8 : Int32)) (pc := 3) X dX5_takeWay_3 (by decide) ?_
    refine g_icmp_ge (pc := 5) (tgt := 37) X dX5_takeWay_5 (by decide) (fun hc => ?_) (fun hc => ?_)
    · have hf := itp hc hf
      have he2 := he2 _ (Option.some.inj hf).symm
      subst he2
      have hf : fX5_takeWay_37 v0 m = some (r, m2) := hrest2
      refine g_lv [(0, .ref (ad v0))] [0] rfl ?_
      exact hL37 _ _ hf
    · have hf := itn hc hf
      refine g_aload_n (pc := 8) X dX5_takeWay_8 rfl 0 rfl ?_
      obtain ⟨hk10, hf⟩ := gp_some hf
      obtain ⟨q11, hr12, hf⟩ := bnd_some hf
      refine g_getR (pc := 9) X fl_X5_14 (KClt hk10 (by decide)) hk10 hr12 dX5_takeWay_9 ?_
      refine g_iload_n (pc := 12) X dX5_takeWay_12 rfl 1 rfl ?_
      obtain ⟨r14, hq13, hf⟩ := bnd_some hf
      refine g_callSS (pc := 13) (As := [.int v1]) (rest := [.ref (ad q11)]) X mi_X5_wayName sm_X5_wayName ml_X5_188 (cX5_wayName_ct z ad v1 m r14 hq13) rfl rfl (Nat.le_of_ble_eq_true rfl) ⟨rfl, rfl, by decide, by decide, Nat.le_refl _, Nat.le_refl _⟩ dX5_takeWay_13 ?_
      obtain ⟨hk17, hf⟩ := gp_some hf
      obtain ⟨r16, hq15, hf⟩ := bnd_some hf
      refine g_callVI (pc := 16) (As := [.ref (z.2.2.2.1 r14)]) (rest := []) X mi_X8_isName im_X8_isName se_X8_isName (KClt hk17 (by decide)) hk17 clX8 ml_X5_108 (cX8_isName_ct z ad q11 r14 m r16 hq15) rfl rfl (Nat.le_of_ble_eq_true rfl) ⟨rfl, rfl, by decide, by decide, Nat.le_refl _, Nat.le_refl _⟩ dX5_takeWay_16 ?_
      refine g_if_eq (pc := 19) (tgt := 31) X dX5_takeWay_19 (by decide) (fun hc => ?_) (fun hc => ?_)
      · have hf := itp hc hf
        obtain ⟨v1_18, e19, hf⟩ := lt1_some hf
        refine g_iinc (v2 := v1_18) (lv2 := [(0, .ref (ad v0)), (1, .int v1_18)]) (pc := 31) X dX5_takeWay_31 1 rfl (by rw [e19]; rfl) (by decide) [1, 0] rfl ?_
        refine g_goto (pc := 34) (tgt := 2) X dX5_takeWay_34 (by decide) ?_
        exact hs2 (v1_18) (Option.some.inj hf).symm
      · have hf := itn hc hf
        have he2 := he2 _ (Option.some.inj hf).symm
        subst he2
        have hf : fX5_takeWay_22 v0 v1 m = some (r, m2) := hrest2
        exact hL22 _ _ _ hf
  unfold fX5_takeWay at hf
  refine g_iconst (v := (0 : Int32)) (pc := 0) X dX5_takeWay_0 (by decide) ?_
  obtain ⟨v1_20, e21, hf⟩ := lt1_some hf
  refine g_topi e21 ?_
  refine g_istore_n (lv2 := [(0, .ref (ad v0)), (1, .int v1_20)]) (pc := 1) X dX5_takeWay_1 rfl (by decide) [1, 0] rfl ?_
  exact hL2 _ _ _ hf

noncomputable def fX9_addWind (v0 : Nat) (v1 : Int32) (v2 : Int32) (m : Mem) : Option Mem := gp (KC v0 = 9) (if (4 : Int32) ≤ (m.1 v0 5) then (some m) else (bnd (m.2.2 v0 1) (fun q2 => gp (KC q2 = 14) (gp (inb (m.1 v0 5) (NC q2) = true) (lt1 (uI m q2 (m.1 v0 5).toNatClampNeg v1) (fun m6 => bnd (m6.2.2 v0 2) (fun q8 => gp (KC q8 = 14) (gp (inb (m6.1 v0 5) (NC q8) = true) (lt1 (uI m6 q8 (m6.1 v0 5).toNatClampNeg v2) (fun m12 => lt1 (uI m12 v0 5 ((m12.1 v0 5) + (1 : Int32))) (fun m14 => lt1 (uI m14 v0 6 ((m14.1 v0 6) + v2)) (fun m16 => some m16))))))))))))
set_option maxHeartbeats 4000000 in
set_option maxRecDepth 100000 in
theorem cX9_addWind_ct (z : Zx) (ad : Nat → Nat) (v0 : Nat) (v1 : Int32) (v2 : Int32) (m m2 : Mem) (hf : fX9_addWind v0 v1 v2 m = some m2) : CtV z wC yX9_addWind cX9_addWind 3 none (Rm 2) ad 91 [.ref (ad v0), .int v1, .int v2] m m2 := by
  refine ct_ofV mi_X9_addWind rfl (Nat.le_of_ble_eq_true rfl) (fun x X hret => ?_)
  refine g_lv [(0, .ref (ad v0)), (1, .int v1), (2, .int v2)] [0, 1, 2] rfl ?_
  unfold fX9_addWind at hf
  refine g_aload_n (pc := 0) X dX9_addWind_0 rfl 0 rfl ?_
  obtain ⟨hk1, hf⟩ := gp_some hf
  refine g_getI (pc := 1) X fl_X9_28 (KClt hk1 (by decide)) hk1 dX9_addWind_1 ?_
  refine g_iconst (v := (4 : Int32)) (pc := 4) X dX9_addWind_4 (by decide) ?_
  refine g_icmp_ge (pc := 5) (tgt := 48) X dX9_addWind_5 (by decide) (fun hc => ?_) (fun hc => ?_)
  · have hf := itp hc hf
    obtain rfl := Option.some.inj hf
    exact hret _ _ dX9_addWind_48
  · have hf := itn hc hf
    refine g_aload_n (pc := 8) X dX9_addWind_8 rfl 0 rfl ?_
    obtain ⟨q2, hr3, hf⟩ := bnd_some hf
    refine g_getR (pc := 9) X fl_X9_15 (KClt hk1 (by decide)) hk1 hr3 dX9_addWind_9 ?_
    refine g_aload_n (pc := 12) X dX9_addWind_12 rfl 0 rfl ?_
    refine g_getI (pc := 13) X fl_X9_28 (KClt hk1 (by decide)) hk1 dX9_addWind_13 ?_
    refine g_iload_n (pc := 16) X dX9_addWind_16 rfl 1 rfl ?_
    obtain ⟨hk4, hf⟩ := gp_some hf
    obtain ⟨hi5, hf⟩ := gp_some hf
    refine g_iast (pc := 17) X (KClt hk4 (by decide)) hk4 hi5 dX9_addWind_17 ?_
    obtain ⟨m6, e7, hf⟩ := lt1_some hf
    refine g_mem e7 ?_
    refine g_aload_n (pc := 18) X dX9_addWind_18 rfl 0 rfl ?_
    obtain ⟨q8, hr9, hf⟩ := bnd_some hf
    refine g_getR (pc := 19) X fl_X9_18 (KClt hk1 (by decide)) hk1 hr9 dX9_addWind_19 ?_
    refine g_aload_n (pc := 22) X dX9_addWind_22 rfl 0 rfl ?_
    refine g_getI (pc := 23) X fl_X9_28 (KClt hk1 (by decide)) hk1 dX9_addWind_23 ?_
    refine g_iload_n (pc := 26) X dX9_addWind_26 rfl 2 rfl ?_
    obtain ⟨hk10, hf⟩ := gp_some hf
    obtain ⟨hi11, hf⟩ := gp_some hf
    refine g_iast (pc := 27) X (KClt hk10 (by decide)) hk10 hi11 dX9_addWind_27 ?_
    obtain ⟨m12, e13, hf⟩ := lt1_some hf
    refine g_mem e13 ?_
    refine g_aload_n (pc := 28) X dX9_addWind_28 rfl 0 rfl ?_
    refine g_dup (pc := 29) X dX9_addWind_29 rfl ?_
    refine g_getI (pc := 30) X fl_X9_28 (KClt hk1 (by decide)) hk1 dX9_addWind_30 ?_
    refine g_iconst (v := (1 : Int32)) (pc := 33) X dX9_addWind_33 (by decide) ?_
    refine g_iadd (pc := 34) X dX9_addWind_34 ?_
    refine g_putI (pc := 35) X fl_X9_28 (KClt hk1 (by decide)) hk1 rfl rfl dX9_addWind_35 ?_
    obtain ⟨m14, e15, hf⟩ := lt1_some hf
    refine g_mem e15 ?_
    refine g_aload_n (pc := 38) X dX9_addWind_38 rfl 0 rfl ?_
    refine g_dup (pc := 39) X dX9_addWind_39 rfl ?_
    refine g_getI (pc := 40) X fl_X9_31 (KClt hk1 (by decide)) hk1 dX9_addWind_40 ?_
    refine g_iload_n (pc := 43) X dX9_addWind_43 rfl 2 rfl ?_
    refine g_iadd (pc := 44) X dX9_addWind_44 ?_
    refine g_putI (pc := 45) X fl_X9_31 (KClt hk1 (by decide)) hk1 rfl rfl dX9_addWind_45 ?_
    obtain ⟨m16, e17, hf⟩ := lt1_some hf
    refine g_mem e17 ?_
    obtain rfl := Option.some.inj hf
    exact hret _ _ dX9_addWind_48

noncomputable def fX5_readWinds_19b (v0 : Nat) (v1 : Nat) (v2 : Int32) (m : Mem) : Option ((Int32 × Mem) ⊕ (Mem)) := if (4 : Int32) < v2 then (some (.inr (m))) else (gp (KC v0 = 5) (bnd2 (fX5_begins v0 1 v2 (4 : Int32) m) (fun r2 m3 => if r2 = 0 then (some (.inr (m3))) else (bnd2 (fX5_takeWay v0 m3) (fun r6 m7 => bnd2 (fX5_takeNumber v0 (1 : Int32) (9 : Int32) m7) (fun r9 m10 => bnd (fX5_takeEnd v0 m10) (fun m12 => gp (KC v1 = 9) (bnd (fX9_addWind v1 r6 r9 m12) (fun m14 => lt1 (v2 + 1) (fun v2_16 => some (.inl (v2_16, m14))))))))))))
noncomputable def fX5_readWinds_19 (v0 : Nat) (v1 : Nat) (v2 : Int32) (m : Mem) : Option Mem := bnd (iter (fun s => fX5_readWinds_19b v0 v1 s.1 s.2) FU (v2, m)) (fun e => some e)
noncomputable def fX5_readWinds_17 (v0 : Nat) (v1 : Nat) (m : Mem) : Option Mem := lt1 ((0 : Int32)) (fun v2_18 => fX5_readWinds_19 v0 v1 v2_18 m)
noncomputable def fX5_readWinds (v0 : Nat) (v1 : Nat) (m : Mem) : Option Mem := gp (KC v0 = 5) (bnd (m.2.2 v0 0) (fun q21 => gp (KC q21 = 8) (bnd (fX8_isName q21 1 m) (fun r24 => if r24 = 0 then (bnd (fX5_fail v0 (1 : Int32) m) (fun m27 => fX5_readWinds_17 v0 v1 m27)) else (fX5_readWinds_17 v0 v1 m)))))
set_option maxHeartbeats 4000000 in
set_option maxRecDepth 100000 in
theorem cX5_readWinds_ct (z : Zx) (ad : Nat → Nat) (v0 : Nat) (v1 : Nat) (m m2 : Mem) (hf : fX5_readWinds v0 v1 m = some m2) : CtV z wC yX5_readWinds cX5_readWinds 5 none (Rm 9) ad 91 [.ref (ad v0), .ref (ad v1)] m m2 := by
  refine ct_ofV mi_X5_readWinds rfl (Nat.le_of_ble_eq_true rfl) (fun x X hret => ?_)
  refine g_lv [(0, .ref (ad v0)), (1, .ref (ad v1))] [0, 1] rfl ?_
  have hL19 : ∀ (v0 : Nat) (v1 : Nat) (v2 : Int32) (m : Mem), fX5_readWinds_19 v0 v1 v2 m = some m2 → G z wC x 5 0 0 ad 91 m 19 [(0, .ref (ad v0)), (1, .ref (ad v1)), (2, .int v2)] [] := by
    intro v0 v1 v2 m hf
    unfold fX5_readWinds_19 at hf
    obtain ⟨e19, hit19, hrest19⟩ := bnd_some hf
    refine iter_ok (Hd := fun (s : (Int32 × Mem)) => G z wC x 5 0 0 ad 91 s.2 19 [(0, .ref (ad v0)), (1, .ref (ad v1)), (2, .int s.1)] []) ?_ FU (v2, m) hit19
    intro s ob19 hf hs19 he19
    obtain ⟨v2, m⟩ := s
    have hf : fX5_readWinds_19b v0 v1 v2 m = some ob19 := hf
    unfold fX5_readWinds_19b at hf
    refine g_iload_n (pc := 19) X dX5_readWinds_19 rfl 2 rfl ?_
    refine g_iconst (v := (4 : Int32)) (pc := 20) X dX5_readWinds_20 (by decide) ?_
    refine g_icmp_gt (pc := 21) (tgt := 66) X dX5_readWinds_21 (by decide) (fun hc => ?_) (fun hc => ?_)
    · have hf := itp hc hf
      have he19 := he19 _ (Option.some.inj hf).symm
      subst he19
      have hf : some m = some m2 := hrest19
      obtain rfl := Option.some.inj hf
      exact hret _ _ dX5_readWinds_66
    · have hf := itn hc hf
      refine g_aload_n (pc := 24) X dX5_readWinds_24 rfl 0 rfl ?_
      refine g_ldcS (pc := 25) (i := 1) X rfl dX5_readWinds_25 ?_
      refine g_iload_n (pc := 27) X dX5_readWinds_27 rfl 2 rfl ?_
      refine g_iconst (v := (4 : Int32)) (pc := 28) X dX5_readWinds_28 (by decide) ?_
      obtain ⟨hk4, hf⟩ := gp_some hf
      obtain ⟨r2, m3, hq1, hf⟩ := bnd2_some hf
      refine g_callVI (pc := 29) (As := [.ref (z.2.2.2.1 1), .int v2, .int (4 : Int32)]) (rest := []) X mi_X5_begins im_X5_begins se_X5_begins (KClt hk4 (by decide)) hk4 clX5 ml_X5_112 (cX5_begins_ct z ad v0 1 v2 (4 : Int32) m m3 r2 hq1) rfl rfl (Nat.le_of_ble_eq_true rfl) ⟨rfl, rfl, by decide, by decide, Nat.le_refl _, Nat.le_refl _⟩ dX5_readWinds_29 ?_
      refine g_if_eq (pc := 32) (tgt := 66) X dX5_readWinds_32 (by decide) (fun hc => ?_) (fun hc => ?_)
      · have hf := itp hc hf
        have he19 := he19 _ (Option.some.inj hf).symm
        subst he19
        have hf : some m3 = some m2 := hrest19
        obtain rfl := Option.some.inj hf
        exact hret _ _ dX5_readWinds_66
      · have hf := itn hc hf
        refine g_aload_n (pc := 35) X dX5_readWinds_35 rfl 0 rfl ?_
        obtain ⟨r6, m7, hq5, hf⟩ := bnd2_some hf
        refine g_callVI (pc := 36) (As := []) (rest := []) X mi_X5_takeWay im_X5_takeWay se_X5_takeWay (KClt hk4 (by decide)) hk4 clX5 ml_X5_116 (cX5_takeWay_ct z ad v0 m3 m7 r6 hq5) rfl rfl (Nat.le_of_ble_eq_true rfl) ⟨rfl, rfl, by decide, by decide, Nat.le_refl _, Nat.le_refl _⟩ dX5_readWinds_36 ?_
        refine g_istore_n (lv2 := [(0, .ref (ad v0)), (1, .ref (ad v1)), (2, .int v2), (3, .int r6)]) (pc := 39) X dX5_readWinds_39 rfl (by decide) [1, 2, 3, 0] rfl ?_
        refine g_aload_n (pc := 40) X dX5_readWinds_40 rfl 0 rfl ?_
        refine g_iconst (v := (1 : Int32)) (pc := 41) X dX5_readWinds_41 (by decide) ?_
        refine g_bipush (v := (9 : Int32)) (pc := 42) X dX5_readWinds_42 (by decide) ?_
        obtain ⟨r9, m10, hq8, hf⟩ := bnd2_some hf
        refine g_callVI (pc := 44) (As := [.int (1 : Int32), .int (9 : Int32)]) (rest := []) X mi_X5_takeNumber im_X5_takeNumber se_X5_takeNumber (KClt hk4 (by decide)) hk4 clX5 ml_X5_93 (cX5_takeNumber_ct z ad v0 (1 : Int32) (9 : Int32) m7 m10 r9 hq8) rfl rfl (Nat.le_of_ble_eq_true rfl) ⟨rfl, rfl, by decide, by decide, Nat.le_refl _, Nat.le_refl _⟩ dX5_readWinds_44 ?_
        refine g_istore (lv2 := [(0, .ref (ad v0)), (1, .ref (ad v1)), (2, .int v2), (3, .int r6), (4, .int r9)]) (pc := 47) X dX5_readWinds_47 (by decide) [1, 2, 3, 4, 0] rfl ?_
        refine g_aload_n (pc := 49) X dX5_readWinds_49 rfl 0 rfl ?_
        obtain ⟨m12, hq11, hf⟩ := bnd_some hf
        refine g_callVV (pc := 50) (As := []) (rest := []) X mi_X5_takeEnd im_X5_takeEnd se_X5_takeEnd (KClt hk4 (by decide)) hk4 clX5 ml_X5_97 (cX5_takeEnd_ct z ad v0 m10 m12 hq11) rfl rfl (Nat.le_of_ble_eq_true rfl) ⟨rfl, rfl, by decide, by decide, Nat.le_refl _, Nat.le_refl _⟩ dX5_readWinds_50 ?_
        refine g_aload_n (pc := 53) X dX5_readWinds_53 rfl 1 rfl ?_
        refine g_iload_n (pc := 54) X dX5_readWinds_54 rfl 3 rfl ?_
        refine g_iload (pc := 55) X dX5_readWinds_55 4 rfl ?_
        obtain ⟨hk15, hf⟩ := gp_some hf
        obtain ⟨m14, hq13, hf⟩ := bnd_some hf
        refine g_callVV (pc := 57) (As := [.int r6, .int r9]) (rest := []) X mi_X9_addWind im_X9_addWind se_X9_addWind (KClt hk15 (by decide)) hk15 clX9 ml_X5_120 (cX9_addWind_ct z ad v1 r6 r9 m12 m14 hq13) rfl rfl (Nat.le_of_ble_eq_true rfl) ⟨rfl, rfl, by decide, by decide, Nat.le_refl _, Nat.le_refl _⟩ dX5_readWinds_57 ?_
        obtain ⟨v2_16, e17, hf⟩ := lt1_some hf
        refine g_iinc (v2 := v2_16) (lv2 := [(0, .ref (ad v0)), (1, .ref (ad v1)), (2, .int v2_16), (3, .int r6), (4, .int r9)]) (pc := 60) X dX5_readWinds_60 2 rfl (by rw [e17]; rfl) (by decide) [1, 2, 0, 3, 4] rfl ?_
        refine g_goto (pc := 63) (tgt := 19) X dX5_readWinds_63 (by decide) ?_
        refine g_lv [(0, .ref (ad v0)), (1, .ref (ad v1)), (2, .int v2_16)] [0, 1, 2] rfl ?_
        exact hs19 (v2_16, m14) (Option.some.inj hf).symm
  have hL17 : ∀ (v0 : Nat) (v1 : Nat) (m : Mem), fX5_readWinds_17 v0 v1 m = some m2 → G z wC x 5 0 0 ad 91 m 17 [(0, .ref (ad v0)), (1, .ref (ad v1))] [] := by
    intro v0 v1 m hf
    unfold fX5_readWinds_17 at hf
    refine g_iconst (v := (0 : Int32)) (pc := 17) X dX5_readWinds_17 (by decide) ?_
    obtain ⟨v2_18, e19, hf⟩ := lt1_some hf
    refine g_topi e19 ?_
    refine g_istore_n (lv2 := [(0, .ref (ad v0)), (1, .ref (ad v1)), (2, .int v2_18)]) (pc := 18) X dX5_readWinds_18 rfl (by decide) [1, 2, 0] rfl ?_
    exact hL19 _ _ _ _ hf
  unfold fX5_readWinds at hf
  refine g_aload_n (pc := 0) X dX5_readWinds_0 rfl 0 rfl ?_
  obtain ⟨hk20, hf⟩ := gp_some hf
  obtain ⟨q21, hr22, hf⟩ := bnd_some hf
  refine g_getR (pc := 1) X fl_X5_14 (KClt hk20 (by decide)) hk20 hr22 dX5_readWinds_1 ?_
  refine g_ldcS (pc := 4) (i := 1) X rfl dX5_readWinds_4 ?_
  obtain ⟨hk25, hf⟩ := gp_some hf
  obtain ⟨r24, hq23, hf⟩ := bnd_some hf
  refine g_callVI (pc := 6) (As := [.ref (z.2.2.2.1 1)]) (rest := []) X mi_X8_isName im_X8_isName se_X8_isName (KClt hk25 (by decide)) hk25 clX8 ml_X5_108 (cX8_isName_ct z ad q21 1 m r24 hq23) rfl rfl (Nat.le_of_ble_eq_true rfl) ⟨rfl, rfl, by decide, by decide, Nat.le_refl _, Nat.le_refl _⟩ dX5_readWinds_6 ?_
  refine g_if_ne (pc := 9) (tgt := 17) X dX5_readWinds_9 (by decide) (fun hc => ?_) (fun hc => ?_)
  · have hf := itn hc hf
    exact hL17 _ _ _ hf
  · have hf := itp hc hf
    refine g_aload_n (pc := 12) X dX5_readWinds_12 rfl 0 rfl ?_
    refine g_iconst (v := (1 : Int32)) (pc := 13) X dX5_readWinds_13 (by decide) ?_
    obtain ⟨m27, hq26, hf⟩ := bnd_some hf
    refine g_callVV (pc := 14) (As := [.int (1 : Int32)]) (rest := []) X mi_X5_fail im_X5_fail se_X5_fail (KClt hk20 (by decide)) hk20 clX5 ml_X5_79 (cX5_fail_ct z ad v0 (1 : Int32) m m27 hq26) rfl rfl (Nat.le_of_ble_eq_true rfl) ⟨rfl, rfl, by decide, by decide, Nat.le_refl _, Nat.le_refl _⟩ dX5_readWinds_14 ?_
    exact hL17 _ _ _ hf

noncomputable def fX9_isInside (v0 : Nat) (v1 : Int32) (v2 : Int32) (m : Mem) : Option Int32 := gp (KC v0 = 9) (bnd (fX11_isWithin v1 (0 : Int32) ((m.1 v0 3) - (1 : Int32))) (fun r3 => if r3 = 0 then (some (0 : Int32)) else (bnd (fX11_isWithin v2 (0 : Int32) ((m.1 v0 4) - (1 : Int32))) (fun r5 => if r5 = 0 then (some (0 : Int32)) else (some (1 : Int32))))))
set_option maxHeartbeats 4000000 in
set_option maxRecDepth 100000 in
theorem cX9_isInside_ct (z : Zx) (ad : Nat → Nat) (v0 : Nat) (v1 : Int32) (v2 : Int32) (m : Mem) (r : Int32) (hf : fX9_isInside v0 v1 v2 m = some r) : CtI z wC yX9_isInside cX9_isInside 3 (some .boolean) (Rm 3) ad 91 [.ref (ad v0), .int v1, .int v2] m m r := by
  refine ct_ofI mi_X9_isInside rfl (Nat.le_of_ble_eq_true rfl) (fun x X hret => ?_)
  refine g_lv [(0, .ref (ad v0)), (1, .int v1), (2, .int v2)] [0, 1, 2] rfl ?_
  unfold fX9_isInside at hf
  refine g_iload_n (pc := 0) X dX9_isInside_0 rfl 1 rfl ?_
  refine g_iconst (v := (0 : Int32)) (pc := 1) X dX9_isInside_1 (by decide) ?_
  refine g_aload_n (pc := 2) X dX9_isInside_2 rfl 0 rfl ?_
  obtain ⟨hk1, hf⟩ := gp_some hf
  refine g_getI (pc := 3) X fl_X9_21 (KClt hk1 (by decide)) hk1 dX9_isInside_3 ?_
  refine g_iconst (v := (1 : Int32)) (pc := 6) X dX9_isInside_6 (by decide) ?_
  refine g_isub (pc := 7) X dX9_isInside_7 ?_
  obtain ⟨r3, hq2, hf⟩ := bnd_some hf
  refine g_callSNI (pc := 8) (As := [.int v1, .int (0 : Int32), .int ((m.1 v0 3) - (1 : Int32))]) (rest := []) (q := 10) X mi_X11_isWithin sm_X11_isWithin rfl (cX11_isWithin_ct z ad v1 (0 : Int32) ((m.1 v0 3) - (1 : Int32)) m r3 hq2) rfl rfl (Nat.le_of_ble_eq_true rfl) ⟨rfl, rfl, by decide, by decide, Nat.le_refl _, Nat.le_refl _⟩ dX9_isInside_8 ?_
  refine g_if_eq (pc := 11) (tgt := 32) X dX9_isInside_11 (by decide) (fun hc => ?_) (fun hc => ?_)
  · have hf := itp hc hf
    refine g_iconst (v := (0 : Int32)) (pc := 32) X dX9_isInside_32 (by decide) ?_
    obtain rfl := Option.some.inj hf
    exact hret _ _ (by decide) dX9_isInside_33
  · have hf := itn hc hf
    refine g_iload_n (pc := 14) X dX9_isInside_14 rfl 2 rfl ?_
    refine g_iconst (v := (0 : Int32)) (pc := 15) X dX9_isInside_15 (by decide) ?_
    refine g_aload_n (pc := 16) X dX9_isInside_16 rfl 0 rfl ?_
    refine g_getI (pc := 17) X fl_X9_25 (KClt hk1 (by decide)) hk1 dX9_isInside_17 ?_
    refine g_iconst (v := (1 : Int32)) (pc := 20) X dX9_isInside_20 (by decide) ?_
    refine g_isub (pc := 21) X dX9_isInside_21 ?_
    obtain ⟨r5, hq4, hf⟩ := bnd_some hf
    refine g_callSNI (pc := 22) (As := [.int v2, .int (0 : Int32), .int ((m.1 v0 4) - (1 : Int32))]) (rest := []) (q := 10) X mi_X11_isWithin sm_X11_isWithin rfl (cX11_isWithin_ct z ad v2 (0 : Int32) ((m.1 v0 4) - (1 : Int32)) m r5 hq4) rfl rfl (Nat.le_of_ble_eq_true rfl) ⟨rfl, rfl, by decide, by decide, Nat.le_refl _, Nat.le_refl _⟩ dX9_isInside_22 ?_
    refine g_if_eq (pc := 25) (tgt := 32) X dX9_isInside_25 (by decide) (fun hc => ?_) (fun hc => ?_)
    · have hf := itp hc hf
      refine g_iconst (v := (0 : Int32)) (pc := 32) X dX9_isInside_32 (by decide) ?_
      obtain rfl := Option.some.inj hf
      exact hret _ _ (by decide) dX9_isInside_33
    · have hf := itn hc hf
      refine g_iconst (v := (1 : Int32)) (pc := 28) X dX9_isInside_28 (by decide) ?_
      refine g_goto (pc := 29) (tgt := 33) X dX9_isInside_29 (by decide) ?_
      obtain rfl := Option.some.inj hf
      exact hret _ _ (by decide) dX9_isInside_33

noncomputable def fX9_addLand (v0 : Nat) (v1 : Int32) (v2 : Int32) (m : Mem) : Option Mem := gp (KC v0 = 9) (bnd (fX9_isInside v0 v1 v2 m) (fun r2 => if r2 = 0 then (some m) else (bnd (m.2.2 v0 0) (fun q4 => gp (KC q4 = 14) (gp (inb v2 (NC q4) = true) (gp (inb v2 (NC q4) = true) (lt1 (uI m q4 v2.toNatClampNeg ((m.1 q4 v2.toNatClampNeg) ||| ((1 : Int32) <<< (v1 &&& 31)))) (fun m9 => some m9))))))))
set_option maxHeartbeats 4000000 in
set_option maxRecDepth 100000 in
theorem cX9_addLand_ct (z : Zx) (ad : Nat → Nat) (v0 : Nat) (v1 : Int32) (v2 : Int32) (m m2 : Mem) (hf : fX9_addLand v0 v1 v2 m = some m2) : CtV z wC yX9_addLand cX9_addLand 3 none (Rm 4) ad 91 [.ref (ad v0), .int v1, .int v2] m m2 := by
  refine ct_ofV mi_X9_addLand rfl (Nat.le_of_ble_eq_true rfl) (fun x X hret => ?_)
  refine g_lv [(0, .ref (ad v0)), (1, .int v1), (2, .int v2)] [0, 1, 2] rfl ?_
  unfold fX9_addLand at hf
  refine g_aload_n (pc := 0) X dX9_addLand_0 rfl 0 rfl ?_
  refine g_iload_n (pc := 1) X dX9_addLand_1 rfl 1 rfl ?_
  refine g_iload_n (pc := 2) X dX9_addLand_2 rfl 2 rfl ?_
  obtain ⟨hk3, hf⟩ := gp_some hf
  obtain ⟨r2, hq1, hf⟩ := bnd_some hf
  refine g_callVI (pc := 3) (As := [.int v1, .int v2]) (rest := []) X mi_X9_isInside im_X9_isInside se_X9_isInside (KClt hk3 (by decide)) hk3 clX9 ml_X9_40 (cX9_isInside_ct z ad v0 v1 v2 m r2 hq1) rfl rfl (Nat.le_of_ble_eq_true rfl) ⟨rfl, rfl, by decide, by decide, Nat.le_refl _, Nat.le_refl _⟩ dX9_addLand_3 ?_
  refine g_if_eq (pc := 6) (tgt := 21) X dX9_addLand_6 (by decide) (fun hc => ?_) (fun hc => ?_)
  · have hf := itp hc hf
    obtain rfl := Option.some.inj hf
    exact hret _ _ dX9_addLand_21
  · have hf := itn hc hf
    refine g_aload_n (pc := 9) X dX9_addLand_9 rfl 0 rfl ?_
    obtain ⟨q4, hr5, hf⟩ := bnd_some hf
    refine g_getR (pc := 10) X fl_X9_9 (KClt hk3 (by decide)) hk3 hr5 dX9_addLand_10 ?_
    refine g_iload_n (pc := 13) X dX9_addLand_13 rfl 2 rfl ?_
    refine g_dup2_11 (pc := 14) X dX9_addLand_14 rfl rfl ?_
    obtain ⟨hk6, hf⟩ := gp_some hf
    obtain ⟨hi7, hf⟩ := gp_some hf
    refine g_iald (pc := 15) X (KClt hk6 (by decide)) hk6 hi7 dX9_addLand_15 ?_
    refine g_iconst (v := (1 : Int32)) (pc := 16) X dX9_addLand_16 (by decide) ?_
    refine g_iload_n (pc := 17) X dX9_addLand_17 rfl 1 rfl ?_
    refine g_ishl (pc := 18) X dX9_addLand_18 ?_
    refine g_ior (pc := 19) X dX9_addLand_19 ?_
    obtain ⟨hi8, hf⟩ := gp_some hf
    refine g_iast (pc := 20) X (KClt hk6 (by decide)) hk6 hi8 dX9_addLand_20 ?_
    obtain ⟨m9, e10, hf⟩ := lt1_some hf
    refine g_mem e10 ?_
    obtain rfl := Option.some.inj hf
    exact hret _ _ dX9_addLand_21

noncomputable def fX5_readLands_2b (v0 : Nat) (v1 : Nat) (v2 : Int32) (m : Mem) : Option ((Int32 × Mem) ⊕ (Mem)) := if (12 : Int32) < v2 then (some (.inr (m))) else (gp (KC v0 = 5) (bnd2 (fX5_begins v0 10 v2 (12 : Int32) m) (fun r2 m3 => if r2 = 0 then (some (.inr (m3))) else (gp (KC v1 = 9) (bnd2 (fX5_takeNumber v0 (0 : Int32) ((m3.1 v1 3) - (1 : Int32)) m3) (fun r7 m8 => bnd2 (fX5_takeNumber v0 (0 : Int32) ((m8.1 v1 4) - (1 : Int32)) m8) (fun r10 m11 => bnd (fX5_takeEnd v0 m11) (fun m13 => bnd (fX9_addLand v1 r7 r10 m13) (fun m15 => lt1 (v2 + 1) (fun v2_16 => some (.inl (v2_16, m15))))))))))))
noncomputable def fX5_readLands_2 (v0 : Nat) (v1 : Nat) (v2 : Int32) (m : Mem) : Option Mem := bnd (iter (fun s => fX5_readLands_2b v0 v1 s.1 s.2) FU (v2, m)) (fun e => some e)
noncomputable def fX5_readLands (v0 : Nat) (v1 : Nat) (m : Mem) : Option Mem := lt1 ((0 : Int32)) (fun v2_18 => fX5_readLands_2 v0 v1 v2_18 m)
set_option maxHeartbeats 4000000 in
set_option maxRecDepth 100000 in
theorem cX5_readLands_ct (z : Zx) (ad : Nat → Nat) (v0 : Nat) (v1 : Nat) (m m2 : Mem) (hf : fX5_readLands v0 v1 m = some m2) : CtV z wC yX5_readLands cX5_readLands 5 none (Rm 9) ad 91 [.ref (ad v0), .ref (ad v1)] m m2 := by
  refine ct_ofV mi_X5_readLands rfl (Nat.le_of_ble_eq_true rfl) (fun x X hret => ?_)
  refine g_lv [(0, .ref (ad v0)), (1, .ref (ad v1))] [0, 1] rfl ?_
  have hL2 : ∀ (v0 : Nat) (v1 : Nat) (v2 : Int32) (m : Mem), fX5_readLands_2 v0 v1 v2 m = some m2 → G z wC x 5 0 0 ad 91 m 2 [(0, .ref (ad v0)), (1, .ref (ad v1)), (2, .int v2)] [] := by
    intro v0 v1 v2 m hf
    unfold fX5_readLands_2 at hf
    obtain ⟨e2, hit2, hrest2⟩ := bnd_some hf
    refine iter_ok (Hd := fun (s : (Int32 × Mem)) => G z wC x 5 0 0 ad 91 s.2 2 [(0, .ref (ad v0)), (1, .ref (ad v1)), (2, .int s.1)] []) ?_ FU (v2, m) hit2
    intro s ob2 hf hs2 he2
    obtain ⟨v2, m⟩ := s
    have hf : fX5_readLands_2b v0 v1 v2 m = some ob2 := hf
    unfold fX5_readLands_2b at hf
    refine g_iload_n (pc := 2) X dX5_readLands_2 rfl 2 rfl ?_
    refine g_bipush (v := (12 : Int32)) (pc := 3) X dX5_readLands_3 (by decide) ?_
    refine g_icmp_gt (pc := 5) (tgt := 62) X dX5_readLands_5 (by decide) (fun hc => ?_) (fun hc => ?_)
    · have hf := itp hc hf
      have he2 := he2 _ (Option.some.inj hf).symm
      subst he2
      have hf : some m = some m2 := hrest2
      obtain rfl := Option.some.inj hf
      exact hret _ _ dX5_readLands_62
    · have hf := itn hc hf
      refine g_aload_n (pc := 8) X dX5_readLands_8 rfl 0 rfl ?_
      refine g_ldcS (pc := 9) (i := 10) X rfl dX5_readLands_9 ?_
      refine g_iload_n (pc := 11) X dX5_readLands_11 rfl 2 rfl ?_
      refine g_bipush (v := (12 : Int32)) (pc := 12) X dX5_readLands_12 (by decide) ?_
      obtain ⟨hk4, hf⟩ := gp_some hf
      obtain ⟨r2, m3, hq1, hf⟩ := bnd2_some hf
      refine g_callVI (pc := 14) (As := [.ref (z.2.2.2.1 10), .int v2, .int (12 : Int32)]) (rest := []) X mi_X5_begins im_X5_begins se_X5_begins (KClt hk4 (by decide)) hk4 clX5 ml_X5_112 (cX5_begins_ct z ad v0 10 v2 (12 : Int32) m m3 r2 hq1) rfl rfl (Nat.le_of_ble_eq_true rfl) ⟨rfl, rfl, by decide, by decide, Nat.le_refl _, Nat.le_refl _⟩ dX5_readLands_14 ?_
      refine g_if_eq (pc := 17) (tgt := 62) X dX5_readLands_17 (by decide) (fun hc => ?_) (fun hc => ?_)
      · have hf := itp hc hf
        have he2 := he2 _ (Option.some.inj hf).symm
        subst he2
        have hf : some m3 = some m2 := hrest2
        obtain rfl := Option.some.inj hf
        exact hret _ _ dX5_readLands_62
      · have hf := itn hc hf
        refine g_aload_n (pc := 20) X dX5_readLands_20 rfl 0 rfl ?_
        refine g_iconst (v := (0 : Int32)) (pc := 21) X dX5_readLands_21 (by decide) ?_
        refine g_aload_n (pc := 22) X dX5_readLands_22 rfl 1 rfl ?_
        obtain ⟨hk5, hf⟩ := gp_some hf
        refine g_getI (pc := 23) X fl_X5_125 (KClt hk5 (by decide)) hk5 dX5_readLands_23 ?_
        refine g_iconst (v := (1 : Int32)) (pc := 26) X dX5_readLands_26 (by decide) ?_
        refine g_isub (pc := 27) X dX5_readLands_27 ?_
        obtain ⟨r7, m8, hq6, hf⟩ := bnd2_some hf
        refine g_callVI (pc := 28) (As := [.int (0 : Int32), .int ((m3.1 v1 3) - (1 : Int32))]) (rest := []) X mi_X5_takeNumber im_X5_takeNumber se_X5_takeNumber (KClt hk4 (by decide)) hk4 clX5 ml_X5_93 (cX5_takeNumber_ct z ad v0 (0 : Int32) ((m3.1 v1 3) - (1 : Int32)) m3 m8 r7 hq6) rfl rfl (Nat.le_of_ble_eq_true rfl) ⟨rfl, rfl, by decide, by decide, Nat.le_refl _, Nat.le_refl _⟩ dX5_readLands_28 ?_
        refine g_istore_n (lv2 := [(0, .ref (ad v0)), (1, .ref (ad v1)), (2, .int v2), (3, .int r7)]) (pc := 31) X dX5_readLands_31 rfl (by decide) [1, 2, 3, 0] rfl ?_
        refine g_aload_n (pc := 32) X dX5_readLands_32 rfl 0 rfl ?_
        refine g_iconst (v := (0 : Int32)) (pc := 33) X dX5_readLands_33 (by decide) ?_
        refine g_aload_n (pc := 34) X dX5_readLands_34 rfl 1 rfl ?_
        refine g_getI (pc := 35) X fl_X5_128 (KClt hk5 (by decide)) hk5 dX5_readLands_35 ?_
        refine g_iconst (v := (1 : Int32)) (pc := 38) X dX5_readLands_38 (by decide) ?_
        refine g_isub (pc := 39) X dX5_readLands_39 ?_
        obtain ⟨r10, m11, hq9, hf⟩ := bnd2_some hf
        refine g_callVI (pc := 40) (As := [.int (0 : Int32), .int ((m8.1 v1 4) - (1 : Int32))]) (rest := []) X mi_X5_takeNumber im_X5_takeNumber se_X5_takeNumber (KClt hk4 (by decide)) hk4 clX5 ml_X5_93 (cX5_takeNumber_ct z ad v0 (0 : Int32) ((m8.1 v1 4) - (1 : Int32)) m8 m11 r10 hq9) rfl rfl (Nat.le_of_ble_eq_true rfl) ⟨rfl, rfl, by decide, by decide, Nat.le_refl _, Nat.le_refl _⟩ dX5_readLands_40 ?_
        refine g_istore (lv2 := [(0, .ref (ad v0)), (1, .ref (ad v1)), (2, .int v2), (3, .int r7), (4, .int r10)]) (pc := 43) X dX5_readLands_43 (by decide) [1, 2, 3, 4, 0] rfl ?_
        refine g_aload_n (pc := 45) X dX5_readLands_45 rfl 0 rfl ?_
        obtain ⟨m13, hq12, hf⟩ := bnd_some hf
        refine g_callVV (pc := 46) (As := []) (rest := []) X mi_X5_takeEnd im_X5_takeEnd se_X5_takeEnd (KClt hk4 (by decide)) hk4 clX5 ml_X5_97 (cX5_takeEnd_ct z ad v0 m11 m13 hq12) rfl rfl (Nat.le_of_ble_eq_true rfl) ⟨rfl, rfl, by decide, by decide, Nat.le_refl _, Nat.le_refl _⟩ dX5_readLands_46 ?_
        refine g_aload_n (pc := 49) X dX5_readLands_49 rfl 1 rfl ?_
        refine g_iload_n (pc := 50) X dX5_readLands_50 rfl 3 rfl ?_
        refine g_iload (pc := 51) X dX5_readLands_51 4 rfl ?_
        obtain ⟨m15, hq14, hf⟩ := bnd_some hf
        refine g_callVV (pc := 53) (As := [.int r7, .int r10]) (rest := []) X mi_X9_addLand im_X9_addLand se_X9_addLand (KClt hk5 (by decide)) hk5 clX9 ml_X5_131 (cX9_addLand_ct z ad v1 r7 r10 m13 m15 hq14) rfl rfl (Nat.le_of_ble_eq_true rfl) ⟨rfl, rfl, by decide, by decide, Nat.le_refl _, Nat.le_refl _⟩ dX5_readLands_53 ?_
        obtain ⟨v2_16, e17, hf⟩ := lt1_some hf
        refine g_iinc (v2 := v2_16) (lv2 := [(0, .ref (ad v0)), (1, .ref (ad v1)), (2, .int v2_16), (3, .int r7), (4, .int r10)]) (pc := 56) X dX5_readLands_56 2 rfl (by rw [e17]; rfl) (by decide) [1, 2, 0, 3, 4] rfl ?_
        refine g_goto (pc := 59) (tgt := 2) X dX5_readLands_59 (by decide) ?_
        refine g_lv [(0, .ref (ad v0)), (1, .ref (ad v1)), (2, .int v2_16)] [0, 1, 2] rfl ?_
        exact hs2 (v2_16, m15) (Option.some.inj hf).symm
  unfold fX5_readLands at hf
  refine g_iconst (v := (0 : Int32)) (pc := 0) X dX5_readLands_0 (by decide) ?_
  obtain ⟨v2_18, e19, hf⟩ := lt1_some hf
  refine g_topi e19 ?_
  refine g_istore_n (lv2 := [(0, .ref (ad v0)), (1, .ref (ad v1)), (2, .int v2_18)]) (pc := 1) X dX5_readLands_1 rfl (by decide) [1, 2, 0] rfl ?_
  exact hL2 _ _ _ _ hf

noncomputable def fX5_readShip (v0 : Nat) (v1 : Nat) (m : Mem) : Option Mem := gp (KC v0 = 5) (bnd (fX5_takeWord v0 11 m) (fun m2 => bnd2 (fX5_takeNumber v0 (0 : Int32) (7 : Int32) m2) (fun r5 m6 => bnd2 (fX5_takeNumber v0 (0 : Int32) (20 : Int32) m6) (fun r8 m9 => bnd2 (fX5_takeNumber v0 (0 : Int32) (40 : Int32) m9) (fun r11 m12 => bnd2 (fX5_takeNumber v0 (1 : Int32) (200 : Int32) m12) (fun r14 m15 => bnd (fX5_takeEnd v0 m15) (fun m17 => gp (KC v1 = 4) (bnd (fX4_build v1 r5 r8 r11 r14 m17) (fun m19 => some m19)))))))))
set_option maxHeartbeats 4000000 in
set_option maxRecDepth 100000 in
theorem cX5_readShip_ct (z : Zx) (ad : Nat → Nat) (v0 : Nat) (v1 : Nat) (m m2 : Mem) (hf : fX5_readShip v0 v1 m = some m2) : CtV z wC yX5_readShip cX5_readShip 6 none (Rm 9) ad 91 [.ref (ad v0), .ref (ad v1)] m m2 := by
  refine ct_ofV mi_X5_readShip rfl (Nat.le_of_ble_eq_true rfl) (fun x X hret => ?_)
  refine g_lv [(0, .ref (ad v0)), (1, .ref (ad v1))] [0, 1] rfl ?_
  unfold fX5_readShip at hf
  refine g_aload_n (pc := 0) X dX5_readShip_0 rfl 0 rfl ?_
  refine g_ldcS (pc := 1) (i := 11) X rfl dX5_readShip_1 ?_
  obtain ⟨hk3, hf⟩ := gp_some hf
  obtain ⟨m2, hq1, hf⟩ := bnd_some hf
  refine g_callVV (pc := 3) (As := [.ref (z.2.2.2.1 11)]) (rest := []) X mi_X5_takeWord im_X5_takeWord se_X5_takeWord (KClt hk3 (by decide)) hk3 clX5 ml_X5_89 (cX5_takeWord_ct z ad v0 11 m m2 hq1) rfl rfl (Nat.le_of_ble_eq_true rfl) ⟨rfl, rfl, by decide, by decide, Nat.le_refl _, Nat.le_refl _⟩ dX5_readShip_3 ?_
  refine g_aload_n (pc := 6) X dX5_readShip_6 rfl 0 rfl ?_
  refine g_iconst (v := (0 : Int32)) (pc := 7) X dX5_readShip_7 (by decide) ?_
  refine g_bipush (v := (7 : Int32)) (pc := 8) X dX5_readShip_8 (by decide) ?_
  obtain ⟨r5, m6, hq4, hf⟩ := bnd2_some hf
  refine g_callVI (pc := 10) (As := [.int (0 : Int32), .int (7 : Int32)]) (rest := []) X mi_X5_takeNumber im_X5_takeNumber se_X5_takeNumber (KClt hk3 (by decide)) hk3 clX5 ml_X5_93 (cX5_takeNumber_ct z ad v0 (0 : Int32) (7 : Int32) m2 m6 r5 hq4) rfl rfl (Nat.le_of_ble_eq_true rfl) ⟨rfl, rfl, by decide, by decide, Nat.le_refl _, Nat.le_refl _⟩ dX5_readShip_10 ?_
  refine g_istore_n (lv2 := [(0, .ref (ad v0)), (1, .ref (ad v1)), (2, .int r5)]) (pc := 13) X dX5_readShip_13 rfl (by decide) [1, 2, 0] rfl ?_
  refine g_aload_n (pc := 14) X dX5_readShip_14 rfl 0 rfl ?_
  refine g_iconst (v := (0 : Int32)) (pc := 15) X dX5_readShip_15 (by decide) ?_
  refine g_bipush (v := (20 : Int32)) (pc := 16) X dX5_readShip_16 (by decide) ?_
  obtain ⟨r8, m9, hq7, hf⟩ := bnd2_some hf
  refine g_callVI (pc := 18) (As := [.int (0 : Int32), .int (20 : Int32)]) (rest := []) X mi_X5_takeNumber im_X5_takeNumber se_X5_takeNumber (KClt hk3 (by decide)) hk3 clX5 ml_X5_93 (cX5_takeNumber_ct z ad v0 (0 : Int32) (20 : Int32) m6 m9 r8 hq7) rfl rfl (Nat.le_of_ble_eq_true rfl) ⟨rfl, rfl, by decide, by decide, Nat.le_refl _, Nat.le_refl _⟩ dX5_readShip_18 ?_
  refine g_istore_n (lv2 := [(0, .ref (ad v0)), (1, .ref (ad v1)), (2, .int r5), (3, .int r8)]) (pc := 21) X dX5_readShip_21 rfl (by decide) [1, 2, 3, 0] rfl ?_
  refine g_aload_n (pc := 22) X dX5_readShip_22 rfl 0 rfl ?_
  refine g_iconst (v := (0 : Int32)) (pc := 23) X dX5_readShip_23 (by decide) ?_
  refine g_bipush (v := (40 : Int32)) (pc := 24) X dX5_readShip_24 (by decide) ?_
  obtain ⟨r11, m12, hq10, hf⟩ := bnd2_some hf
  refine g_callVI (pc := 26) (As := [.int (0 : Int32), .int (40 : Int32)]) (rest := []) X mi_X5_takeNumber im_X5_takeNumber se_X5_takeNumber (KClt hk3 (by decide)) hk3 clX5 ml_X5_93 (cX5_takeNumber_ct z ad v0 (0 : Int32) (40 : Int32) m9 m12 r11 hq10) rfl rfl (Nat.le_of_ble_eq_true rfl) ⟨rfl, rfl, by decide, by decide, Nat.le_refl _, Nat.le_refl _⟩ dX5_readShip_26 ?_
  refine g_istore (lv2 := [(0, .ref (ad v0)), (1, .ref (ad v1)), (2, .int r5), (3, .int r8), (4, .int r11)]) (pc := 29) X dX5_readShip_29 (by decide) [1, 2, 3, 4, 0] rfl ?_
  refine g_aload_n (pc := 31) X dX5_readShip_31 rfl 0 rfl ?_
  refine g_iconst (v := (1 : Int32)) (pc := 32) X dX5_readShip_32 (by decide) ?_
  refine g_sipush (v := (200 : Int32)) (pc := 33) X dX5_readShip_33 (by decide) ?_
  obtain ⟨r14, m15, hq13, hf⟩ := bnd2_some hf
  refine g_callVI (pc := 36) (As := [.int (1 : Int32), .int (200 : Int32)]) (rest := []) X mi_X5_takeNumber im_X5_takeNumber se_X5_takeNumber (KClt hk3 (by decide)) hk3 clX5 ml_X5_93 (cX5_takeNumber_ct z ad v0 (1 : Int32) (200 : Int32) m12 m15 r14 hq13) rfl rfl (Nat.le_of_ble_eq_true rfl) ⟨rfl, rfl, by decide, by decide, Nat.le_refl _, Nat.le_refl _⟩ dX5_readShip_36 ?_
  refine g_istore (lv2 := [(0, .ref (ad v0)), (1, .ref (ad v1)), (2, .int r5), (3, .int r8), (4, .int r11), (5, .int r14)]) (pc := 39) X dX5_readShip_39 (by decide) [1, 2, 3, 4, 5, 0] rfl ?_
  refine g_aload_n (pc := 41) X dX5_readShip_41 rfl 0 rfl ?_
  obtain ⟨m17, hq16, hf⟩ := bnd_some hf
  refine g_callVV (pc := 42) (As := []) (rest := []) X mi_X5_takeEnd im_X5_takeEnd se_X5_takeEnd (KClt hk3 (by decide)) hk3 clX5 ml_X5_97 (cX5_takeEnd_ct z ad v0 m15 m17 hq16) rfl rfl (Nat.le_of_ble_eq_true rfl) ⟨rfl, rfl, by decide, by decide, Nat.le_refl _, Nat.le_refl _⟩ dX5_readShip_42 ?_
  refine g_aload_n (pc := 45) X dX5_readShip_45 rfl 1 rfl ?_
  refine g_iload_n (pc := 46) X dX5_readShip_46 rfl 2 rfl ?_
  refine g_iload_n (pc := 47) X dX5_readShip_47 rfl 3 rfl ?_
  refine g_iload (pc := 48) X dX5_readShip_48 4 rfl ?_
  refine g_iload (pc := 50) X dX5_readShip_50 5 rfl ?_
  obtain ⟨hk20, hf⟩ := gp_some hf
  obtain ⟨m19, hq18, hf⟩ := bnd_some hf
  refine g_callVV (pc := 52) (As := [.int r5, .int r8, .int r11, .int r14]) (rest := []) X mi_X4_build im_X4_build se_X4_build (KClt hk20 (by decide)) hk20 clX4 ml_X5_136 (cX4_build_ct z ad v1 r5 r8 r11 r14 m17 m19 hq18) rfl rfl (Nat.le_of_ble_eq_true rfl) ⟨rfl, rfl, by decide, by decide, Nat.le_refl _, Nat.le_refl _⟩ dX5_readShip_52 ?_
  obtain rfl := Option.some.inj hf
  exact hret _ _ dX5_readShip_55

noncomputable def fX2_add (v0 : Nat) (v1 : Int32) (v2 : Int32) (m : Mem) : Option Mem := gp (KC v0 = 2) (if (10 : Int32) ≤ (m.1 v0 2) then (some m) else (bnd (m.2.2 v0 0) (fun q2 => gp (KC q2 = 14) (gp (inb (m.1 v0 2) (NC q2) = true) (lt1 (uI m q2 (m.1 v0 2).toNatClampNeg v1) (fun m6 => bnd (m6.2.2 v0 1) (fun q8 => gp (KC q8 = 14) (gp (inb (m6.1 v0 2) (NC q8) = true) (lt1 (uI m6 q8 (m6.1 v0 2).toNatClampNeg v2) (fun m12 => lt1 (uI m12 v0 2 ((m12.1 v0 2) + (1 : Int32))) (fun m14 => some m14)))))))))))
set_option maxHeartbeats 4000000 in
set_option maxRecDepth 100000 in
theorem cX2_add_ct (z : Zx) (ad : Nat → Nat) (v0 : Nat) (v1 : Int32) (v2 : Int32) (m m2 : Mem) (hf : fX2_add v0 v1 v2 m = some m2) : CtV z wC yX2_add cX2_add 3 none (Rm 2) ad 91 [.ref (ad v0), .int v1, .int v2] m m2 := by
  refine ct_ofV mi_X2_add rfl (Nat.le_of_ble_eq_true rfl) (fun x X hret => ?_)
  refine g_lv [(0, .ref (ad v0)), (1, .int v1), (2, .int v2)] [0, 1, 2] rfl ?_
  unfold fX2_add at hf
  refine g_aload_n (pc := 0) X dX2_add_0 rfl 0 rfl ?_
  obtain ⟨hk1, hf⟩ := gp_some hf
  refine g_getI (pc := 1) X fl_X2_18 (KClt hk1 (by decide)) hk1 dX2_add_1 ?_
  refine g_bipush (v := (10 : Int32)) (pc := 4) X dX2_add_4 (by decide) ?_
  refine g_icmp_ge (pc := 6) (tgt := 39) X dX2_add_6 (by decide) (fun hc => ?_) (fun hc => ?_)
  · have hf := itp hc hf
    obtain rfl := Option.some.inj hf
    exact hret _ _ dX2_add_39
  · have hf := itn hc hf
    refine g_aload_n (pc := 9) X dX2_add_9 rfl 0 rfl ?_
    obtain ⟨q2, hr3, hf⟩ := bnd_some hf
    refine g_getR (pc := 10) X fl_X2_9 (KClt hk1 (by decide)) hk1 hr3 dX2_add_10 ?_
    refine g_aload_n (pc := 13) X dX2_add_13 rfl 0 rfl ?_
    refine g_getI (pc := 14) X fl_X2_18 (KClt hk1 (by decide)) hk1 dX2_add_14 ?_
    refine g_iload_n (pc := 17) X dX2_add_17 rfl 1 rfl ?_
    obtain ⟨hk4, hf⟩ := gp_some hf
    obtain ⟨hi5, hf⟩ := gp_some hf
    refine g_iast (pc := 18) X (KClt hk4 (by decide)) hk4 hi5 dX2_add_18 ?_
    obtain ⟨m6, e7, hf⟩ := lt1_some hf
    refine g_mem e7 ?_
    refine g_aload_n (pc := 19) X dX2_add_19 rfl 0 rfl ?_
    obtain ⟨q8, hr9, hf⟩ := bnd_some hf
    refine g_getR (pc := 20) X fl_X2_15 (KClt hk1 (by decide)) hk1 hr9 dX2_add_20 ?_
    refine g_aload_n (pc := 23) X dX2_add_23 rfl 0 rfl ?_
    refine g_getI (pc := 24) X fl_X2_18 (KClt hk1 (by decide)) hk1 dX2_add_24 ?_
    refine g_iload_n (pc := 27) X dX2_add_27 rfl 2 rfl ?_
    obtain ⟨hk10, hf⟩ := gp_some hf
    obtain ⟨hi11, hf⟩ := gp_some hf
    refine g_iast (pc := 28) X (KClt hk10 (by decide)) hk10 hi11 dX2_add_28 ?_
    obtain ⟨m12, e13, hf⟩ := lt1_some hf
    refine g_mem e13 ?_
    refine g_aload_n (pc := 29) X dX2_add_29 rfl 0 rfl ?_
    refine g_dup (pc := 30) X dX2_add_30 rfl ?_
    refine g_getI (pc := 31) X fl_X2_18 (KClt hk1 (by decide)) hk1 dX2_add_31 ?_
    refine g_iconst (v := (1 : Int32)) (pc := 34) X dX2_add_34 (by decide) ?_
    refine g_iadd (pc := 35) X dX2_add_35 ?_
    refine g_putI (pc := 36) X fl_X2_18 (KClt hk1 (by decide)) hk1 rfl rfl dX2_add_36 ?_
    obtain ⟨m14, e15, hf⟩ := lt1_some hf
    refine g_mem e15 ?_
    obtain rfl := Option.some.inj hf
    exact hret _ _ dX2_add_39

noncomputable def fX5_readMen_2b (v0 : Nat) (v1 : Nat) (v2 : Int32) (m : Mem) : Option ((Int32 × Mem) ⊕ (Mem)) := if (10 : Int32) < v2 then (some (.inr (m))) else (gp (KC v0 = 5) (bnd2 (fX5_begins v0 12 v2 (10 : Int32) m) (fun r2 m3 => if r2 = 0 then (some (.inr (m3))) else (bnd2 (fX5_takeNumber v0 (1 : Int32) (200 : Int32) m3) (fun r6 m7 => bnd2 (fX5_takeNumber v0 (1 : Int32) (50 : Int32) m7) (fun r9 m10 => bnd (fX5_takeEnd v0 m10) (fun m12 => gp (KC v1 = 2) (bnd (fX2_add v1 r6 r9 m12) (fun m14 => lt1 (v2 + 1) (fun v2_16 => some (.inl (v2_16, m14))))))))))))
noncomputable def fX5_readMen_2 (v0 : Nat) (v1 : Nat) (v2 : Int32) (m : Mem) : Option Mem := bnd (iter (fun s => fX5_readMen_2b v0 v1 s.1 s.2) FU (v2, m)) (fun e => some e)
noncomputable def fX5_readMen (v0 : Nat) (v1 : Nat) (m : Mem) : Option Mem := lt1 ((0 : Int32)) (fun v2_18 => fX5_readMen_2 v0 v1 v2_18 m)
set_option maxHeartbeats 4000000 in
set_option maxRecDepth 100000 in
theorem cX5_readMen_ct (z : Zx) (ad : Nat → Nat) (v0 : Nat) (v1 : Nat) (m m2 : Mem) (hf : fX5_readMen v0 v1 m = some m2) : CtV z wC yX5_readMen cX5_readMen 5 none (Rm 9) ad 91 [.ref (ad v0), .ref (ad v1)] m m2 := by
  refine ct_ofV mi_X5_readMen rfl (Nat.le_of_ble_eq_true rfl) (fun x X hret => ?_)
  refine g_lv [(0, .ref (ad v0)), (1, .ref (ad v1))] [0, 1] rfl ?_
  have hL2 : ∀ (v0 : Nat) (v1 : Nat) (v2 : Int32) (m : Mem), fX5_readMen_2 v0 v1 v2 m = some m2 → G z wC x 5 0 0 ad 91 m 2 [(0, .ref (ad v0)), (1, .ref (ad v1)), (2, .int v2)] [] := by
    intro v0 v1 v2 m hf
    unfold fX5_readMen_2 at hf
    obtain ⟨e2, hit2, hrest2⟩ := bnd_some hf
    refine iter_ok (Hd := fun (s : (Int32 × Mem)) => G z wC x 5 0 0 ad 91 s.2 2 [(0, .ref (ad v0)), (1, .ref (ad v1)), (2, .int s.1)] []) ?_ FU (v2, m) hit2
    intro s ob2 hf hs2 he2
    obtain ⟨v2, m⟩ := s
    have hf : fX5_readMen_2b v0 v1 v2 m = some ob2 := hf
    unfold fX5_readMen_2b at hf
    refine g_iload_n (pc := 2) X dX5_readMen_2 rfl 2 rfl ?_
    refine g_bipush (v := (10 : Int32)) (pc := 3) X dX5_readMen_3 (by decide) ?_
    refine g_icmp_gt (pc := 5) (tgt := 55) X dX5_readMen_5 (by decide) (fun hc => ?_) (fun hc => ?_)
    · have hf := itp hc hf
      have he2 := he2 _ (Option.some.inj hf).symm
      subst he2
      have hf : some m = some m2 := hrest2
      obtain rfl := Option.some.inj hf
      exact hret _ _ dX5_readMen_55
    · have hf := itn hc hf
      refine g_aload_n (pc := 8) X dX5_readMen_8 rfl 0 rfl ?_
      refine g_ldcS (pc := 9) (i := 12) X rfl dX5_readMen_9 ?_
      refine g_iload_n (pc := 11) X dX5_readMen_11 rfl 2 rfl ?_
      refine g_bipush (v := (10 : Int32)) (pc := 12) X dX5_readMen_12 (by decide) ?_
      obtain ⟨hk4, hf⟩ := gp_some hf
      obtain ⟨r2, m3, hq1, hf⟩ := bnd2_some hf
      refine g_callVI (pc := 14) (As := [.ref (z.2.2.2.1 12), .int v2, .int (10 : Int32)]) (rest := []) X mi_X5_begins im_X5_begins se_X5_begins (KClt hk4 (by decide)) hk4 clX5 ml_X5_112 (cX5_begins_ct z ad v0 12 v2 (10 : Int32) m m3 r2 hq1) rfl rfl (Nat.le_of_ble_eq_true rfl) ⟨rfl, rfl, by decide, by decide, Nat.le_refl _, Nat.le_refl _⟩ dX5_readMen_14 ?_
      refine g_if_eq (pc := 17) (tgt := 55) X dX5_readMen_17 (by decide) (fun hc => ?_) (fun hc => ?_)
      · have hf := itp hc hf
        have he2 := he2 _ (Option.some.inj hf).symm
        subst he2
        have hf : some m3 = some m2 := hrest2
        obtain rfl := Option.some.inj hf
        exact hret _ _ dX5_readMen_55
      · have hf := itn hc hf
        refine g_aload_n (pc := 20) X dX5_readMen_20 rfl 0 rfl ?_
        refine g_iconst (v := (1 : Int32)) (pc := 21) X dX5_readMen_21 (by decide) ?_
        refine g_sipush (v := (200 : Int32)) (pc := 22) X dX5_readMen_22 (by decide) ?_
        obtain ⟨r6, m7, hq5, hf⟩ := bnd2_some hf
        refine g_callVI (pc := 25) (As := [.int (1 : Int32), .int (200 : Int32)]) (rest := []) X mi_X5_takeNumber im_X5_takeNumber se_X5_takeNumber (KClt hk4 (by decide)) hk4 clX5 ml_X5_93 (cX5_takeNumber_ct z ad v0 (1 : Int32) (200 : Int32) m3 m7 r6 hq5) rfl rfl (Nat.le_of_ble_eq_true rfl) ⟨rfl, rfl, by decide, by decide, Nat.le_refl _, Nat.le_refl _⟩ dX5_readMen_25 ?_
        refine g_istore_n (lv2 := [(0, .ref (ad v0)), (1, .ref (ad v1)), (2, .int v2), (3, .int r6)]) (pc := 28) X dX5_readMen_28 rfl (by decide) [1, 2, 3, 0] rfl ?_
        refine g_aload_n (pc := 29) X dX5_readMen_29 rfl 0 rfl ?_
        refine g_iconst (v := (1 : Int32)) (pc := 30) X dX5_readMen_30 (by decide) ?_
        refine g_bipush (v := (50 : Int32)) (pc := 31) X dX5_readMen_31 (by decide) ?_
        obtain ⟨r9, m10, hq8, hf⟩ := bnd2_some hf
        refine g_callVI (pc := 33) (As := [.int (1 : Int32), .int (50 : Int32)]) (rest := []) X mi_X5_takeNumber im_X5_takeNumber se_X5_takeNumber (KClt hk4 (by decide)) hk4 clX5 ml_X5_93 (cX5_takeNumber_ct z ad v0 (1 : Int32) (50 : Int32) m7 m10 r9 hq8) rfl rfl (Nat.le_of_ble_eq_true rfl) ⟨rfl, rfl, by decide, by decide, Nat.le_refl _, Nat.le_refl _⟩ dX5_readMen_33 ?_
        refine g_istore (lv2 := [(0, .ref (ad v0)), (1, .ref (ad v1)), (2, .int v2), (3, .int r6), (4, .int r9)]) (pc := 36) X dX5_readMen_36 (by decide) [1, 2, 3, 4, 0] rfl ?_
        refine g_aload_n (pc := 38) X dX5_readMen_38 rfl 0 rfl ?_
        obtain ⟨m12, hq11, hf⟩ := bnd_some hf
        refine g_callVV (pc := 39) (As := []) (rest := []) X mi_X5_takeEnd im_X5_takeEnd se_X5_takeEnd (KClt hk4 (by decide)) hk4 clX5 ml_X5_97 (cX5_takeEnd_ct z ad v0 m10 m12 hq11) rfl rfl (Nat.le_of_ble_eq_true rfl) ⟨rfl, rfl, by decide, by decide, Nat.le_refl _, Nat.le_refl _⟩ dX5_readMen_39 ?_
        refine g_aload_n (pc := 42) X dX5_readMen_42 rfl 1 rfl ?_
        refine g_iload_n (pc := 43) X dX5_readMen_43 rfl 3 rfl ?_
        refine g_iload (pc := 44) X dX5_readMen_44 4 rfl ?_
        obtain ⟨hk15, hf⟩ := gp_some hf
        obtain ⟨m14, hq13, hf⟩ := bnd_some hf
        refine g_callVV (pc := 46) (As := [.int r6, .int r9]) (rest := []) X mi_X2_add im_X2_add se_X2_add (KClt hk15 (by decide)) hk15 clX2 ml_X5_144 (cX2_add_ct z ad v1 r6 r9 m12 m14 hq13) rfl rfl (Nat.le_of_ble_eq_true rfl) ⟨rfl, rfl, by decide, by decide, Nat.le_refl _, Nat.le_refl _⟩ dX5_readMen_46 ?_
        obtain ⟨v2_16, e17, hf⟩ := lt1_some hf
        refine g_iinc (v2 := v2_16) (lv2 := [(0, .ref (ad v0)), (1, .ref (ad v1)), (2, .int v2_16), (3, .int r6), (4, .int r9)]) (pc := 49) X dX5_readMen_49 2 rfl (by rw [e17]; rfl) (by decide) [1, 2, 0, 3, 4] rfl ?_
        refine g_goto (pc := 52) (tgt := 2) X dX5_readMen_52 (by decide) ?_
        refine g_lv [(0, .ref (ad v0)), (1, .ref (ad v1)), (2, .int v2_16)] [0, 1, 2] rfl ?_
        exact hs2 (v2_16, m14) (Option.some.inj hf).symm
  unfold fX5_readMen at hf
  refine g_iconst (v := (0 : Int32)) (pc := 0) X dX5_readMen_0 (by decide) ?_
  obtain ⟨v2_18, e19, hf⟩ := lt1_some hf
  refine g_topi e19 ?_
  refine g_istore_n (lv2 := [(0, .ref (ad v0)), (1, .ref (ad v1)), (2, .int v2_18)]) (pc := 1) X dX5_readMen_1 rfl (by decide) [1, 2, 0] rfl ?_
  exact hL2 _ _ _ _ hf

noncomputable def fX5_kindName (v0 : Int32) : Option Nat := if v0 = 1 then (some 14) else if v0 = 2 then (some 15) else if v0 = 3 then (some 16) else if v0 = 4 then (some 17) else if v0 = 5 then (some 18) else if v0 = 6 then (some 19) else some 20
set_option maxHeartbeats 4000000 in
set_option maxRecDepth 100000 in
theorem cX5_kindName_ct (z : Zx) (ad : Nat → Nat) (v0 : Int32) (m : Mem) (r : Nat) (hf : fX5_kindName v0 = some r) : CtS z wC yX5_kindName cX5_kindName 1 (some (.object "java/lang/String")) (Rm 2) ad 91 [.int v0] m m (z.2.2.2.1 r) := by
  refine ct_ofS mi_X5_kindName rfl (Nat.le_of_ble_eq_true rfl) (fun x X hret => ?_)
  refine g_lv [(0, .int v0)] [0] rfl ?_
  unfold fX5_kindName at hf
  refine g_iload_n (pc := 0) X dX5_kindName_0 rfl 0 rfl ?_
  by_cases hw1 : v0 = 1
  · have hf := itp hw1 hf
    refine g_tblIn (pc := 1) (tgt := 40) (off := 39) X dX5_kindName_1 (by rw [hw1]; decide) (by rw [hw1]; decide) (by rw [hw1]; rfl) (by decide) ?_
    refine g_ldcS (pc := 40) (i := 14) X rfl dX5_kindName_40 ?_
    obtain rfl := Option.some.inj hf
    exact hret _ _ dX5_kindName_42
  have hf := itn hw1 hf
  by_cases hw2 : v0 = 2
  · have hf := itp hw2 hf
    refine g_tblIn (pc := 1) (tgt := 43) (off := 42) X dX5_kindName_1 (by rw [hw2]; decide) (by rw [hw2]; decide) (by rw [hw2]; rfl) (by decide) ?_
    refine g_ldcS (pc := 43) (i := 15) X rfl dX5_kindName_43 ?_
    obtain rfl := Option.some.inj hf
    exact hret _ _ dX5_kindName_45
  have hf := itn hw2 hf
  by_cases hw3 : v0 = 3
  · have hf := itp hw3 hf
    refine g_tblIn (pc := 1) (tgt := 46) (off := 45) X dX5_kindName_1 (by rw [hw3]; decide) (by rw [hw3]; decide) (by rw [hw3]; rfl) (by decide) ?_
    refine g_ldcS (pc := 46) (i := 16) X rfl dX5_kindName_46 ?_
    obtain rfl := Option.some.inj hf
    exact hret _ _ dX5_kindName_48
  have hf := itn hw3 hf
  by_cases hw4 : v0 = 4
  · have hf := itp hw4 hf
    refine g_tblIn (pc := 1) (tgt := 49) (off := 48) X dX5_kindName_1 (by rw [hw4]; decide) (by rw [hw4]; decide) (by rw [hw4]; rfl) (by decide) ?_
    refine g_ldcS (pc := 49) (i := 17) X rfl dX5_kindName_49 ?_
    obtain rfl := Option.some.inj hf
    exact hret _ _ dX5_kindName_51
  have hf := itn hw4 hf
  by_cases hw5 : v0 = 5
  · have hf := itp hw5 hf
    refine g_tblIn (pc := 1) (tgt := 52) (off := 51) X dX5_kindName_1 (by rw [hw5]; decide) (by rw [hw5]; decide) (by rw [hw5]; rfl) (by decide) ?_
    refine g_ldcS (pc := 52) (i := 18) X rfl dX5_kindName_52 ?_
    obtain rfl := Option.some.inj hf
    exact hret _ _ dX5_kindName_54
  have hf := itn hw5 hf
  by_cases hw6 : v0 = 6
  · have hf := itp hw6 hf
    refine g_tblIn (pc := 1) (tgt := 55) (off := 54) X dX5_kindName_1 (by rw [hw6]; decide) (by rw [hw6]; decide) (by rw [hw6]; rfl) (by decide) ?_
    refine g_ldcS (pc := 55) (i := 19) X rfl dX5_kindName_55 ?_
    obtain rfl := Option.some.inj hf
    exact hret _ _ dX5_kindName_57
  have hf := itn hw6 hf
  have hsw : v0.toInt < 1 ∨ 6 < v0.toInt := by
    have nhw1 : ¬ v0.toInt = 1 := fun h => hw1 (Int32.toInt_inj.mp (by rw [h]; rfl))
    have nhw2 : ¬ v0.toInt = 2 := fun h => hw2 (Int32.toInt_inj.mp (by rw [h]; rfl))
    have nhw3 : ¬ v0.toInt = 3 := fun h => hw3 (Int32.toInt_inj.mp (by rw [h]; rfl))
    have nhw4 : ¬ v0.toInt = 4 := fun h => hw4 (Int32.toInt_inj.mp (by rw [h]; rfl))
    have nhw5 : ¬ v0.toInt = 5 := fun h => hw5 (Int32.toInt_inj.mp (by rw [h]; rfl))
    have nhw6 : ¬ v0.toInt = 6 := fun h => hw6 (Int32.toInt_inj.mp (by rw [h]; rfl))
    omega
  refine g_tblOut (pc := 1) (tgt := 58) X dX5_kindName_1 hsw (by decide) ?_
  refine g_ldcS (pc := 58) (i := 20) X rfl dX5_kindName_58 ?_
  obtain rfl := Option.some.inj hf
  exact hret _ _ dX5_kindName_60

noncomputable def fX5_takeKind_37 (v0 : Nat) (m : Mem) : Option (Int32 × Mem) := gp (KC v0 = 5) (bnd (fX5_fail v0 (1 : Int32) m) (fun m2 => some ((1 : Int32), m2)))
noncomputable def fX5_takeKind_22 (v0 : Nat) (v1 : Int32) (m : Mem) : Option (Int32 × Mem) := gp (KC v0 = 5) (bnd (m.2.2 v0 0) (fun q5 => gp (KC q5 = 8) (bnd (fX8_advance q5 m) (fun m8 => some (v1, m8)))))
noncomputable def fX5_takeKind_2b (v0 : Nat) (v1 : Int32) (m : Mem) : Option ((Int32) ⊕ ((Int32) ⊕ Unit)) := if (8 : Int32) ≤ v1 then (some (.inr (.inr ()))) else (gp (KC v0 = 5) (bnd (m.2.2 v0 0) (fun q11 => bnd (fX5_kindName v1) (fun r14 => gp (KC q11 = 8) (bnd (fX8_isName q11 r14 m) (fun r16 => if r16 = 0 then (lt1 (v1 + 1) (fun v1_18 => some (.inl (v1_18)))) else (some (.inr (.inl (v1))))))))))
noncomputable def fX5_takeKind_2 (v0 : Nat) (v1 : Int32) (m : Mem) : Option (Int32 × Mem) := bnd (iter (fun s => fX5_takeKind_2b v0 s m) FU (v1)) (Sum.elim (fun e => fX5_takeKind_22 v0 e m) (fun e => fX5_takeKind_37 v0 m))
noncomputable def fX5_takeKind (v0 : Nat) (m : Mem) : Option (Int32 × Mem) := lt1 ((1 : Int32)) (fun v1_20 => fX5_takeKind_2 v0 v1_20 m)
set_option maxHeartbeats 4000000 in
set_option maxRecDepth 100000 in
theorem cX5_takeKind_ct (z : Zx) (ad : Nat → Nat) (v0 : Nat) (m m2 : Mem) (r : Int32) (hf : fX5_takeKind v0 m = some (r, m2)) : CtI z wC yX5_takeKind cX5_takeKind 2 (some .int) (Rm 8) ad 91 [.ref (ad v0)] m m2 r := by
  refine ct_ofI mi_X5_takeKind rfl (Nat.le_of_ble_eq_true rfl) (fun x X hret => ?_)
  refine g_lv [(0, .ref (ad v0))] [0] rfl ?_
  have hL37 : ∀ (v0 : Nat) (m : Mem), fX5_takeKind_37 v0 m = some (r, m2) → G z wC x 2 0 0 ad 91 m 37 [(0, .ref (ad v0))] [] := by
    intro v0 m hf
    unfold fX5_takeKind_37 at hf
    refine g_aload_n (pc := 37) X dX5_takeKind_37 rfl 0 rfl ?_
    refine g_iconst (v := (1 : Int32)) (pc := 38) X dX5_takeKind_38 (by decide) ?_
    obtain ⟨hk3, hf⟩ := gp_some hf
    obtain ⟨m2, hq1, hf⟩ := bnd_some hf
    refine g_callVV (pc := 39) (As := [.int (1 : Int32)]) (rest := []) X mi_X5_fail im_X5_fail se_X5_fail (KClt hk3 (by decide)) hk3 clX5 ml_X5_79 (cX5_fail_ct z ad v0 (1 : Int32) m m2 hq1) rfl rfl (Nat.le_of_ble_eq_true rfl) ⟨rfl, rfl, by decide, by decide, Nat.le_refl _, Nat.le_refl _⟩ dX5_takeKind_39 ?_
    refine g_iconst (v := (1 : Int32)) (pc := 42) X dX5_takeKind_42 (by decide) ?_
    obtain ⟨rfl, rfl⟩ := som2 hf
    exact hret _ _ rfl dX5_takeKind_43
  have hL22 : ∀ (v0 : Nat) (v1 : Int32) (m : Mem), fX5_takeKind_22 v0 v1 m = some (r, m2) → G z wC x 2 0 0 ad 91 m 22 [(0, .ref (ad v0)), (1, .int v1)] [] := by
    intro v0 v1 m hf
    unfold fX5_takeKind_22 at hf
    refine g_aload_n (pc := 22) X dX5_takeKind_22 rfl 0 rfl ?_
    obtain ⟨hk4, hf⟩ := gp_some hf
    obtain ⟨q5, hr6, hf⟩ := bnd_some hf
    refine g_getR (pc := 23) X fl_X5_14 (KClt hk4 (by decide)) hk4 hr6 dX5_takeKind_23 ?_
    obtain ⟨hk9, hf⟩ := gp_some hf
    obtain ⟨m8, hq7, hf⟩ := bnd_some hf
    refine g_callVV (pc := 26) (As := []) (rest := []) X mi_X8_advance im_X8_advance se_X8_advance (KClt hk9 (by decide)) hk9 clX8 ml_X5_171 (cX8_advance_ct z ad q5 m m8 hq7) rfl rfl (Nat.le_of_ble_eq_true rfl) ⟨rfl, rfl, by decide, by decide, Nat.le_refl _, Nat.le_refl _⟩ dX5_takeKind_26 ?_
    refine g_iload_n (pc := 29) X dX5_takeKind_29 rfl 1 rfl ?_
    obtain ⟨rfl, rfl⟩ := som2 hf
    exact hret _ _ rfl dX5_takeKind_30
  have hL2 : ∀ (v0 : Nat) (v1 : Int32) (m : Mem), fX5_takeKind_2 v0 v1 m = some (r, m2) → G z wC x 2 0 0 ad 91 m 2 [(0, .ref (ad v0)), (1, .int v1)] [] := by
    intro v0 v1 m hf
    unfold fX5_takeKind_2 at hf
    obtain ⟨e2, hit2, hrest2⟩ := bnd_some hf
    refine iter_ok (Hd := fun (s : (Int32)) => G z wC x 2 0 0 ad 91 m 2 [(0, .ref (ad v0)), (1, .int s)] []) ?_ FU (v1) hit2
    intro v1 ob2 hf hs2 he2
    have hf : fX5_takeKind_2b v0 v1 m = some ob2 := hf
    unfold fX5_takeKind_2b at hf
    refine g_iload_n (pc := 2) X dX5_takeKind_2 rfl 1 rfl ?_
    refine g_bipush (v := (8 : Int32)) (pc := 3) X dX5_takeKind_3 (by decide) ?_
    refine g_icmp_ge (pc := 5) (tgt := 37) X dX5_takeKind_5 (by decide) (fun hc => ?_) (fun hc => ?_)
    · have hf := itp hc hf
      have he2 := he2 _ (Option.some.inj hf).symm
      subst he2
      have hf : fX5_takeKind_37 v0 m = some (r, m2) := hrest2
      refine g_lv [(0, .ref (ad v0))] [0] rfl ?_
      exact hL37 _ _ hf
    · have hf := itn hc hf
      refine g_aload_n (pc := 8) X dX5_takeKind_8 rfl 0 rfl ?_
      obtain ⟨hk10, hf⟩ := gp_some hf
      obtain ⟨q11, hr12, hf⟩ := bnd_some hf
      refine g_getR (pc := 9) X fl_X5_14 (KClt hk10 (by decide)) hk10 hr12 dX5_takeKind_9 ?_
      refine g_iload_n (pc := 12) X dX5_takeKind_12 rfl 1 rfl ?_
      obtain ⟨r14, hq13, hf⟩ := bnd_some hf
      refine g_callSS (pc := 13) (As := [.int v1]) (rest := [.ref (ad q11)]) X mi_X5_kindName sm_X5_kindName ml_X5_192 (cX5_kindName_ct z ad v1 m r14 hq13) rfl rfl (Nat.le_of_ble_eq_true rfl) ⟨rfl, rfl, by decide, by decide, Nat.le_refl _, Nat.le_refl _⟩ dX5_takeKind_13 ?_
      obtain ⟨hk17, hf⟩ := gp_some hf
      obtain ⟨r16, hq15, hf⟩ := bnd_some hf
      refine g_callVI (pc := 16) (As := [.ref (z.2.2.2.1 r14)]) (rest := []) X mi_X8_isName im_X8_isName se_X8_isName (KClt hk17 (by decide)) hk17 clX8 ml_X5_108 (cX8_isName_ct z ad q11 r14 m r16 hq15) rfl rfl (Nat.le_of_ble_eq_true rfl) ⟨rfl, rfl, by decide, by decide, Nat.le_refl _, Nat.le_refl _⟩ dX5_takeKind_16 ?_
      refine g_if_eq (pc := 19) (tgt := 31) X dX5_takeKind_19 (by decide) (fun hc => ?_) (fun hc => ?_)
      · have hf := itp hc hf
        obtain ⟨v1_18, e19, hf⟩ := lt1_some hf
        refine g_iinc (v2 := v1_18) (lv2 := [(0, .ref (ad v0)), (1, .int v1_18)]) (pc := 31) X dX5_takeKind_31 1 rfl (by rw [e19]; rfl) (by decide) [1, 0] rfl ?_
        refine g_goto (pc := 34) (tgt := 2) X dX5_takeKind_34 (by decide) ?_
        exact hs2 (v1_18) (Option.some.inj hf).symm
      · have hf := itn hc hf
        have he2 := he2 _ (Option.some.inj hf).symm
        subst he2
        have hf : fX5_takeKind_22 v0 v1 m = some (r, m2) := hrest2
        exact hL22 _ _ _ hf
  unfold fX5_takeKind at hf
  refine g_iconst (v := (1 : Int32)) (pc := 0) X dX5_takeKind_0 (by decide) ?_
  obtain ⟨v1_20, e21, hf⟩ := lt1_some hf
  refine g_topi e21 ?_
  refine g_istore_n (lv2 := [(0, .ref (ad v0)), (1, .int v1_20)]) (pc := 1) X dX5_takeKind_1 rfl (by decide) [1, 0] rfl ?_
  exact hL2 _ _ _ hf

noncomputable def fX1_addSign (v0 : Nat) (v1 : Int32) (v2 : Int32) (m : Mem) : Option Mem := gp (KC v0 = 1) (if (10 : Int32) ≤ (m.1 v0 5) then (some m) else (bnd (m.2.2 v0 0) (fun q2 => gp (KC q2 = 14) (gp (inb (m.1 v0 5) (NC q2) = true) (lt1 (uI m q2 (m.1 v0 5).toNatClampNeg v1) (fun m6 => bnd (m6.2.2 v0 1) (fun q8 => gp (KC q8 = 14) (gp (inb (m6.1 v0 5) (NC q8) = true) (lt1 (uI m6 q8 (m6.1 v0 5).toNatClampNeg v2) (fun m12 => lt1 (uI m12 v0 5 ((m12.1 v0 5) + (1 : Int32))) (fun m14 => some m14)))))))))))
set_option maxHeartbeats 4000000 in
set_option maxRecDepth 100000 in
theorem cX1_addSign_ct (z : Zx) (ad : Nat → Nat) (v0 : Nat) (v1 : Int32) (v2 : Int32) (m m2 : Mem) (hf : fX1_addSign v0 v1 v2 m = some m2) : CtV z wC yX1_addSign cX1_addSign 3 none (Rm 2) ad 91 [.ref (ad v0), .int v1, .int v2] m m2 := by
  refine ct_ofV mi_X1_addSign rfl (Nat.le_of_ble_eq_true rfl) (fun x X hret => ?_)
  refine g_lv [(0, .ref (ad v0)), (1, .int v1), (2, .int v2)] [0, 1, 2] rfl ?_
  unfold fX1_addSign at hf
  refine g_aload_n (pc := 0) X dX1_addSign_0 rfl 0 rfl ?_
  obtain ⟨hk1, hf⟩ := gp_some hf
  refine g_getI (pc := 1) X fl_X1_27 (KClt hk1 (by decide)) hk1 dX1_addSign_1 ?_
  refine g_bipush (v := (10 : Int32)) (pc := 4) X dX1_addSign_4 (by decide) ?_
  refine g_icmp_ge (pc := 6) (tgt := 39) X dX1_addSign_6 (by decide) (fun hc => ?_) (fun hc => ?_)
  · have hf := itp hc hf
    obtain rfl := Option.some.inj hf
    exact hret _ _ dX1_addSign_39
  · have hf := itn hc hf
    refine g_aload_n (pc := 9) X dX1_addSign_9 rfl 0 rfl ?_
    obtain ⟨q2, hr3, hf⟩ := bnd_some hf
    refine g_getR (pc := 10) X fl_X1_9 (KClt hk1 (by decide)) hk1 hr3 dX1_addSign_10 ?_
    refine g_aload_n (pc := 13) X dX1_addSign_13 rfl 0 rfl ?_
    refine g_getI (pc := 14) X fl_X1_27 (KClt hk1 (by decide)) hk1 dX1_addSign_14 ?_
    refine g_iload_n (pc := 17) X dX1_addSign_17 rfl 1 rfl ?_
    obtain ⟨hk4, hf⟩ := gp_some hf
    obtain ⟨hi5, hf⟩ := gp_some hf
    refine g_iast (pc := 18) X (KClt hk4 (by decide)) hk4 hi5 dX1_addSign_18 ?_
    obtain ⟨m6, e7, hf⟩ := lt1_some hf
    refine g_mem e7 ?_
    refine g_aload_n (pc := 19) X dX1_addSign_19 rfl 0 rfl ?_
    obtain ⟨q8, hr9, hf⟩ := bnd_some hf
    refine g_getR (pc := 20) X fl_X1_15 (KClt hk1 (by decide)) hk1 hr9 dX1_addSign_20 ?_
    refine g_aload_n (pc := 23) X dX1_addSign_23 rfl 0 rfl ?_
    refine g_getI (pc := 24) X fl_X1_27 (KClt hk1 (by decide)) hk1 dX1_addSign_24 ?_
    refine g_iload_n (pc := 27) X dX1_addSign_27 rfl 2 rfl ?_
    obtain ⟨hk10, hf⟩ := gp_some hf
    obtain ⟨hi11, hf⟩ := gp_some hf
    refine g_iast (pc := 28) X (KClt hk10 (by decide)) hk10 hi11 dX1_addSign_28 ?_
    obtain ⟨m12, e13, hf⟩ := lt1_some hf
    refine g_mem e13 ?_
    refine g_aload_n (pc := 29) X dX1_addSign_29 rfl 0 rfl ?_
    refine g_dup (pc := 30) X dX1_addSign_30 rfl ?_
    refine g_getI (pc := 31) X fl_X1_27 (KClt hk1 (by decide)) hk1 dX1_addSign_31 ?_
    refine g_iconst (v := (1 : Int32)) (pc := 34) X dX1_addSign_34 (by decide) ?_
    refine g_iadd (pc := 35) X dX1_addSign_35 ?_
    refine g_putI (pc := 36) X fl_X1_27 (KClt hk1 (by decide)) hk1 rfl rfl dX1_addSign_36 ?_
    obtain ⟨m14, e15, hf⟩ := lt1_some hf
    refine g_mem e15 ?_
    obtain rfl := Option.some.inj hf
    exact hret _ _ dX1_addSign_39

noncomputable def fX5_readSigns_2b (v0 : Nat) (v1 : Nat) (v2 : Int32) (m : Mem) : Option ((Int32 × Mem) ⊕ (Mem)) := if (10 : Int32) < v2 then (some (.inr (m))) else (gp (KC v0 = 5) (bnd2 (fX5_begins v0 13 v2 (10 : Int32) m) (fun r2 m3 => if r2 = 0 then (some (.inr (m3))) else (bnd2 (fX5_takeKind v0 m3) (fun r6 m7 => bnd2 (fX5_takeNumber v0 (0 : Int32) (9 : Int32) m7) (fun r9 m10 => bnd (fX5_takeEnd v0 m10) (fun m12 => gp (KC v1 = 1) (bnd (fX1_addSign v1 r6 r9 m12) (fun m14 => lt1 (v2 + 1) (fun v2_16 => some (.inl (v2_16, m14))))))))))))
noncomputable def fX5_readSigns_2 (v0 : Nat) (v1 : Nat) (v2 : Int32) (m : Mem) : Option Mem := bnd (iter (fun s => fX5_readSigns_2b v0 v1 s.1 s.2) FU (v2, m)) (fun e => some e)
noncomputable def fX5_readSigns (v0 : Nat) (v1 : Nat) (m : Mem) : Option Mem := lt1 ((0 : Int32)) (fun v2_18 => fX5_readSigns_2 v0 v1 v2_18 m)
set_option maxHeartbeats 4000000 in
set_option maxRecDepth 100000 in
theorem cX5_readSigns_ct (z : Zx) (ad : Nat → Nat) (v0 : Nat) (v1 : Nat) (m m2 : Mem) (hf : fX5_readSigns v0 v1 m = some m2) : CtV z wC yX5_readSigns cX5_readSigns 5 none (Rm 9) ad 91 [.ref (ad v0), .ref (ad v1)] m m2 := by
  refine ct_ofV mi_X5_readSigns rfl (Nat.le_of_ble_eq_true rfl) (fun x X hret => ?_)
  refine g_lv [(0, .ref (ad v0)), (1, .ref (ad v1))] [0, 1] rfl ?_
  have hL2 : ∀ (v0 : Nat) (v1 : Nat) (v2 : Int32) (m : Mem), fX5_readSigns_2 v0 v1 v2 m = some m2 → G z wC x 5 0 0 ad 91 m 2 [(0, .ref (ad v0)), (1, .ref (ad v1)), (2, .int v2)] [] := by
    intro v0 v1 v2 m hf
    unfold fX5_readSigns_2 at hf
    obtain ⟨e2, hit2, hrest2⟩ := bnd_some hf
    refine iter_ok (Hd := fun (s : (Int32 × Mem)) => G z wC x 5 0 0 ad 91 s.2 2 [(0, .ref (ad v0)), (1, .ref (ad v1)), (2, .int s.1)] []) ?_ FU (v2, m) hit2
    intro s ob2 hf hs2 he2
    obtain ⟨v2, m⟩ := s
    have hf : fX5_readSigns_2b v0 v1 v2 m = some ob2 := hf
    unfold fX5_readSigns_2b at hf
    refine g_iload_n (pc := 2) X dX5_readSigns_2 rfl 2 rfl ?_
    refine g_bipush (v := (10 : Int32)) (pc := 3) X dX5_readSigns_3 (by decide) ?_
    refine g_icmp_gt (pc := 5) (tgt := 51) X dX5_readSigns_5 (by decide) (fun hc => ?_) (fun hc => ?_)
    · have hf := itp hc hf
      have he2 := he2 _ (Option.some.inj hf).symm
      subst he2
      have hf : some m = some m2 := hrest2
      obtain rfl := Option.some.inj hf
      exact hret _ _ dX5_readSigns_51
    · have hf := itn hc hf
      refine g_aload_n (pc := 8) X dX5_readSigns_8 rfl 0 rfl ?_
      refine g_ldcS (pc := 9) (i := 13) X rfl dX5_readSigns_9 ?_
      refine g_iload_n (pc := 11) X dX5_readSigns_11 rfl 2 rfl ?_
      refine g_bipush (v := (10 : Int32)) (pc := 12) X dX5_readSigns_12 (by decide) ?_
      obtain ⟨hk4, hf⟩ := gp_some hf
      obtain ⟨r2, m3, hq1, hf⟩ := bnd2_some hf
      refine g_callVI (pc := 14) (As := [.ref (z.2.2.2.1 13), .int v2, .int (10 : Int32)]) (rest := []) X mi_X5_begins im_X5_begins se_X5_begins (KClt hk4 (by decide)) hk4 clX5 ml_X5_112 (cX5_begins_ct z ad v0 13 v2 (10 : Int32) m m3 r2 hq1) rfl rfl (Nat.le_of_ble_eq_true rfl) ⟨rfl, rfl, by decide, by decide, Nat.le_refl _, Nat.le_refl _⟩ dX5_readSigns_14 ?_
      refine g_if_eq (pc := 17) (tgt := 51) X dX5_readSigns_17 (by decide) (fun hc => ?_) (fun hc => ?_)
      · have hf := itp hc hf
        have he2 := he2 _ (Option.some.inj hf).symm
        subst he2
        have hf : some m3 = some m2 := hrest2
        obtain rfl := Option.some.inj hf
        exact hret _ _ dX5_readSigns_51
      · have hf := itn hc hf
        refine g_aload_n (pc := 20) X dX5_readSigns_20 rfl 0 rfl ?_
        obtain ⟨r6, m7, hq5, hf⟩ := bnd2_some hf
        refine g_callVI (pc := 21) (As := []) (rest := []) X mi_X5_takeKind im_X5_takeKind se_X5_takeKind (KClt hk4 (by decide)) hk4 clX5 ml_X5_151 (cX5_takeKind_ct z ad v0 m3 m7 r6 hq5) rfl rfl (Nat.le_of_ble_eq_true rfl) ⟨rfl, rfl, by decide, by decide, Nat.le_refl _, Nat.le_refl _⟩ dX5_readSigns_21 ?_
        refine g_istore_n (lv2 := [(0, .ref (ad v0)), (1, .ref (ad v1)), (2, .int v2), (3, .int r6)]) (pc := 24) X dX5_readSigns_24 rfl (by decide) [1, 2, 3, 0] rfl ?_
        refine g_aload_n (pc := 25) X dX5_readSigns_25 rfl 0 rfl ?_
        refine g_iconst (v := (0 : Int32)) (pc := 26) X dX5_readSigns_26 (by decide) ?_
        refine g_bipush (v := (9 : Int32)) (pc := 27) X dX5_readSigns_27 (by decide) ?_
        obtain ⟨r9, m10, hq8, hf⟩ := bnd2_some hf
        refine g_callVI (pc := 29) (As := [.int (0 : Int32), .int (9 : Int32)]) (rest := []) X mi_X5_takeNumber im_X5_takeNumber se_X5_takeNumber (KClt hk4 (by decide)) hk4 clX5 ml_X5_93 (cX5_takeNumber_ct z ad v0 (0 : Int32) (9 : Int32) m7 m10 r9 hq8) rfl rfl (Nat.le_of_ble_eq_true rfl) ⟨rfl, rfl, by decide, by decide, Nat.le_refl _, Nat.le_refl _⟩ dX5_readSigns_29 ?_
        refine g_istore (lv2 := [(0, .ref (ad v0)), (1, .ref (ad v1)), (2, .int v2), (3, .int r6), (4, .int r9)]) (pc := 32) X dX5_readSigns_32 (by decide) [1, 2, 3, 4, 0] rfl ?_
        refine g_aload_n (pc := 34) X dX5_readSigns_34 rfl 0 rfl ?_
        obtain ⟨m12, hq11, hf⟩ := bnd_some hf
        refine g_callVV (pc := 35) (As := []) (rest := []) X mi_X5_takeEnd im_X5_takeEnd se_X5_takeEnd (KClt hk4 (by decide)) hk4 clX5 ml_X5_97 (cX5_takeEnd_ct z ad v0 m10 m12 hq11) rfl rfl (Nat.le_of_ble_eq_true rfl) ⟨rfl, rfl, by decide, by decide, Nat.le_refl _, Nat.le_refl _⟩ dX5_readSigns_35 ?_
        refine g_aload_n (pc := 38) X dX5_readSigns_38 rfl 1 rfl ?_
        refine g_iload_n (pc := 39) X dX5_readSigns_39 rfl 3 rfl ?_
        refine g_iload (pc := 40) X dX5_readSigns_40 4 rfl ?_
        obtain ⟨hk15, hf⟩ := gp_some hf
        obtain ⟨m14, hq13, hf⟩ := bnd_some hf
        refine g_callVV (pc := 42) (As := [.int r6, .int r9]) (rest := []) X mi_X1_addSign im_X1_addSign se_X1_addSign (KClt hk15 (by decide)) hk15 clX1 ml_X5_154 (cX1_addSign_ct z ad v1 r6 r9 m12 m14 hq13) rfl rfl (Nat.le_of_ble_eq_true rfl) ⟨rfl, rfl, by decide, by decide, Nat.le_refl _, Nat.le_refl _⟩ dX5_readSigns_42 ?_
        obtain ⟨v2_16, e17, hf⟩ := lt1_some hf
        refine g_iinc (v2 := v2_16) (lv2 := [(0, .ref (ad v0)), (1, .ref (ad v1)), (2, .int v2_16), (3, .int r6), (4, .int r9)]) (pc := 45) X dX5_readSigns_45 2 rfl (by rw [e17]; rfl) (by decide) [1, 2, 0, 3, 4] rfl ?_
        refine g_goto (pc := 48) (tgt := 2) X dX5_readSigns_48 (by decide) ?_
        refine g_lv [(0, .ref (ad v0)), (1, .ref (ad v1)), (2, .int v2_16)] [0, 1, 2] rfl ?_
        exact hs2 (v2_16, m14) (Option.some.inj hf).symm
  unfold fX5_readSigns at hf
  refine g_iconst (v := (0 : Int32)) (pc := 0) X dX5_readSigns_0 (by decide) ?_
  obtain ⟨v2_18, e19, hf⟩ := lt1_some hf
  refine g_topi e19 ?_
  refine g_istore_n (lv2 := [(0, .ref (ad v0)), (1, .ref (ad v1)), (2, .int v2_18)]) (pc := 1) X dX5_readSigns_1 rfl (by decide) [1, 2, 0] rfl ?_
  exact hL2 _ _ _ _ hf

noncomputable def fX1_addStory (v0 : Nat) (v1 : Int32) (m : Mem) : Option Mem := gp (KC v0 = 1) (if (6 : Int32) ≤ (m.1 v0 6) then (some m) else (bnd (m.2.2 v0 4) (fun q2 => gp (KC q2 = 14) (gp (inb (m.1 v0 6) (NC q2) = true) (lt1 (uI m q2 (m.1 v0 6).toNatClampNeg v1) (fun m6 => bnd (m6.2.2 v0 2) (fun q8 => gp (KC q8 = 14) (gp (inb (m6.1 v0 6) (NC q8) = true) (lt1 (uI m6 q8 (m6.1 v0 6).toNatClampNeg (0 : Int32)) (fun m12 => bnd (m12.2.2 v0 3) (fun q14 => gp (KC q14 = 14) (gp (inb (m12.1 v0 6) (NC q14) = true) (lt1 (uI m12 q14 (m12.1 v0 6).toNatClampNeg (0 : Int32)) (fun m18 => lt1 (uI m18 v0 6 ((m18.1 v0 6) + (1 : Int32))) (fun m20 => some m20)))))))))))))))
set_option maxHeartbeats 4000000 in
set_option maxRecDepth 100000 in
theorem cX1_addStory_ct (z : Zx) (ad : Nat → Nat) (v0 : Nat) (v1 : Int32) (m m2 : Mem) (hf : fX1_addStory v0 v1 m = some m2) : CtV z wC yX1_addStory cX1_addStory 2 none (Rm 2) ad 91 [.ref (ad v0), .int v1] m m2 := by
  refine ct_ofV mi_X1_addStory rfl (Nat.le_of_ble_eq_true rfl) (fun x X hret => ?_)
  refine g_lv [(0, .ref (ad v0)), (1, .int v1)] [0, 1] rfl ?_
  unfold fX1_addStory at hf
  refine g_aload_n (pc := 0) X dX1_addStory_0 rfl 0 rfl ?_
  obtain ⟨hk1, hf⟩ := gp_some hf
  refine g_getI (pc := 1) X fl_X1_31 (KClt hk1 (by decide)) hk1 dX1_addStory_1 ?_
  refine g_bipush (v := (6 : Int32)) (pc := 4) X dX1_addStory_4 (by decide) ?_
  refine g_icmp_ge (pc := 6) (tgt := 49) X dX1_addStory_6 (by decide) (fun hc => ?_) (fun hc => ?_)
  · have hf := itp hc hf
    obtain rfl := Option.some.inj hf
    exact hret _ _ dX1_addStory_49
  · have hf := itn hc hf
    refine g_aload_n (pc := 9) X dX1_addStory_9 rfl 0 rfl ?_
    obtain ⟨q2, hr3, hf⟩ := bnd_some hf
    refine g_getR (pc := 10) X fl_X1_24 (KClt hk1 (by decide)) hk1 hr3 dX1_addStory_10 ?_
    refine g_aload_n (pc := 13) X dX1_addStory_13 rfl 0 rfl ?_
    refine g_getI (pc := 14) X fl_X1_31 (KClt hk1 (by decide)) hk1 dX1_addStory_14 ?_
    refine g_iload_n (pc := 17) X dX1_addStory_17 rfl 1 rfl ?_
    obtain ⟨hk4, hf⟩ := gp_some hf
    obtain ⟨hi5, hf⟩ := gp_some hf
    refine g_iast (pc := 18) X (KClt hk4 (by decide)) hk4 hi5 dX1_addStory_18 ?_
    obtain ⟨m6, e7, hf⟩ := lt1_some hf
    refine g_mem e7 ?_
    refine g_aload_n (pc := 19) X dX1_addStory_19 rfl 0 rfl ?_
    obtain ⟨q8, hr9, hf⟩ := bnd_some hf
    refine g_getR (pc := 20) X fl_X1_18 (KClt hk1 (by decide)) hk1 hr9 dX1_addStory_20 ?_
    refine g_aload_n (pc := 23) X dX1_addStory_23 rfl 0 rfl ?_
    refine g_getI (pc := 24) X fl_X1_31 (KClt hk1 (by decide)) hk1 dX1_addStory_24 ?_
    refine g_iconst (v := (0 : Int32)) (pc := 27) X dX1_addStory_27 (by decide) ?_
    obtain ⟨hk10, hf⟩ := gp_some hf
    obtain ⟨hi11, hf⟩ := gp_some hf
    refine g_iast (pc := 28) X (KClt hk10 (by decide)) hk10 hi11 dX1_addStory_28 ?_
    obtain ⟨m12, e13, hf⟩ := lt1_some hf
    refine g_mem e13 ?_
    refine g_aload_n (pc := 29) X dX1_addStory_29 rfl 0 rfl ?_
    obtain ⟨q14, hr15, hf⟩ := bnd_some hf
    refine g_getR (pc := 30) X fl_X1_21 (KClt hk1 (by decide)) hk1 hr15 dX1_addStory_30 ?_
    refine g_aload_n (pc := 33) X dX1_addStory_33 rfl 0 rfl ?_
    refine g_getI (pc := 34) X fl_X1_31 (KClt hk1 (by decide)) hk1 dX1_addStory_34 ?_
    refine g_iconst (v := (0 : Int32)) (pc := 37) X dX1_addStory_37 (by decide) ?_
    obtain ⟨hk16, hf⟩ := gp_some hf
    obtain ⟨hi17, hf⟩ := gp_some hf
    refine g_iast (pc := 38) X (KClt hk16 (by decide)) hk16 hi17 dX1_addStory_38 ?_
    obtain ⟨m18, e19, hf⟩ := lt1_some hf
    refine g_mem e19 ?_
    refine g_aload_n (pc := 39) X dX1_addStory_39 rfl 0 rfl ?_
    refine g_dup (pc := 40) X dX1_addStory_40 rfl ?_
    refine g_getI (pc := 41) X fl_X1_31 (KClt hk1 (by decide)) hk1 dX1_addStory_41 ?_
    refine g_iconst (v := (1 : Int32)) (pc := 44) X dX1_addStory_44 (by decide) ?_
    refine g_iadd (pc := 45) X dX1_addStory_45 ?_
    refine g_putI (pc := 46) X fl_X1_31 (KClt hk1 (by decide)) hk1 rfl rfl dX1_addStory_46 ?_
    obtain ⟨m20, e21, hf⟩ := lt1_some hf
    refine g_mem e21 ?_
    obtain rfl := Option.some.inj hf
    exact hret _ _ dX1_addStory_49

noncomputable def fX1_isSign (v0 : Nat) (v1 : Int32) (m : Mem) : Option Int32 := gp (KC v0 = 1) (bnd (fX11_isWithin v1 (0 : Int32) ((m.1 v0 5) - (1 : Int32))) (fun r3 => gp (zb r3 = true) (some r3)))
set_option maxHeartbeats 4000000 in
set_option maxRecDepth 100000 in
theorem cX1_isSign_ct (z : Zx) (ad : Nat → Nat) (v0 : Nat) (v1 : Int32) (m : Mem) (r : Int32) (hf : fX1_isSign v0 v1 m = some r) : CtI z wC yX1_isSign cX1_isSign 2 (some .boolean) (Rm 3) ad 91 [.ref (ad v0), .int v1] m m r := by
  refine ct_ofI mi_X1_isSign rfl (Nat.le_of_ble_eq_true rfl) (fun x X hret => ?_)
  refine g_lv [(0, .ref (ad v0)), (1, .int v1)] [0, 1] rfl ?_
  unfold fX1_isSign at hf
  refine g_iload_n (pc := 0) X dX1_isSign_0 rfl 1 rfl ?_
  refine g_iconst (v := (0 : Int32)) (pc := 1) X dX1_isSign_1 (by decide) ?_
  refine g_aload_n (pc := 2) X dX1_isSign_2 rfl 0 rfl ?_
  obtain ⟨hk1, hf⟩ := gp_some hf
  refine g_getI (pc := 3) X fl_X1_27 (KClt hk1 (by decide)) hk1 dX1_isSign_3 ?_
  refine g_iconst (v := (1 : Int32)) (pc := 6) X dX1_isSign_6 (by decide) ?_
  refine g_isub (pc := 7) X dX1_isSign_7 ?_
  obtain ⟨r3, hq2, hf⟩ := bnd_some hf
  refine g_callSNI (pc := 8) (As := [.int v1, .int (0 : Int32), .int ((m.1 v0 5) - (1 : Int32))]) (rest := []) (q := 11) X mi_X11_isWithin sm_X11_isWithin rfl (cX11_isWithin_ct z ad v1 (0 : Int32) ((m.1 v0 5) - (1 : Int32)) m r3 hq2) rfl rfl (Nat.le_of_ble_eq_true rfl) ⟨rfl, rfl, by decide, by decide, Nat.le_refl _, Nat.le_refl _⟩ dX1_isSign_8 ?_
  obtain ⟨hzr, hf⟩ := gp_some hf
  obtain rfl := Option.some.inj hf
  exact hret _ _ (zb_nar hzr) dX1_isSign_11

