noncomputable def fX11_isWithin (v0 : Int32) (v1 : Int32) (v2 : Int32) : Option Int32 := if v0 < v1 then (some (0 : Int32)) else (if v2 < v0 then (some (0 : Int32)) else (some (1 : Int32)))
set_option maxHeartbeats 4000000 in
set_option maxRecDepth 100000 in
theorem cX11_isWithin_ct (z : Zx) (ad : Nat → Nat) (v0 : Int32) (v1 : Int32) (v2 : Int32) (m : Mem) (r : Int32) (hf : fX11_isWithin v0 v1 v2 = some r) : CtI z wC yX11_isWithin cX11_isWithin 3 (some .boolean) (Rm 2) ad 91 [.int v0, .int v1, .int v2] m m r := by
  refine ct_ofI mi_X11_isWithin rfl (Nat.le_of_ble_eq_true rfl) (fun x X hret => ?_)
  refine g_lv [(0, .int v0), (1, .int v1), (2, .int v2)] [0, 1, 2] rfl ?_
  unfold fX11_isWithin at hf
  refine g_iload_n (pc := 0) X dX11_isWithin_0 rfl 0 rfl ?_
  refine g_iload_n (pc := 1) X dX11_isWithin_1 rfl 1 rfl ?_
  refine g_icmp_lt (pc := 2) (tgt := 14) X dX11_isWithin_2 (by decide) (fun hc => ?_) (fun hc => ?_)
  · have hf := itp hc hf
    refine g_iconst (v := (0 : Int32)) (pc := 14) X dX11_isWithin_14 (by decide) ?_
    obtain rfl := Option.some.inj hf
    exact hret _ _ (by decide) dX11_isWithin_15
  · have hf := itn hc hf
    refine g_iload_n (pc := 5) X dX11_isWithin_5 rfl 0 rfl ?_
    refine g_iload_n (pc := 6) X dX11_isWithin_6 rfl 2 rfl ?_
    refine g_icmp_gt (pc := 7) (tgt := 14) X dX11_isWithin_7 (by decide) (fun hc => ?_) (fun hc => ?_)
    · have hf := itp hc hf
      refine g_iconst (v := (0 : Int32)) (pc := 14) X dX11_isWithin_14 (by decide) ?_
      obtain rfl := Option.some.inj hf
      exact hret _ _ (by decide) dX11_isWithin_15
    · have hf := itn hc hf
      refine g_iconst (v := (1 : Int32)) (pc := 10) X dX11_isWithin_10 (by decide) ?_
      refine g_goto (pc := 11) (tgt := 15) X dX11_isWithin_11 (by decide) ?_
      obtain rfl := Option.some.inj hf
      exact hret _ _ (by decide) dX11_isWithin_15

noncomputable def fX11_found (v0 : Nat) (v1 : Int32) (m : Mem) : Option (Int64 × Mem) := gp (KC v0 = 11) (lt1 (uI m v0 9 v1) (fun m2 => some ((-9000000000000000010 : Int64) - v1.toInt64, m2)))
set_option maxHeartbeats 4000000 in
set_option maxRecDepth 100000 in
theorem cX11_found_ct (z : Zx) (ad : Nat → Nat) (v0 : Nat) (v1 : Int32) (m m2 : Mem) (r : Int64) (hf : fX11_found v0 v1 m = some (r, m2)) : CtL z wC yX11_found cX11_found 2 (some .long) (Rm 2) ad 91 [.ref (ad v0), .int v1] m m2 r := by
  refine ct_ofL mi_X11_found rfl (Nat.le_of_ble_eq_true rfl) (fun x X hret => ?_)
  refine g_lv [(0, .ref (ad v0)), (1, .int v1)] [0, 1] rfl ?_
  unfold fX11_found at hf
  refine g_aload_n (pc := 0) X dX11_found_0 rfl 0 rfl ?_
  refine g_iload_n (pc := 1) X dX11_found_1 rfl 1 rfl ?_
  obtain ⟨hk1, hf⟩ := gp_some hf
  refine g_putI (pc := 2) X fl_X11_373 (KClt hk1 (by decide)) hk1 rfl rfl dX11_found_2 ?_
  obtain ⟨m2, e3, hf⟩ := lt1_some hf
  refine g_mem e3 ?_
  refine g_ldc2 (pc := 5) X dX11_found_5 kl_X11_376 ?_
  refine g_iload_n (pc := 8) X dX11_found_8 rfl 1 rfl ?_
  refine g_i2l (pc := 9) X dX11_found_9 ?_
  refine g_lsub (pc := 10) X dX11_found_10 ?_
  obtain ⟨rfl, rfl⟩ := som2 hf
  exact hret _ _ dX11_found_11

noncomputable def fX6_begin_12b (v0 : Nat) (v3 : Int32) (m : Mem) : Option ((Int32 × Mem) ⊕ (Mem)) := if (40 : Int32) ≤ v3 then (some (.inr (m))) else (gp (KC v0 = 6) (bnd (m.2.2 v0 0) (fun q2 => gp (KC q2 = 14) (gp (inb v3 (NC q2) = true) (lt1 (uI m q2 v3.toNatClampNeg (0 : Int32)) (fun m6 => lt1 (v3 + 1) (fun v3_8 => some (.inl (v3_8, m6)))))))))
noncomputable def fX6_begin_12 (v0 : Nat) (v3 : Int32) (m : Mem) : Option Mem := bnd (iter (fun s => fX6_begin_12b v0 s.1 s.2) FU (v3, m)) (fun e => some e)
noncomputable def fX6_begin (v0 : Nat) (v1 : Int32) (v2 : Int32) (m : Mem) : Option Mem := gp (KC v0 = 6) (lt1 (uI m v0 1 v1) (fun m11 => lt1 (uI m11 v0 2 v2) (fun m13 => lt1 ((0 : Int32)) (fun v3_15 => fX6_begin_12 v0 v3_15 m13))))
set_option maxHeartbeats 4000000 in
set_option maxRecDepth 100000 in
theorem cX6_begin_ct (z : Zx) (ad : Nat → Nat) (v0 : Nat) (v1 : Int32) (v2 : Int32) (m m2 : Mem) (hf : fX6_begin v0 v1 v2 m = some m2) : CtV z wC yX6_begin cX6_begin 4 none (Rm 2) ad 91 [.ref (ad v0), .int v1, .int v2] m m2 := by
  refine ct_ofV mi_X6_begin rfl (Nat.le_of_ble_eq_true rfl) (fun x X hret => ?_)
  refine g_lv [(0, .ref (ad v0)), (1, .int v1), (2, .int v2)] [0, 1, 2] rfl ?_
  have hL12 : ∀ (v0 : Nat) (v3 : Int32) (m : Mem), fX6_begin_12 v0 v3 m = some m2 → G z wC x 4 0 0 ad 91 m 12 [(0, .ref (ad v0)), (3, .int v3)] [] := by
    intro v0 v3 m hf
    unfold fX6_begin_12 at hf
    obtain ⟨e12, hit12, hrest12⟩ := bnd_some hf
    refine iter_ok (Hd := fun (s : (Int32 × Mem)) => G z wC x 4 0 0 ad 91 s.2 12 [(0, .ref (ad v0)), (3, .int s.1)] []) ?_ FU (v3, m) hit12
    intro s ob12 hf hs12 he12
    obtain ⟨v3, m⟩ := s
    have hf : fX6_begin_12b v0 v3 m = some ob12 := hf
    unfold fX6_begin_12b at hf
    refine g_iload_n (pc := 12) X dX6_begin_12 rfl 1 rfl ?_
    refine g_bipush (v := (40 : Int32)) (pc := 13) X dX6_begin_13 (by decide) ?_
    refine g_icmp_ge (pc := 15) (tgt := 31) X dX6_begin_15 (by decide) (fun hc => ?_) (fun hc => ?_)
    · have hf := itp hc hf
      have he12 := he12 _ (Option.some.inj hf).symm
      subst he12
      have hf : some m = some m2 := hrest12
      obtain rfl := Option.some.inj hf
      exact hret _ _ dX6_begin_31
    · have hf := itn hc hf
      refine g_aload_n (pc := 18) X dX6_begin_18 rfl 0 rfl ?_
      obtain ⟨hk1, hf⟩ := gp_some hf
      obtain ⟨q2, hr3, hf⟩ := bnd_some hf
      refine g_getR (pc := 19) X fl_X6_9 (KClt hk1 (by decide)) hk1 hr3 dX6_begin_19 ?_
      refine g_iload_n (pc := 22) X dX6_begin_22 rfl 1 rfl ?_
      refine g_iconst (v := (0 : Int32)) (pc := 23) X dX6_begin_23 (by decide) ?_
      obtain ⟨hk4, hf⟩ := gp_some hf
      obtain ⟨hi5, hf⟩ := gp_some hf
      refine g_iast (pc := 24) X (KClt hk4 (by decide)) hk4 hi5 dX6_begin_24 ?_
      obtain ⟨m6, e7, hf⟩ := lt1_some hf
      refine g_mem e7 ?_
      obtain ⟨v3_8, e9, hf⟩ := lt1_some hf
      refine g_iinc (v2 := v3_8) (lv2 := [(0, .ref (ad v0)), (3, .int v3_8)]) (pc := 25) X dX6_begin_25 1 rfl (by rw [e9]; rfl) (by decide) [1, 0] rfl ?_
      refine g_goto (pc := 28) (tgt := 12) X dX6_begin_28 (by decide) ?_
      exact hs12 (v3_8, m6) (Option.some.inj hf).symm
  unfold fX6_begin at hf
  refine g_aload_n (pc := 0) X dX6_begin_0 rfl 0 rfl ?_
  refine g_iload_n (pc := 1) X dX6_begin_1 rfl 1 rfl ?_
  obtain ⟨hk10, hf⟩ := gp_some hf
  refine g_putI (pc := 2) X fl_X6_15 (KClt hk10 (by decide)) hk10 rfl rfl dX6_begin_2 ?_
  obtain ⟨m11, e12, hf⟩ := lt1_some hf
  refine g_mem e12 ?_
  refine g_aload_n (pc := 5) X dX6_begin_5 rfl 0 rfl ?_
  refine g_iload_n (pc := 6) X dX6_begin_6 rfl 2 rfl ?_
  refine g_putI (pc := 7) X fl_X6_19 (KClt hk10 (by decide)) hk10 rfl rfl dX6_begin_7 ?_
  obtain ⟨m13, e14, hf⟩ := lt1_some hf
  refine g_mem e14 ?_
  refine g_iconst (v := (0 : Int32)) (pc := 10) X dX6_begin_10 (by decide) ?_
  obtain ⟨v3_15, e16, hf⟩ := lt1_some hf
  refine g_topi e16 ?_
  refine g_istore_n (lv2 := [(0, .ref (ad v0)), (1, .int v1), (2, .int v2), (3, .int v3_15)]) (pc := 11) X dX6_begin_11 rfl (by decide) [1, 2, 3, 0] rfl ?_
  refine g_lv [(0, .ref (ad v0)), (3, .int v3_15)] [0, 3] rfl ?_
  exact hL12 _ _ _ hf

noncomputable def fX11_fine (v0 : Nat) (v1 : Int64) (m : Mem) : Option (Int64 × Mem) := gp (KC v0 = 11) (lt1 (uI m v0 9 (0 : Int32)) (fun m2 => some (v1, m2)))
set_option maxHeartbeats 4000000 in
set_option maxRecDepth 100000 in
theorem cX11_fine_ct (z : Zx) (ad : Nat → Nat) (v0 : Nat) (v1 : Int64) (m m2 : Mem) (r : Int64) (hf : fX11_fine v0 v1 m = some (r, m2)) : CtL z wC yX11_fine cX11_fine 3 (some .long) (Rm 2) ad 91 [.ref (ad v0), .long v1] m m2 r := by
  refine ct_ofL mi_X11_fine rfl (Nat.le_of_ble_eq_true rfl) (fun x X hret => ?_)
  refine g_lv [(0, .ref (ad v0)), (1, .long v1)] [0, 1] rfl ?_
  unfold fX11_fine at hf
  refine g_aload_n (pc := 0) X dX11_fine_0 rfl 0 rfl ?_
  refine g_iconst (v := (0 : Int32)) (pc := 1) X dX11_fine_1 (by decide) ?_
  obtain ⟨hk1, hf⟩ := gp_some hf
  refine g_putI (pc := 2) X fl_X11_373 (KClt hk1 (by decide)) hk1 rfl rfl dX11_fine_2 ?_
  obtain ⟨m2, e3, hf⟩ := lt1_some hf
  refine g_mem e3 ?_
  refine g_lload_n (pc := 5) X dX11_fine_5 rfl 1 rfl ?_
  obtain ⟨rfl, rfl⟩ := som2 hf
  exact hret _ _ dX11_fine_6

noncomputable def fX11_row (v0 : Nat) (v1 : Int32) (v2 : Int32) (v3 : Int32) (m : Mem) : Option (Int64 × Mem) := bnd (fX11_isWithin v1 (0 : Int32) (7 : Int32)) (fun r2 => if r2 = 0 then (some ((-9000000000000000001 : Int64), m)) else (bnd (fX11_isWithin v2 (0 : Int32) (2 : Int32)) (fun r4 => if r4 = 0 then (some ((-9000000000000000001 : Int64), m)) else (if v3 ≤ (40 : Int32) then (if 0 ≤ v3 then (gp (KC v0 = 11) (bnd (m.2.2 v0 0) (fun q6 => gp (KC q6 = 17) (gp (inb v1 (NC q6) = true) (bnd (m.2.2 q6 v1.toNatClampNeg) (fun q10 => gp (KC q10 = 6) (bnd (fX6_begin q10 v2 v3 m) (fun m13 => bnd2 (fX11_fine v0 v3.toInt64 m13) (fun r16 m17 => some (r16, m17)))))))))) else (gp (KC v0 = 11) (bnd2 (fX11_found v0 (4 : Int32) m) (fun r19 m20 => some (r19, m20))))) else (some ((-9000000000000000001 : Int64), m))))))
set_option maxHeartbeats 4000000 in
set_option maxRecDepth 100000 in
theorem cX11_row_ct (z : Zx) (ad : Nat → Nat) (v0 : Nat) (v1 : Int32) (v2 : Int32) (v3 : Int32) (m m2 : Mem) (r : Int64) (hf : fX11_row v0 v1 v2 v3 m = some (r, m2)) : CtL z wC yX11_row cX11_row 4 (some .long) (Rm 3) ad 91 [.ref (ad v0), .int v1, .int v2, .int v3] m m2 r := by
  refine ct_ofL mi_X11_row rfl (Nat.le_of_ble_eq_true rfl) (fun x X hret => ?_)
  refine g_lv [(0, .ref (ad v0)), (1, .int v1), (2, .int v2), (3, .int v3)] [0, 1, 2, 3] rfl ?_
  unfold fX11_row at hf
  refine g_iload_n (pc := 0) X dX11_row_0 rfl 1 rfl ?_
  refine g_iconst (v := (0 : Int32)) (pc := 1) X dX11_row_1 (by decide) ?_
  refine g_bipush (v := (7 : Int32)) (pc := 2) X dX11_row_2 (by decide) ?_
  obtain ⟨r2, hq1, hf⟩ := bnd_some hf
  refine g_callSI (pc := 4) (As := [.int v1, .int (0 : Int32), .int (7 : Int32)]) (rest := []) X mi_X11_isWithin sm_X11_isWithin ml_X11_60 (cX11_isWithin_ct z ad v1 (0 : Int32) (7 : Int32) m r2 hq1) rfl rfl (Nat.le_of_ble_eq_true rfl) ⟨rfl, rfl, by decide, by decide, Nat.le_refl _, Nat.le_refl _⟩ dX11_row_4 ?_
  refine g_if_eq (pc := 7) (tgt := 25) X dX11_row_7 (by decide) (fun hc => ?_) (fun hc => ?_)
  · have hf := itp hc hf
    refine g_ldc2 (pc := 25) X dX11_row_25 kl_X11_64 ?_
    obtain ⟨rfl, rfl⟩ := som2 hf
    exact hret _ _ dX11_row_28
  · have hf := itn hc hf
    refine g_iload_n (pc := 10) X dX11_row_10 rfl 2 rfl ?_
    refine g_iconst (v := (0 : Int32)) (pc := 11) X dX11_row_11 (by decide) ?_
    refine g_iconst (v := (2 : Int32)) (pc := 12) X dX11_row_12 (by decide) ?_
    obtain ⟨r4, hq3, hf⟩ := bnd_some hf
    refine g_callSI (pc := 13) (As := [.int v2, .int (0 : Int32), .int (2 : Int32)]) (rest := []) X mi_X11_isWithin sm_X11_isWithin ml_X11_60 (cX11_isWithin_ct z ad v2 (0 : Int32) (2 : Int32) m r4 hq3) rfl rfl (Nat.le_of_ble_eq_true rfl) ⟨rfl, rfl, by decide, by decide, Nat.le_refl _, Nat.le_refl _⟩ dX11_row_13 ?_
    refine g_if_eq (pc := 16) (tgt := 25) X dX11_row_16 (by decide) (fun hc => ?_) (fun hc => ?_)
    · have hf := itp hc hf
      refine g_ldc2 (pc := 25) X dX11_row_25 kl_X11_64 ?_
      obtain ⟨rfl, rfl⟩ := som2 hf
      exact hret _ _ dX11_row_28
    · have hf := itn hc hf
      refine g_iload_n (pc := 19) X dX11_row_19 rfl 3 rfl ?_
      refine g_bipush (v := (40 : Int32)) (pc := 20) X dX11_row_20 (by decide) ?_
      refine g_icmp_le (pc := 22) (tgt := 29) X dX11_row_22 (by decide) (fun hc => ?_) (fun hc => ?_)
      · have hf := itp hc hf
        refine g_iload_n (pc := 29) X dX11_row_29 rfl 3 rfl ?_
        refine g_if_ge (pc := 30) (tgt := 39) X dX11_row_30 (by decide) (fun hc => ?_) (fun hc => ?_)
        · have hf := itp hc hf
          refine g_aload_n (pc := 39) X dX11_row_39 rfl 0 rfl ?_
          obtain ⟨hk5, hf⟩ := gp_some hf
          obtain ⟨q6, hr7, hf⟩ := bnd_some hf
          refine g_getR (pc := 40) X fl_X11_11 (KClt hk5 (by decide)) hk5 hr7 dX11_row_40 ?_
          refine g_iload_n (pc := 43) X dX11_row_43 rfl 1 rfl ?_
          obtain ⟨hk8, hf⟩ := gp_some hf
          obtain ⟨hi9, hf⟩ := gp_some hf
          obtain ⟨q10, hr11, hf⟩ := bnd_some hf
          refine g_aald (pc := 44) X (KClt hk8 (by decide)) hk8 (by decide) hi9 hr11 dX11_row_44 ?_
          refine g_iload_n (pc := 45) X dX11_row_45 rfl 2 rfl ?_
          refine g_iload_n (pc := 46) X dX11_row_46 rfl 3 rfl ?_
          obtain ⟨hk14, hf⟩ := gp_some hf
          obtain ⟨m13, hq12, hf⟩ := bnd_some hf
          refine g_callVV (pc := 47) (As := [.int v2, .int v3]) (rest := []) X mi_X6_begin im_X6_begin se_X6_begin (KClt hk14 (by decide)) hk14 clX6 ml_X11_70 (cX6_begin_ct z ad q10 v2 v3 m m13 hq12) rfl rfl (Nat.le_of_ble_eq_true rfl) ⟨rfl, rfl, by decide, by decide, Nat.le_refl _, Nat.le_refl _⟩ dX11_row_47 ?_
          refine g_aload_n (pc := 50) X dX11_row_50 rfl 0 rfl ?_
          refine g_iload_n (pc := 51) X dX11_row_51 rfl 3 rfl ?_
          refine g_i2l (pc := 52) X dX11_row_52 ?_
          obtain ⟨r16, m17, hq15, hf⟩ := bnd2_some hf
          refine g_callVL (pc := 53) (As := [.long v3.toInt64]) (rest := []) X mi_X11_fine im_X11_fine se_X11_fine (KClt hk5 (by decide)) hk5 clX11 ml_X11_74 (cX11_fine_ct z ad v0 v3.toInt64 m13 m17 r16 hq15) rfl rfl (Nat.le_of_ble_eq_true rfl) ⟨rfl, rfl, by decide, by decide, Nat.le_refl _, Nat.le_refl _⟩ dX11_row_53 ?_
          obtain ⟨rfl, rfl⟩ := som2 hf
          exact hret _ _ dX11_row_56
        · have hf := itn hc hf
          refine g_aload_n (pc := 33) X dX11_row_33 rfl 0 rfl ?_
          refine g_iconst (v := (4 : Int32)) (pc := 34) X dX11_row_34 (by decide) ?_
          obtain ⟨hk21, hf⟩ := gp_some hf
          obtain ⟨r19, m20, hq18, hf⟩ := bnd2_some hf
          refine g_callVL (pc := 35) (As := [.int (4 : Int32)]) (rest := []) X mi_X11_found im_X11_found se_X11_found (KClt hk21 (by decide)) hk21 clX11 ml_X11_66 (cX11_found_ct z ad v0 (4 : Int32) m m20 r19 hq18) rfl rfl (Nat.le_of_ble_eq_true rfl) ⟨rfl, rfl, by decide, by decide, Nat.le_refl _, Nat.le_refl _⟩ dX11_row_35 ?_
          obtain ⟨rfl, rfl⟩ := som2 hf
          exact hret _ _ dX11_row_38
      · have hf := itn hc hf
        refine g_ldc2 (pc := 25) X dX11_row_25 kl_X11_64 ?_
        obtain ⟨rfl, rfl⟩ := som2 hf
        exact hret _ _ dX11_row_28

noncomputable def fX6_isMissing (v0 : Nat) (m : Mem) : Option Int32 := gp (KC v0 = 6) (if (m.1 v0 1) = (-1 : Int32) then (some (1 : Int32)) else (some (0 : Int32)))
set_option maxHeartbeats 4000000 in
set_option maxRecDepth 100000 in
theorem cX6_isMissing_ct (z : Zx) (ad : Nat → Nat) (v0 : Nat) (m : Mem) (r : Int32) (hf : fX6_isMissing v0 m = some r) : CtI z wC yX6_isMissing cX6_isMissing 1 (some .boolean) (Rm 2) ad 91 [.ref (ad v0)] m m r := by
  refine ct_ofI mi_X6_isMissing rfl (Nat.le_of_ble_eq_true rfl) (fun x X hret => ?_)
  refine g_lv [(0, .ref (ad v0))] [0] rfl ?_
  unfold fX6_isMissing at hf
  refine g_aload_n (pc := 0) X dX6_isMissing_0 rfl 0 rfl ?_
  obtain ⟨hk1, hf⟩ := gp_some hf
  refine g_getI (pc := 1) X fl_X6_15 (KClt hk1 (by decide)) hk1 dX6_isMissing_1 ?_
  refine g_iconst (v := (-1 : Int32)) (pc := 4) X dX6_isMissing_4 (by decide) ?_
  refine g_icmp_ne (pc := 5) (tgt := 12) X dX6_isMissing_5 (by decide) (fun hc => ?_) (fun hc => ?_)
  · have hf := itn hc hf
    refine g_iconst (v := (0 : Int32)) (pc := 12) X dX6_isMissing_12 (by decide) ?_
    obtain rfl := Option.some.inj hf
    exact hret _ _ (by decide) dX6_isMissing_13
  · have hf := itp hc hf
    refine g_iconst (v := (1 : Int32)) (pc := 8) X dX6_isMissing_8 (by decide) ?_
    refine g_goto (pc := 9) (tgt := 13) X dX6_isMissing_9 (by decide) ?_
    obtain rfl := Option.some.inj hf
    exact hret _ _ (by decide) dX6_isMissing_13

noncomputable def fX6_holds (v0 : Nat) (v1 : Int32) (v2 : Int32) (m : Mem) : Option Int32 := if v1 < 0 then (some (0 : Int32)) else (if v2 < 0 then (some (0 : Int32)) else (gp (KC v0 = 6) (if ((m.1 v0 2) - v2) < v1 then (some (0 : Int32)) else (some (1 : Int32)))))
set_option maxHeartbeats 4000000 in
set_option maxRecDepth 100000 in
theorem cX6_holds_ct (z : Zx) (ad : Nat → Nat) (v0 : Nat) (v1 : Int32) (v2 : Int32) (m : Mem) (r : Int32) (hf : fX6_holds v0 v1 v2 m = some r) : CtI z wC yX6_holds cX6_holds 3 (some .boolean) (Rm 2) ad 91 [.ref (ad v0), .int v1, .int v2] m m r := by
  refine ct_ofI mi_X6_holds rfl (Nat.le_of_ble_eq_true rfl) (fun x X hret => ?_)
  refine g_lv [(0, .ref (ad v0)), (1, .int v1), (2, .int v2)] [0, 1, 2] rfl ?_
  unfold fX6_holds at hf
  refine g_iload_n (pc := 0) X dX6_holds_0 rfl 1 rfl ?_
  refine g_if_lt (pc := 1) (tgt := 22) X dX6_holds_1 (by decide) (fun hc => ?_) (fun hc => ?_)
  · have hf := itp hc hf
    refine g_iconst (v := (0 : Int32)) (pc := 22) X dX6_holds_22 (by decide) ?_
    obtain rfl := Option.some.inj hf
    exact hret _ _ (by decide) dX6_holds_23
  · have hf := itn hc hf
    refine g_iload_n (pc := 4) X dX6_holds_4 rfl 2 rfl ?_
    refine g_if_lt (pc := 5) (tgt := 22) X dX6_holds_5 (by decide) (fun hc => ?_) (fun hc => ?_)
    · have hf := itp hc hf
      refine g_iconst (v := (0 : Int32)) (pc := 22) X dX6_holds_22 (by decide) ?_
      obtain rfl := Option.some.inj hf
      exact hret _ _ (by decide) dX6_holds_23
    · have hf := itn hc hf
      refine g_iload_n (pc := 8) X dX6_holds_8 rfl 1 rfl ?_
      refine g_aload_n (pc := 9) X dX6_holds_9 rfl 0 rfl ?_
      obtain ⟨hk1, hf⟩ := gp_some hf
      refine g_getI (pc := 10) X fl_X6_19 (KClt hk1 (by decide)) hk1 dX6_holds_10 ?_
      refine g_iload_n (pc := 13) X dX6_holds_13 rfl 2 rfl ?_
      refine g_isub (pc := 14) X dX6_holds_14 ?_
      refine g_icmp_gt (pc := 15) (tgt := 22) X dX6_holds_15 (by decide) (fun hc => ?_) (fun hc => ?_)
      · have hf := itp hc hf
        refine g_iconst (v := (0 : Int32)) (pc := 22) X dX6_holds_22 (by decide) ?_
        obtain rfl := Option.some.inj hf
        exact hret _ _ (by decide) dX6_holds_23
      · have hf := itn hc hf
        refine g_iconst (v := (1 : Int32)) (pc := 18) X dX6_holds_18 (by decide) ?_
        refine g_goto (pc := 19) (tgt := 23) X dX6_holds_19 (by decide) ?_
        obtain rfl := Option.some.inj hf
        exact hret _ _ (by decide) dX6_holds_23

noncomputable def fX6_write_44 (v0 : Nat) (v1 : Int32) (m : Mem) : Option (Int32 × Mem) := gp (KC v0 = 6) (bnd (m.2.2 v0 0) (fun q2 => gp (KC q2 = 14) (gp (inb v1 (NC q2) = true) (some (m.1 q2 v1.toNatClampNeg, m)))))
noncomputable def fX6_write (v0 : Nat) (v1 : Int32) (v2 : Int32) (m : Mem) : Option (Int32 × Mem) := gp (KC v0 = 6) (if (m.1 v0 1) = 0 then (bnd (m.2.2 v0 0) (fun q19 => gp (KC q19 = 14) (gp (inb v1 (NC q19) = true) (lt1 (uI m q19 v1.toNatClampNeg v2.toInt8.toInt32) (fun m23 => fX6_write_44 v0 v1 m23))))) else (if (m.1 v0 1) = (1 : Int32) then (bnd (m.2.2 v0 0) (fun q13 => gp (KC q13 = 14) (gp (inb v1 (NC q13) = true) (lt1 (uI m q13 v1.toNatClampNeg v2.toInt16.toInt32) (fun m17 => fX6_write_44 v0 v1 m17))))) else (bnd (m.2.2 v0 0) (fun q7 => gp (KC q7 = 14) (gp (inb v1 (NC q7) = true) (lt1 (uI m q7 v1.toNatClampNeg v2) (fun m11 => fX6_write_44 v0 v1 m11)))))))
set_option maxHeartbeats 4000000 in
set_option maxRecDepth 100000 in
theorem cX6_write_ct (z : Zx) (ad : Nat → Nat) (v0 : Nat) (v1 : Int32) (v2 : Int32) (m m2 : Mem) (r : Int32) (hf : fX6_write v0 v1 v2 m = some (r, m2)) : CtI z wC yX6_write cX6_write 3 (some .int) (Rm 2) ad 91 [.ref (ad v0), .int v1, .int v2] m m2 r := by
  refine ct_ofI mi_X6_write rfl (Nat.le_of_ble_eq_true rfl) (fun x X hret => ?_)
  refine g_lv [(0, .ref (ad v0)), (1, .int v1), (2, .int v2)] [0, 1, 2] rfl ?_
  have hL44 : ∀ (v0 : Nat) (v1 : Int32) (m : Mem), fX6_write_44 v0 v1 m = some (r, m2) → G z wC x 3 0 0 ad 91 m 44 [(0, .ref (ad v0)), (1, .int v1)] [] := by
    intro v0 v1 m hf
    unfold fX6_write_44 at hf
    refine g_aload_n (pc := 44) X dX6_write_44 rfl 0 rfl ?_
    obtain ⟨hk1, hf⟩ := gp_some hf
    obtain ⟨q2, hr3, hf⟩ := bnd_some hf
    refine g_getR (pc := 45) X fl_X6_9 (KClt hk1 (by decide)) hk1 hr3 dX6_write_45 ?_
    refine g_iload_n (pc := 48) X dX6_write_48 rfl 1 rfl ?_
    obtain ⟨hk4, hf⟩ := gp_some hf
    obtain ⟨hi5, hf⟩ := gp_some hf
    refine g_iald (pc := 49) X (KClt hk4 (by decide)) hk4 hi5 dX6_write_49 ?_
    obtain ⟨rfl, rfl⟩ := som2 hf
    exact hret _ _ rfl dX6_write_50
  unfold fX6_write at hf
  refine g_aload_n (pc := 0) X dX6_write_0 rfl 0 rfl ?_
  obtain ⟨hk6, hf⟩ := gp_some hf
  refine g_getI (pc := 1) X fl_X6_15 (KClt hk6 (by decide)) hk6 dX6_write_1 ?_
  refine g_if_ne (pc := 4) (tgt := 18) X dX6_write_4 (by decide) (fun hc => ?_) (fun hc => ?_)
  · have hf := itn hc hf
    refine g_aload_n (pc := 18) X dX6_write_18 rfl 0 rfl ?_
    refine g_getI (pc := 19) X fl_X6_15 (KClt hk6 (by decide)) hk6 dX6_write_19 ?_
    refine g_iconst (v := (1 : Int32)) (pc := 22) X dX6_write_22 (by decide) ?_
    refine g_icmp_ne (pc := 23) (tgt := 37) X dX6_write_23 (by decide) (fun hc => ?_) (fun hc => ?_)
    · have hf := itn hc hf
      refine g_aload_n (pc := 37) X dX6_write_37 rfl 0 rfl ?_
      obtain ⟨q7, hr8, hf⟩ := bnd_some hf
      refine g_getR (pc := 38) X fl_X6_9 (KClt hk6 (by decide)) hk6 hr8 dX6_write_38 ?_
      refine g_iload_n (pc := 41) X dX6_write_41 rfl 1 rfl ?_
      refine g_iload_n (pc := 42) X dX6_write_42 rfl 2 rfl ?_
      obtain ⟨hk9, hf⟩ := gp_some hf
      obtain ⟨hi10, hf⟩ := gp_some hf
      refine g_iast (pc := 43) X (KClt hk9 (by decide)) hk9 hi10 dX6_write_43 ?_
      obtain ⟨m11, e12, hf⟩ := lt1_some hf
      refine g_mem e12 ?_
      refine g_lv [(0, .ref (ad v0)), (1, .int v1)] [0, 1] rfl ?_
      exact hL44 _ _ _ hf
    · have hf := itp hc hf
      refine g_aload_n (pc := 26) X dX6_write_26 rfl 0 rfl ?_
      obtain ⟨q13, hr14, hf⟩ := bnd_some hf
      refine g_getR (pc := 27) X fl_X6_9 (KClt hk6 (by decide)) hk6 hr14 dX6_write_27 ?_
      refine g_iload_n (pc := 30) X dX6_write_30 rfl 1 rfl ?_
      refine g_iload_n (pc := 31) X dX6_write_31 rfl 2 rfl ?_
      refine g_i2s (pc := 32) X dX6_write_32 ?_
      obtain ⟨hk15, hf⟩ := gp_some hf
      obtain ⟨hi16, hf⟩ := gp_some hf
      refine g_iast (pc := 33) X (KClt hk15 (by decide)) hk15 hi16 dX6_write_33 ?_
      obtain ⟨m17, e18, hf⟩ := lt1_some hf
      refine g_mem e18 ?_
      refine g_goto (pc := 34) (tgt := 44) X dX6_write_34 (by decide) ?_
      refine g_lv [(0, .ref (ad v0)), (1, .int v1)] [0, 1] rfl ?_
      exact hL44 _ _ _ hf
  · have hf := itp hc hf
    refine g_aload_n (pc := 7) X dX6_write_7 rfl 0 rfl ?_
    obtain ⟨q19, hr20, hf⟩ := bnd_some hf
    refine g_getR (pc := 8) X fl_X6_9 (KClt hk6 (by decide)) hk6 hr20 dX6_write_8 ?_
    refine g_iload_n (pc := 11) X dX6_write_11 rfl 1 rfl ?_
    refine g_iload_n (pc := 12) X dX6_write_12 rfl 2 rfl ?_
    refine g_i2b (pc := 13) X dX6_write_13 ?_
    obtain ⟨hk21, hf⟩ := gp_some hf
    obtain ⟨hi22, hf⟩ := gp_some hf
    refine g_iast (pc := 14) X (KClt hk21 (by decide)) hk21 hi22 dX6_write_14 ?_
    obtain ⟨m23, e24, hf⟩ := lt1_some hf
    refine g_mem e24 ?_
    refine g_goto (pc := 15) (tgt := 44) X dX6_write_15 (by decide) ?_
    refine g_lv [(0, .ref (ad v0)), (1, .int v1)] [0, 1] rfl ?_
    exact hL44 _ _ _ hf

noncomputable def fX11_set (v0 : Nat) (v1 : Int32) (v2 : Int32) (v3 : Int32) (m : Mem) : Option (Int64 × Mem) := bnd (fX11_isWithin v1 (0 : Int32) (7 : Int32)) (fun r2 => if r2 = 0 then (some ((-9000000000000000001 : Int64), m)) else (gp (KC v0 = 11) (bnd (m.2.2 v0 0) (fun q4 => gp (KC q4 = 17) (gp (inb v1 (NC q4) = true) (bnd (m.2.2 q4 v1.toNatClampNeg) (fun q8 => gp (KC q8 = 6) (bnd (fX6_isMissing q8 m) (fun r11 => if r11 = 0 then (bnd (fX6_holds q8 v2 (1 : Int32) m) (fun r14 => if r14 = 0 then (bnd2 (fX11_found v0 (2 : Int32) m) (fun r22 m23 => some (r22, m23))) else (bnd2 (fX6_write q8 v2 v3 m) (fun r16 m17 => bnd2 (fX11_fine v0 r16.toInt64 m17) (fun r19 m20 => some (r19, m20)))))) else (bnd2 (fX11_found v0 (1 : Int32) m) (fun r25 m26 => some (r25, m26))))))))))))
set_option maxHeartbeats 4000000 in
set_option maxRecDepth 100000 in
theorem cX11_set_ct (z : Zx) (ad : Nat → Nat) (v0 : Nat) (v1 : Int32) (v2 : Int32) (v3 : Int32) (m m2 : Mem) (r : Int64) (hf : fX11_set v0 v1 v2 v3 m = some (r, m2)) : CtL z wC yX11_set cX11_set 5 (some .long) (Rm 3) ad 91 [.ref (ad v0), .int v1, .int v2, .int v3] m m2 r := by
  refine ct_ofL mi_X11_set rfl (Nat.le_of_ble_eq_true rfl) (fun x X hret => ?_)
  refine g_lv [(0, .ref (ad v0)), (1, .int v1), (2, .int v2), (3, .int v3)] [0, 1, 2, 3] rfl ?_
  unfold fX11_set at hf
  refine g_iload_n (pc := 0) X dX11_set_0 rfl 1 rfl ?_
  refine g_iconst (v := (0 : Int32)) (pc := 1) X dX11_set_1 (by decide) ?_
  refine g_bipush (v := (7 : Int32)) (pc := 2) X dX11_set_2 (by decide) ?_
  obtain ⟨r2, hq1, hf⟩ := bnd_some hf
  refine g_callSI (pc := 4) (As := [.int v1, .int (0 : Int32), .int (7 : Int32)]) (rest := []) X mi_X11_isWithin sm_X11_isWithin ml_X11_60 (cX11_isWithin_ct z ad v1 (0 : Int32) (7 : Int32) m r2 hq1) rfl rfl (Nat.le_of_ble_eq_true rfl) ⟨rfl, rfl, by decide, by decide, Nat.le_refl _, Nat.le_refl _⟩ dX11_set_4 ?_
  refine g_if_ne (pc := 7) (tgt := 14) X dX11_set_7 (by decide) (fun hc => ?_) (fun hc => ?_)
  · have hf := itn hc hf
    refine g_aload_n (pc := 14) X dX11_set_14 rfl 0 rfl ?_
    obtain ⟨hk3, hf⟩ := gp_some hf
    obtain ⟨q4, hr5, hf⟩ := bnd_some hf
    refine g_getR (pc := 15) X fl_X11_11 (KClt hk3 (by decide)) hk3 hr5 dX11_set_15 ?_
    refine g_iload_n (pc := 18) X dX11_set_18 rfl 1 rfl ?_
    obtain ⟨hk6, hf⟩ := gp_some hf
    obtain ⟨hi7, hf⟩ := gp_some hf
    obtain ⟨q8, hr9, hf⟩ := bnd_some hf
    refine g_aald (pc := 19) X (KClt hk6 (by decide)) hk6 (by decide) hi7 hr9 dX11_set_19 ?_
    refine g_astore (lv2 := [(0, .ref (ad v0)), (1, .int v1), (2, .int v2), (3, .int v3), (4, .ref (ad q8))]) (pc := 20) X dX11_set_20 (by decide) [1, 2, 3, 4, 0] rfl ?_
    refine g_aload (pc := 22) X dX11_set_22 4 rfl ?_
    obtain ⟨hk12, hf⟩ := gp_some hf
    obtain ⟨r11, hq10, hf⟩ := bnd_some hf
    refine g_callVI (pc := 24) (As := []) (rest := []) X mi_X6_isMissing im_X6_isMissing se_X6_isMissing (KClt hk12 (by decide)) hk12 clX6 ml_X11_78 (cX6_isMissing_ct z ad q8 m r11 hq10) rfl rfl (Nat.le_of_ble_eq_true rfl) ⟨rfl, rfl, by decide, by decide, Nat.le_refl _, Nat.le_refl _⟩ dX11_set_24 ?_
    refine g_if_eq (pc := 27) (tgt := 36) X dX11_set_27 (by decide) (fun hc => ?_) (fun hc => ?_)
    · have hf := itp hc hf
      refine g_aload (pc := 36) X dX11_set_36 4 rfl ?_
      refine g_iload_n (pc := 38) X dX11_set_38 rfl 2 rfl ?_
      refine g_iconst (v := (1 : Int32)) (pc := 39) X dX11_set_39 (by decide) ?_
      obtain ⟨r14, hq13, hf⟩ := bnd_some hf
      refine g_callVI (pc := 40) (As := [.int v2, .int (1 : Int32)]) (rest := []) X mi_X6_holds im_X6_holds se_X6_holds (KClt hk12 (by decide)) hk12 clX6 ml_X11_82 (cX6_holds_ct z ad q8 v2 (1 : Int32) m r14 hq13) rfl rfl (Nat.le_of_ble_eq_true rfl) ⟨rfl, rfl, by decide, by decide, Nat.le_refl _, Nat.le_refl _⟩ dX11_set_40 ?_
      refine g_if_ne (pc := 43) (tgt := 52) X dX11_set_43 (by decide) (fun hc => ?_) (fun hc => ?_)
      · have hf := itn hc hf
        refine g_aload_n (pc := 52) X dX11_set_52 rfl 0 rfl ?_
        refine g_aload (pc := 53) X dX11_set_53 4 rfl ?_
        refine g_iload_n (pc := 55) X dX11_set_55 rfl 2 rfl ?_
        refine g_iload_n (pc := 56) X dX11_set_56 rfl 3 rfl ?_
        obtain ⟨r16, m17, hq15, hf⟩ := bnd2_some hf
        refine g_callVI (pc := 57) (As := [.int v2, .int v3]) (rest := [.ref (ad v0)]) X mi_X6_write im_X6_write se_X6_write (KClt hk12 (by decide)) hk12 clX6 ml_X11_86 (cX6_write_ct z ad q8 v2 v3 m m17 r16 hq15) rfl rfl (Nat.le_of_ble_eq_true rfl) ⟨rfl, rfl, by decide, by decide, Nat.le_refl _, Nat.le_refl _⟩ dX11_set_57 ?_
        refine g_i2l (pc := 60) X dX11_set_60 ?_
        obtain ⟨r19, m20, hq18, hf⟩ := bnd2_some hf
        refine g_callVL (pc := 61) (As := [.long r16.toInt64]) (rest := []) X mi_X11_fine im_X11_fine se_X11_fine (KClt hk3 (by decide)) hk3 clX11 ml_X11_74 (cX11_fine_ct z ad v0 r16.toInt64 m17 m20 r19 hq18) rfl rfl (Nat.le_of_ble_eq_true rfl) ⟨rfl, rfl, by decide, by decide, Nat.le_refl _, Nat.le_refl _⟩ dX11_set_61 ?_
        obtain ⟨rfl, rfl⟩ := som2 hf
        exact hret _ _ dX11_set_64
      · have hf := itp hc hf
        refine g_aload_n (pc := 46) X dX11_set_46 rfl 0 rfl ?_
        refine g_iconst (v := (2 : Int32)) (pc := 47) X dX11_set_47 (by decide) ?_
        obtain ⟨r22, m23, hq21, hf⟩ := bnd2_some hf
        refine g_callVL (pc := 48) (As := [.int (2 : Int32)]) (rest := []) X mi_X11_found im_X11_found se_X11_found (KClt hk3 (by decide)) hk3 clX11 ml_X11_66 (cX11_found_ct z ad v0 (2 : Int32) m m23 r22 hq21) rfl rfl (Nat.le_of_ble_eq_true rfl) ⟨rfl, rfl, by decide, by decide, Nat.le_refl _, Nat.le_refl _⟩ dX11_set_48 ?_
        obtain ⟨rfl, rfl⟩ := som2 hf
        exact hret _ _ dX11_set_51
    · have hf := itn hc hf
      refine g_aload_n (pc := 30) X dX11_set_30 rfl 0 rfl ?_
      refine g_iconst (v := (1 : Int32)) (pc := 31) X dX11_set_31 (by decide) ?_
      obtain ⟨r25, m26, hq24, hf⟩ := bnd2_some hf
      refine g_callVL (pc := 32) (As := [.int (1 : Int32)]) (rest := []) X mi_X11_found im_X11_found se_X11_found (KClt hk3 (by decide)) hk3 clX11 ml_X11_66 (cX11_found_ct z ad v0 (1 : Int32) m m26 r25 hq24) rfl rfl (Nat.le_of_ble_eq_true rfl) ⟨rfl, rfl, by decide, by decide, Nat.le_refl _, Nat.le_refl _⟩ dX11_set_32 ?_
      obtain ⟨rfl, rfl⟩ := som2 hf
      exact hret _ _ dX11_set_35
  · have hf := itp hc hf
    refine g_ldc2 (pc := 10) X dX11_set_10 kl_X11_64 ?_
    obtain ⟨rfl, rfl⟩ := som2 hf
    exact hret _ _ dX11_set_13

noncomputable def fX11_copy_104 (v0 : Nat) (m : Mem) : Option (Int64 × Mem) := gp (KC v0 = 11) (bnd2 (fX11_found v0 (2 : Int32) m) (fun r2 m3 => some (r2, m3)))
noncomputable def fX11_copy_56 (v0 : Nat) (m : Mem) : Option (Int64 × Mem) := gp (KC v0 = 11) (bnd2 (fX11_found v0 (1 : Int32) m) (fun r6 m7 => some (r6, m7)))
noncomputable def fX11_copy (v0 : Nat) (v1 : Int32) (v2 : Int32) (v3 : Int32) (v4 : Int32) (v5 : Int32) (m : Mem) : Option (Int64 × Mem) := bnd (fX11_isWithin v1 (0 : Int32) (7 : Int32)) (fun r10 => if r10 = 0 then (some ((-9000000000000000001 : Int64), m)) else (bnd (fX11_isWithin v3 (0 : Int32) (7 : Int32)) (fun r12 => if r12 = 0 then (some ((-9000000000000000001 : Int64), m)) else (gp (KC v0 = 11) (bnd (m.2.2 v0 0) (fun q14 => gp (KC q14 = 17) (gp (inb v1 (NC q14) = true) (bnd (m.2.2 q14 v1.toNatClampNeg) (fun q18 => gp (inb v3 (NC q14) = true) (bnd (m.2.2 q14 v3.toNatClampNeg) (fun q21 => gp (KC q18 = 6) (bnd (fX6_isMissing q18 m) (fun r24 => if r24 = 0 then (gp (KC q21 = 6) (bnd (fX6_isMissing q21 m) (fun r27 => if r27 = 0 then (if (m.1 q18 1) = (m.1 q21 1) then (bnd (fX6_holds q18 v2 v5 m) (fun r30 => if r30 = 0 then (fX11_copy_104 v0 m) else (bnd (fX6_holds q21 v4 v5 m) (fun r32 => if r32 = 0 then (fX11_copy_104 v0 m) else (bnd (m.2.2 q18 0) (fun q33 => bnd (m.2.2 q21 0) (fun q35 => gp (KC q33 = 14) (gp (KC q35 = 14) (gp (¬ v2 < 0) (gp (¬ v4 < 0) (gp (¬ v5 < 0) (gp (v2.toNatClampNeg + v5.toNatClampNeg ≤ NC q33) (gp (v4.toNatClampNeg + v5.toNatClampNeg ≤ NC q35) (lt1 (uX m q35 (va_cpy (m.1 q33) (m.1 q35) v2.toNatClampNeg v4.toNatClampNeg v5.toNatClampNeg)) (fun m44 => bnd2 (fX11_fine v0 v5.toInt64 m44) (fun r47 m48 => some (r47, m48))))))))))))))))) else (bnd2 (fX11_found v0 (5 : Int32) m) (fun r50 m51 => some (r50, m51)))) else (fX11_copy_56 v0 m)))) else (fX11_copy_56 v0 m))))))))))))))
set_option maxHeartbeats 4000000 in
set_option maxRecDepth 100000 in
theorem cX11_copy_ct (z : Zx) (ad : Nat → Nat) (v0 : Nat) (v1 : Int32) (v2 : Int32) (v3 : Int32) (v4 : Int32) (v5 : Int32) (m m2 : Mem) (r : Int64) (hf : fX11_copy v0 v1 v2 v3 v4 v5 m = some (r, m2)) : CtL z wC yX11_copy cX11_copy 8 (some .long) (Rm 3) ad 91 [.ref (ad v0), .int v1, .int v2, .int v3, .int v4, .int v5] m m2 r := by
  refine ct_ofL mi_X11_copy rfl (Nat.le_of_ble_eq_true rfl) (fun x X hret => ?_)
  refine g_lv [(0, .ref (ad v0)), (1, .int v1), (2, .int v2), (3, .int v3), (4, .int v4), (5, .int v5)] [0, 1, 2, 3, 4, 5] rfl ?_
  have hL104 : ∀ (v0 : Nat) (m : Mem), fX11_copy_104 v0 m = some (r, m2) → G z wC x 8 0 0 ad 91 m 104 [(0, .ref (ad v0))] [] := by
    intro v0 m hf
    unfold fX11_copy_104 at hf
    refine g_aload_n (pc := 104) X dX11_copy_104 rfl 0 rfl ?_
    refine g_iconst (v := (2 : Int32)) (pc := 105) X dX11_copy_105 (by decide) ?_
    obtain ⟨hk4, hf⟩ := gp_some hf
    obtain ⟨r2, m3, hq1, hf⟩ := bnd2_some hf
    refine g_callVL (pc := 106) (As := [.int (2 : Int32)]) (rest := []) X mi_X11_found im_X11_found se_X11_found (KClt hk4 (by decide)) hk4 clX11 ml_X11_66 (cX11_found_ct z ad v0 (2 : Int32) m m3 r2 hq1) rfl rfl (Nat.le_of_ble_eq_true rfl) ⟨rfl, rfl, by decide, by decide, Nat.le_refl _, Nat.le_refl _⟩ dX11_copy_106 ?_
    obtain ⟨rfl, rfl⟩ := som2 hf
    exact hret _ _ dX11_copy_109
  have hL56 : ∀ (v0 : Nat) (m : Mem), fX11_copy_56 v0 m = some (r, m2) → G z wC x 8 0 0 ad 91 m 56 [(0, .ref (ad v0))] [] := by
    intro v0 m hf
    unfold fX11_copy_56 at hf
    refine g_aload_n (pc := 56) X dX11_copy_56 rfl 0 rfl ?_
    refine g_iconst (v := (1 : Int32)) (pc := 57) X dX11_copy_57 (by decide) ?_
    obtain ⟨hk8, hf⟩ := gp_some hf
    obtain ⟨r6, m7, hq5, hf⟩ := bnd2_some hf
    refine g_callVL (pc := 58) (As := [.int (1 : Int32)]) (rest := []) X mi_X11_found im_X11_found se_X11_found (KClt hk8 (by decide)) hk8 clX11 ml_X11_66 (cX11_found_ct z ad v0 (1 : Int32) m m7 r6 hq5) rfl rfl (Nat.le_of_ble_eq_true rfl) ⟨rfl, rfl, by decide, by decide, Nat.le_refl _, Nat.le_refl _⟩ dX11_copy_58 ?_
    obtain ⟨rfl, rfl⟩ := som2 hf
    exact hret _ _ dX11_copy_61
  unfold fX11_copy at hf
  refine g_iload_n (pc := 0) X dX11_copy_0 rfl 1 rfl ?_
  refine g_iconst (v := (0 : Int32)) (pc := 1) X dX11_copy_1 (by decide) ?_
  refine g_bipush (v := (7 : Int32)) (pc := 2) X dX11_copy_2 (by decide) ?_
  obtain ⟨r10, hq9, hf⟩ := bnd_some hf
  refine g_callSI (pc := 4) (As := [.int v1, .int (0 : Int32), .int (7 : Int32)]) (rest := []) X mi_X11_isWithin sm_X11_isWithin ml_X11_60 (cX11_isWithin_ct z ad v1 (0 : Int32) (7 : Int32) m r10 hq9) rfl rfl (Nat.le_of_ble_eq_true rfl) ⟨rfl, rfl, by decide, by decide, Nat.le_refl _, Nat.le_refl _⟩ dX11_copy_4 ?_
  refine g_if_eq (pc := 7) (tgt := 20) X dX11_copy_7 (by decide) (fun hc => ?_) (fun hc => ?_)
  · have hf := itp hc hf
    refine g_ldc2 (pc := 20) X dX11_copy_20 kl_X11_64 ?_
    obtain ⟨rfl, rfl⟩ := som2 hf
    exact hret _ _ dX11_copy_23
  · have hf := itn hc hf
    refine g_iload_n (pc := 10) X dX11_copy_10 rfl 3 rfl ?_
    refine g_iconst (v := (0 : Int32)) (pc := 11) X dX11_copy_11 (by decide) ?_
    refine g_bipush (v := (7 : Int32)) (pc := 12) X dX11_copy_12 (by decide) ?_
    obtain ⟨r12, hq11, hf⟩ := bnd_some hf
    refine g_callSI (pc := 14) (As := [.int v3, .int (0 : Int32), .int (7 : Int32)]) (rest := []) X mi_X11_isWithin sm_X11_isWithin ml_X11_60 (cX11_isWithin_ct z ad v3 (0 : Int32) (7 : Int32) m r12 hq11) rfl rfl (Nat.le_of_ble_eq_true rfl) ⟨rfl, rfl, by decide, by decide, Nat.le_refl _, Nat.le_refl _⟩ dX11_copy_14 ?_
    refine g_if_ne (pc := 17) (tgt := 24) X dX11_copy_17 (by decide) (fun hc => ?_) (fun hc => ?_)
    · have hf := itn hc hf
      refine g_aload_n (pc := 24) X dX11_copy_24 rfl 0 rfl ?_
      obtain ⟨hk13, hf⟩ := gp_some hf
      obtain ⟨q14, hr15, hf⟩ := bnd_some hf
      refine g_getR (pc := 25) X fl_X11_11 (KClt hk13 (by decide)) hk13 hr15 dX11_copy_25 ?_
      refine g_iload_n (pc := 28) X dX11_copy_28 rfl 1 rfl ?_
      obtain ⟨hk16, hf⟩ := gp_some hf
      obtain ⟨hi17, hf⟩ := gp_some hf
      obtain ⟨q18, hr19, hf⟩ := bnd_some hf
      refine g_aald (pc := 29) X (KClt hk16 (by decide)) hk16 (by decide) hi17 hr19 dX11_copy_29 ?_
      refine g_astore (lv2 := [(0, .ref (ad v0)), (1, .int v1), (2, .int v2), (3, .int v3), (4, .int v4), (5, .int v5), (6, .ref (ad q18))]) (pc := 30) X dX11_copy_30 (by decide) [1, 2, 3, 4, 5, 6, 0] rfl ?_
      refine g_aload_n (pc := 32) X dX11_copy_32 rfl 0 rfl ?_
      refine g_getR (pc := 33) X fl_X11_11 (KClt hk13 (by decide)) hk13 hr15 dX11_copy_33 ?_
      refine g_iload_n (pc := 36) X dX11_copy_36 rfl 3 rfl ?_
      obtain ⟨hi20, hf⟩ := gp_some hf
      obtain ⟨q21, hr22, hf⟩ := bnd_some hf
      refine g_aald (pc := 37) X (KClt hk16 (by decide)) hk16 (by decide) hi20 hr22 dX11_copy_37 ?_
      refine g_astore (lv2 := [(0, .ref (ad v0)), (1, .int v1), (2, .int v2), (3, .int v3), (4, .int v4), (5, .int v5), (6, .ref (ad q18)), (7, .ref (ad q21))]) (pc := 38) X dX11_copy_38 (by decide) [1, 2, 3, 4, 5, 6, 7, 0] rfl ?_
      refine g_aload (pc := 40) X dX11_copy_40 6 rfl ?_
      obtain ⟨hk25, hf⟩ := gp_some hf
      obtain ⟨r24, hq23, hf⟩ := bnd_some hf
      refine g_callVI (pc := 42) (As := []) (rest := []) X mi_X6_isMissing im_X6_isMissing se_X6_isMissing (KClt hk25 (by decide)) hk25 clX6 ml_X11_78 (cX6_isMissing_ct z ad q18 m r24 hq23) rfl rfl (Nat.le_of_ble_eq_true rfl) ⟨rfl, rfl, by decide, by decide, Nat.le_refl _, Nat.le_refl _⟩ dX11_copy_42 ?_
      refine g_if_ne (pc := 45) (tgt := 56) X dX11_copy_45 (by decide) (fun hc => ?_) (fun hc => ?_)
      · have hf := itn hc hf
        refine g_lv [(0, .ref (ad v0))] [0] rfl ?_
        exact hL56 _ _ hf
      · have hf := itp hc hf
        refine g_aload (pc := 48) X dX11_copy_48 7 rfl ?_
        obtain ⟨hk28, hf⟩ := gp_some hf
        obtain ⟨r27, hq26, hf⟩ := bnd_some hf
        refine g_callVI (pc := 50) (As := []) (rest := []) X mi_X6_isMissing im_X6_isMissing se_X6_isMissing (KClt hk28 (by decide)) hk28 clX6 ml_X11_78 (cX6_isMissing_ct z ad q21 m r27 hq26) rfl rfl (Nat.le_of_ble_eq_true rfl) ⟨rfl, rfl, by decide, by decide, Nat.le_refl _, Nat.le_refl _⟩ dX11_copy_50 ?_
        refine g_if_eq (pc := 53) (tgt := 62) X dX11_copy_53 (by decide) (fun hc => ?_) (fun hc => ?_)
        · have hf := itp hc hf
          refine g_aload (pc := 62) X dX11_copy_62 6 rfl ?_
          refine g_getI (pc := 64) X fl_X11_90 (KClt hk25 (by decide)) hk25 dX11_copy_64 ?_
          refine g_aload (pc := 67) X dX11_copy_67 7 rfl ?_
          refine g_getI (pc := 69) X fl_X11_90 (KClt hk28 (by decide)) hk28 dX11_copy_69 ?_
          refine g_icmp_eq (pc := 72) (tgt := 81) X dX11_copy_72 (by decide) (fun hc => ?_) (fun hc => ?_)
          · have hf := itp hc hf
            refine g_aload (pc := 81) X dX11_copy_81 6 rfl ?_
            refine g_iload_n (pc := 83) X dX11_copy_83 rfl 2 rfl ?_
            refine g_iload (pc := 84) X dX11_copy_84 5 rfl ?_
            obtain ⟨r30, hq29, hf⟩ := bnd_some hf
            refine g_callVI (pc := 86) (As := [.int v2, .int v5]) (rest := []) X mi_X6_holds im_X6_holds se_X6_holds (KClt hk25 (by decide)) hk25 clX6 ml_X11_82 (cX6_holds_ct z ad q18 v2 v5 m r30 hq29) rfl rfl (Nat.le_of_ble_eq_true rfl) ⟨rfl, rfl, by decide, by decide, Nat.le_refl _, Nat.le_refl _⟩ dX11_copy_86 ?_
            refine g_if_eq (pc := 89) (tgt := 104) X dX11_copy_89 (by decide) (fun hc => ?_) (fun hc => ?_)
            · have hf := itp hc hf
              refine g_lv [(0, .ref (ad v0))] [0] rfl ?_
              exact hL104 _ _ hf
            · have hf := itn hc hf
              refine g_aload (pc := 92) X dX11_copy_92 7 rfl ?_
              refine g_iload (pc := 94) X dX11_copy_94 4 rfl ?_
              refine g_iload (pc := 96) X dX11_copy_96 5 rfl ?_
              obtain ⟨r32, hq31, hf⟩ := bnd_some hf
              refine g_callVI (pc := 98) (As := [.int v4, .int v5]) (rest := []) X mi_X6_holds im_X6_holds se_X6_holds (KClt hk28 (by decide)) hk28 clX6 ml_X11_82 (cX6_holds_ct z ad q21 v4 v5 m r32 hq31) rfl rfl (Nat.le_of_ble_eq_true rfl) ⟨rfl, rfl, by decide, by decide, Nat.le_refl _, Nat.le_refl _⟩ dX11_copy_98 ?_
              refine g_if_ne (pc := 101) (tgt := 110) X dX11_copy_101 (by decide) (fun hc => ?_) (fun hc => ?_)
              · have hf := itn hc hf
                refine g_aload (pc := 110) X dX11_copy_110 6 rfl ?_
                obtain ⟨q33, hr34, hf⟩ := bnd_some hf
                refine g_getR (pc := 112) X fl_X11_94 (KClt hk25 (by decide)) hk25 hr34 dX11_copy_112 ?_
                refine g_iload_n (pc := 115) X dX11_copy_115 rfl 2 rfl ?_
                refine g_aload (pc := 116) X dX11_copy_116 7 rfl ?_
                obtain ⟨q35, hr36, hf⟩ := bnd_some hf
                refine g_getR (pc := 118) X fl_X11_94 (KClt hk28 (by decide)) hk28 hr36 dX11_copy_118 ?_
                refine g_iload (pc := 121) X dX11_copy_121 4 rfl ?_
                refine g_iload (pc := 123) X dX11_copy_123 5 rfl ?_
                obtain ⟨hk37, hf⟩ := gp_some hf
                obtain ⟨hk38, hf⟩ := gp_some hf
                obtain ⟨hc39, hf⟩ := gp_some hf
                obtain ⟨hc40, hf⟩ := gp_some hf
                obtain ⟨hc41, hf⟩ := gp_some hf
                obtain ⟨hc42, hf⟩ := gp_some hf
                obtain ⟨hc43, hf⟩ := gp_some hf
                refine g_copyi (pc := 125) X ml_X11_98 na_copy sm_copy in_sys (KClt hk37 (by decide)) hk37 (KClt hk38 (by decide)) hk38 hc39 hc40 hc41 hc42 hc43 (by decide) (by decide +kernel) dX11_copy_125 ?_
                obtain ⟨m44, e45, hf⟩ := lt1_some hf
                refine g_mem e45 ?_
                refine g_aload_n (pc := 128) X dX11_copy_128 rfl 0 rfl ?_
                refine g_iload (pc := 129) X dX11_copy_129 5 rfl ?_
                refine g_i2l (pc := 131) X dX11_copy_131 ?_
                obtain ⟨r47, m48, hq46, hf⟩ := bnd2_some hf
                refine g_callVL (pc := 132) (As := [.long v5.toInt64]) (rest := []) X mi_X11_fine im_X11_fine se_X11_fine (KClt hk13 (by decide)) hk13 clX11 ml_X11_74 (cX11_fine_ct z ad v0 v5.toInt64 m44 m48 r47 hq46) rfl rfl (Nat.le_of_ble_eq_true rfl) ⟨rfl, rfl, by decide, by decide, Nat.le_refl _, Nat.le_refl _⟩ dX11_copy_132 ?_
                obtain ⟨rfl, rfl⟩ := som2 hf
                exact hret _ _ dX11_copy_135
              · have hf := itp hc hf
                refine g_lv [(0, .ref (ad v0))] [0] rfl ?_
                exact hL104 _ _ hf
          · have hf := itn hc hf
            refine g_aload_n (pc := 75) X dX11_copy_75 rfl 0 rfl ?_
            refine g_iconst (v := (5 : Int32)) (pc := 76) X dX11_copy_76 (by decide) ?_
            obtain ⟨r50, m51, hq49, hf⟩ := bnd2_some hf
            refine g_callVL (pc := 77) (As := [.int (5 : Int32)]) (rest := []) X mi_X11_found im_X11_found se_X11_found (KClt hk13 (by decide)) hk13 clX11 ml_X11_66 (cX11_found_ct z ad v0 (5 : Int32) m m51 r50 hq49) rfl rfl (Nat.le_of_ble_eq_true rfl) ⟨rfl, rfl, by decide, by decide, Nat.le_refl _, Nat.le_refl _⟩ dX11_copy_77 ?_
            obtain ⟨rfl, rfl⟩ := som2 hf
            exact hret _ _ dX11_copy_80
        · have hf := itn hc hf
          refine g_lv [(0, .ref (ad v0))] [0] rfl ?_
          exact hL56 _ _ hf
    · have hf := itp hc hf
      refine g_ldc2 (pc := 20) X dX11_copy_20 kl_X11_64 ?_
      obtain ⟨rfl, rfl⟩ := som2 hf
      exact hret _ _ dX11_copy_23

noncomputable def fX6_vanish (v0 : Nat) (m : Mem) : Option Mem := gp (KC v0 = 6) (lt1 (uI m v0 1 (-1 : Int32)) (fun m2 => lt1 (uI m2 v0 2 (0 : Int32)) (fun m4 => some m4)))
set_option maxHeartbeats 4000000 in
set_option maxRecDepth 100000 in
theorem cX6_vanish_ct (z : Zx) (ad : Nat → Nat) (v0 : Nat) (m m2 : Mem) (hf : fX6_vanish v0 m = some m2) : CtV z wC yX6_vanish cX6_vanish 1 none (Rm 2) ad 91 [.ref (ad v0)] m m2 := by
  refine ct_ofV mi_X6_vanish rfl (Nat.le_of_ble_eq_true rfl) (fun x X hret => ?_)
  refine g_lv [(0, .ref (ad v0))] [0] rfl ?_
  unfold fX6_vanish at hf
  refine g_aload_n (pc := 0) X dX6_vanish_0 rfl 0 rfl ?_
  refine g_iconst (v := (-1 : Int32)) (pc := 1) X dX6_vanish_1 (by decide) ?_
  obtain ⟨hk1, hf⟩ := gp_some hf
  refine g_putI (pc := 2) X fl_X6_15 (KClt hk1 (by decide)) hk1 rfl rfl dX6_vanish_2 ?_
  obtain ⟨m2, e3, hf⟩ := lt1_some hf
  refine g_mem e3 ?_
  refine g_aload_n (pc := 5) X dX6_vanish_5 rfl 0 rfl ?_
  refine g_iconst (v := (0 : Int32)) (pc := 6) X dX6_vanish_6 (by decide) ?_
  refine g_putI (pc := 7) X fl_X6_19 (KClt hk1 (by decide)) hk1 rfl rfl dX6_vanish_7 ?_
  obtain ⟨m4, e5, hf⟩ := lt1_some hf
  refine g_mem e5 ?_
  obtain rfl := Option.some.inj hf
  exact hret _ _ dX6_vanish_10

noncomputable def fX11_drop (v0 : Nat) (v1 : Int32) (m : Mem) : Option (Int64 × Mem) := bnd (fX11_isWithin v1 (0 : Int32) (7 : Int32)) (fun r2 => if r2 = 0 then (some ((-9000000000000000001 : Int64), m)) else (gp (KC v0 = 11) (bnd (m.2.2 v0 0) (fun q4 => gp (KC q4 = 17) (gp (inb v1 (NC q4) = true) (bnd (m.2.2 q4 v1.toNatClampNeg) (fun q8 => gp (KC q8 = 6) (bnd (fX6_isMissing q8 m) (fun r11 => if r11 = 0 then (lt1 (m.1 q8 2) (fun v3_13 => bnd (fX6_vanish q8 m) (fun m16 => bnd2 (fX11_fine v0 v3_13.toInt64 m16) (fun r18 m19 => some (r18, m19))))) else (bnd2 (fX11_found v0 (1 : Int32) m) (fun r21 m22 => some (r21, m22))))))))))))
set_option maxHeartbeats 4000000 in
set_option maxRecDepth 100000 in
theorem cX11_drop_ct (z : Zx) (ad : Nat → Nat) (v0 : Nat) (v1 : Int32) (m m2 : Mem) (r : Int64) (hf : fX11_drop v0 v1 m = some (r, m2)) : CtL z wC yX11_drop cX11_drop 4 (some .long) (Rm 3) ad 91 [.ref (ad v0), .int v1] m m2 r := by
  refine ct_ofL mi_X11_drop rfl (Nat.le_of_ble_eq_true rfl) (fun x X hret => ?_)
  refine g_lv [(0, .ref (ad v0)), (1, .int v1)] [0, 1] rfl ?_
  unfold fX11_drop at hf
  refine g_iload_n (pc := 0) X dX11_drop_0 rfl 1 rfl ?_
  refine g_iconst (v := (0 : Int32)) (pc := 1) X dX11_drop_1 (by decide) ?_
  refine g_bipush (v := (7 : Int32)) (pc := 2) X dX11_drop_2 (by decide) ?_
  obtain ⟨r2, hq1, hf⟩ := bnd_some hf
  refine g_callSI (pc := 4) (As := [.int v1, .int (0 : Int32), .int (7 : Int32)]) (rest := []) X mi_X11_isWithin sm_X11_isWithin ml_X11_60 (cX11_isWithin_ct z ad v1 (0 : Int32) (7 : Int32) m r2 hq1) rfl rfl (Nat.le_of_ble_eq_true rfl) ⟨rfl, rfl, by decide, by decide, Nat.le_refl _, Nat.le_refl _⟩ dX11_drop_4 ?_
  refine g_if_ne (pc := 7) (tgt := 14) X dX11_drop_7 (by decide) (fun hc => ?_) (fun hc => ?_)
  · have hf := itn hc hf
    refine g_aload_n (pc := 14) X dX11_drop_14 rfl 0 rfl ?_
    obtain ⟨hk3, hf⟩ := gp_some hf
    obtain ⟨q4, hr5, hf⟩ := bnd_some hf
    refine g_getR (pc := 15) X fl_X11_11 (KClt hk3 (by decide)) hk3 hr5 dX11_drop_15 ?_
    refine g_iload_n (pc := 18) X dX11_drop_18 rfl 1 rfl ?_
    obtain ⟨hk6, hf⟩ := gp_some hf
    obtain ⟨hi7, hf⟩ := gp_some hf
    obtain ⟨q8, hr9, hf⟩ := bnd_some hf
    refine g_aald (pc := 19) X (KClt hk6 (by decide)) hk6 (by decide) hi7 hr9 dX11_drop_19 ?_
    refine g_astore_n (lv2 := [(0, .ref (ad v0)), (1, .int v1), (2, .ref (ad q8))]) (pc := 20) X dX11_drop_20 rfl (by decide) [1, 2, 0] rfl ?_
    refine g_aload_n (pc := 21) X dX11_drop_21 rfl 2 rfl ?_
    obtain ⟨hk12, hf⟩ := gp_some hf
    obtain ⟨r11, hq10, hf⟩ := bnd_some hf
    refine g_callVI (pc := 22) (As := []) (rest := []) X mi_X6_isMissing im_X6_isMissing se_X6_isMissing (KClt hk12 (by decide)) hk12 clX6 ml_X11_78 (cX6_isMissing_ct z ad q8 m r11 hq10) rfl rfl (Nat.le_of_ble_eq_true rfl) ⟨rfl, rfl, by decide, by decide, Nat.le_refl _, Nat.le_refl _⟩ dX11_drop_22 ?_
    refine g_if_eq (pc := 25) (tgt := 34) X dX11_drop_25 (by decide) (fun hc => ?_) (fun hc => ?_)
    · have hf := itp hc hf
      refine g_aload_n (pc := 34) X dX11_drop_34 rfl 2 rfl ?_
      refine g_getI (pc := 35) X fl_X11_104 (KClt hk12 (by decide)) hk12 dX11_drop_35 ?_
      obtain ⟨v3_13, e14, hf⟩ := lt1_some hf
      refine g_topi e14 ?_
      refine g_istore_n (lv2 := [(0, .ref (ad v0)), (1, .int v1), (2, .ref (ad q8)), (3, .int v3_13)]) (pc := 38) X dX11_drop_38 rfl (by decide) [1, 2, 3, 0] rfl ?_
      refine g_aload_n (pc := 39) X dX11_drop_39 rfl 2 rfl ?_
      obtain ⟨m16, hq15, hf⟩ := bnd_some hf
      refine g_callVV (pc := 40) (As := []) (rest := []) X mi_X6_vanish im_X6_vanish se_X6_vanish (KClt hk12 (by decide)) hk12 clX6 ml_X11_107 (cX6_vanish_ct z ad q8 m m16 hq15) rfl rfl (Nat.le_of_ble_eq_true rfl) ⟨rfl, rfl, by decide, by decide, Nat.le_refl _, Nat.le_refl _⟩ dX11_drop_40 ?_
      refine g_aload_n (pc := 43) X dX11_drop_43 rfl 0 rfl ?_
      refine g_iload_n (pc := 44) X dX11_drop_44 rfl 3 rfl ?_
      refine g_i2l (pc := 45) X dX11_drop_45 ?_
      obtain ⟨r18, m19, hq17, hf⟩ := bnd2_some hf
      refine g_callVL (pc := 46) (As := [.long v3_13.toInt64]) (rest := []) X mi_X11_fine im_X11_fine se_X11_fine (KClt hk3 (by decide)) hk3 clX11 ml_X11_74 (cX11_fine_ct z ad v0 v3_13.toInt64 m16 m19 r18 hq17) rfl rfl (Nat.le_of_ble_eq_true rfl) ⟨rfl, rfl, by decide, by decide, Nat.le_refl _, Nat.le_refl _⟩ dX11_drop_46 ?_
      obtain ⟨rfl, rfl⟩ := som2 hf
      exact hret _ _ dX11_drop_49
    · have hf := itn hc hf
      refine g_aload_n (pc := 28) X dX11_drop_28 rfl 0 rfl ?_
      refine g_iconst (v := (1 : Int32)) (pc := 29) X dX11_drop_29 (by decide) ?_
      obtain ⟨r21, m22, hq20, hf⟩ := bnd2_some hf
      refine g_callVL (pc := 30) (As := [.int (1 : Int32)]) (rest := []) X mi_X11_found im_X11_found se_X11_found (KClt hk3 (by decide)) hk3 clX11 ml_X11_66 (cX11_found_ct z ad v0 (1 : Int32) m m22 r21 hq20) rfl rfl (Nat.le_of_ble_eq_true rfl) ⟨rfl, rfl, by decide, by decide, Nat.le_refl _, Nat.le_refl _⟩ dX11_drop_30 ?_
      obtain ⟨rfl, rfl⟩ := som2 hf
      exact hret _ _ dX11_drop_33
  · have hf := itp hc hf
    refine g_ldc2 (pc := 10) X dX11_drop_10 kl_X11_64 ?_
    obtain ⟨rfl, rfl⟩ := som2 hf
    exact hret _ _ dX11_drop_13

noncomputable def fX7_append_5b (v0 : Nat) (v1 : Int64) (v4 : Int32) (m : Mem) : Option ((Int32 × Mem) ⊕ (Mem)) := if v4 < 0 then (some (.inr (m))) else (gp (KC v0 = 7) (if (600 : Int32) ≤ (m.1 v0 1) then (some (.inr (m))) else (bnd (m.2.2 v0 0) (fun q2 => gp (KC q2 = 13) (gp (inb (m.1 v0 1) (NC q2) = true) (lt1 (uI m q2 (m.1 v0 1).toNatClampNeg (vp_nar .byte ((((v1.toUInt64 >>> (((8 : Int32) * v4).toInt64.toUInt64 &&& Int64.toUInt64 63)).toInt64).toInt32).toInt8.toInt32))) (fun m6 => lt1 (uI m6 v0 1 ((m6.1 v0 1) + (1 : Int32))) (fun m8 => lt1 (v4 + (-1)) (fun v4_10 => some (.inl (v4_10, m8)))))))))))
noncomputable def fX7_append_5 (v0 : Nat) (v1 : Int64) (v4 : Int32) (m : Mem) : Option Mem := bnd (iter (fun s => fX7_append_5b v0 v1 s.1 s.2) FU (v4, m)) (fun e => some e)
noncomputable def fX7_append (v0 : Nat) (v1 : Int64) (v3 : Int32) (m : Mem) : Option Mem := lt1 (v3 - (1 : Int32)) (fun v4_12 => fX7_append_5 v0 v1 v4_12 m)
set_option maxHeartbeats 4000000 in
set_option maxRecDepth 100000 in
theorem cX7_append_ct (z : Zx) (ad : Nat → Nat) (v0 : Nat) (v1 : Int64) (v3 : Int32) (m m2 : Mem) (hf : fX7_append v0 v1 v3 m = some m2) : CtV z wC yX7_append cX7_append 5 none (Rm 2) ad 91 [.ref (ad v0), .long v1, .int v3] m m2 := by
  refine ct_ofV mi_X7_append rfl (Nat.le_of_ble_eq_true rfl) (fun x X hret => ?_)
  refine g_lv [(0, .ref (ad v0)), (1, .long v1), (3, .int v3)] [0, 1, 2] rfl ?_
  have hL5 : ∀ (v0 : Nat) (v1 : Int64) (v4 : Int32) (m : Mem), fX7_append_5 v0 v1 v4 m = some m2 → G z wC x 5 0 0 ad 91 m 5 [(0, .ref (ad v0)), (1, .long v1), (4, .int v4)] [] := by
    intro v0 v1 v4 m hf
    unfold fX7_append_5 at hf
    obtain ⟨e5, hit5, hrest5⟩ := bnd_some hf
    refine iter_ok (Hd := fun (s : (Int32 × Mem)) => G z wC x 5 0 0 ad 91 s.2 5 [(0, .ref (ad v0)), (1, .long v1), (4, .int s.1)] []) ?_ FU (v4, m) hit5
    intro s ob5 hf hs5 he5
    obtain ⟨v4, m⟩ := s
    have hf : fX7_append_5b v0 v1 v4 m = some ob5 := hf
    unfold fX7_append_5b at hf
    refine g_iload (pc := 5) X dX7_append_5 2 rfl ?_
    refine g_if_lt (pc := 7) (tgt := 54) X dX7_append_7 (by decide) (fun hc => ?_) (fun hc => ?_)
    · have hf := itp hc hf
      have he5 := he5 _ (Option.some.inj hf).symm
      subst he5
      have hf : some m = some m2 := hrest5
      obtain rfl := Option.some.inj hf
      exact hret _ _ dX7_append_54
    · have hf := itn hc hf
      refine g_aload_n (pc := 10) X dX7_append_10 rfl 0 rfl ?_
      obtain ⟨hk1, hf⟩ := gp_some hf
      refine g_getI (pc := 11) X fl_X7_15 (KClt hk1 (by decide)) hk1 dX7_append_11 ?_
      refine g_sipush (v := (600 : Int32)) (pc := 14) X dX7_append_14 (by decide) ?_
      refine g_icmp_ge (pc := 17) (tgt := 54) X dX7_append_17 (by decide) (fun hc => ?_) (fun hc => ?_)
      · have hf := itp hc hf
        have he5 := he5 _ (Option.some.inj hf).symm
        subst he5
        have hf : some m = some m2 := hrest5
        obtain rfl := Option.some.inj hf
        exact hret _ _ dX7_append_54
      · have hf := itn hc hf
        refine g_aload_n (pc := 20) X dX7_append_20 rfl 0 rfl ?_
        obtain ⟨q2, hr3, hf⟩ := bnd_some hf
        refine g_getR (pc := 21) X fl_X7_9 (KClt hk1 (by decide)) hk1 hr3 dX7_append_21 ?_
        refine g_aload_n (pc := 24) X dX7_append_24 rfl 0 rfl ?_
        refine g_getI (pc := 25) X fl_X7_15 (KClt hk1 (by decide)) hk1 dX7_append_25 ?_
        refine g_lload_n (pc := 28) X dX7_append_28 rfl 1 rfl ?_
        refine g_bipush (v := (8 : Int32)) (pc := 29) X dX7_append_29 (by decide) ?_
        refine g_iload (pc := 31) X dX7_append_31 2 rfl ?_
        refine g_imul (pc := 33) X dX7_append_33 ?_
        refine g_lushr (pc := 34) X dX7_append_34 ?_
        refine g_l2i (pc := 35) X dX7_append_35 ?_
        refine g_i2b (pc := 36) X dX7_append_36 ?_
        obtain ⟨hk4, hf⟩ := gp_some hf
        obtain ⟨hi5, hf⟩ := gp_some hf
        refine g_bast (pc := 37) X (KClt hk4 (by decide)) hk4 hi5 dX7_append_37 ?_
        obtain ⟨m6, e7, hf⟩ := lt1_some hf
        refine g_mem e7 ?_
        refine g_aload_n (pc := 38) X dX7_append_38 rfl 0 rfl ?_
        refine g_dup (pc := 39) X dX7_append_39 rfl ?_
        refine g_getI (pc := 40) X fl_X7_15 (KClt hk1 (by decide)) hk1 dX7_append_40 ?_
        refine g_iconst (v := (1 : Int32)) (pc := 43) X dX7_append_43 (by decide) ?_
        refine g_iadd (pc := 44) X dX7_append_44 ?_
        refine g_putI (pc := 45) X fl_X7_15 (KClt hk1 (by decide)) hk1 rfl rfl dX7_append_45 ?_
        obtain ⟨m8, e9, hf⟩ := lt1_some hf
        refine g_mem e9 ?_
        obtain ⟨v4_10, e11, hf⟩ := lt1_some hf
        refine g_iinc (v2 := v4_10) (lv2 := [(0, .ref (ad v0)), (1, .long v1), (4, .int v4_10)]) (pc := 48) X dX7_append_48 2 rfl (by rw [e11]; rfl) (by decide) [1, 2, 0] rfl ?_
        refine g_goto (pc := 51) (tgt := 5) X dX7_append_51 (by decide) ?_
        exact hs5 (v4_10, m8) (Option.some.inj hf).symm
  unfold fX7_append at hf
  refine g_iload_n (pc := 0) X dX7_append_0 rfl 2 rfl ?_
  refine g_iconst (v := (1 : Int32)) (pc := 1) X dX7_append_1 (by decide) ?_
  refine g_isub (pc := 2) X dX7_append_2 ?_
  obtain ⟨v4_12, e13, hf⟩ := lt1_some hf
  refine g_topi e13 ?_
  refine g_istore (lv2 := [(0, .ref (ad v0)), (1, .long v1), (3, .int v3), (4, .int v4_12)]) (pc := 3) X dX7_append_3 (by decide) [1, 2, 3, 0] rfl ?_
  refine g_lv [(0, .ref (ad v0)), (1, .long v1), (4, .int v4_12)] [0, 1, 3] rfl ?_
  exact hL5 _ _ _ _ hf

noncomputable def fX11_feed (v0 : Nat) (v1 : Int64) (v3 : Int32) (m : Mem) : Option (Int64 × Mem) := bnd (fX11_isWithin v3 (1 : Int32) (8 : Int32)) (fun r2 => if r2 = 0 then (some ((-9000000000000000001 : Int64), m)) else (gp (KC v0 = 11) (bnd (m.2.2 v0 1) (fun q4 => gp (KC q4 = 7) (if ((m.1 q4 1) + v3) ≤ (600 : Int32) then (bnd (fX7_append q4 v1 v3 m) (fun m8 => bnd (m8.2.2 v0 1) (fun q9 => gp (KC q9 = 7) (some ((m8.1 q9 1).toInt64, m8))))) else (some ((-9000000000000000003 : Int64), m)))))))
set_option maxHeartbeats 4000000 in
set_option maxRecDepth 100000 in
theorem cX11_feed_ct (z : Zx) (ad : Nat → Nat) (v0 : Nat) (v1 : Int64) (v3 : Int32) (m m2 : Mem) (r : Int64) (hf : fX11_feed v0 v1 v3 m = some (r, m2)) : CtL z wC yX11_feed cX11_feed 4 (some .long) (Rm 3) ad 91 [.ref (ad v0), .long v1, .int v3] m m2 r := by
  refine ct_ofL mi_X11_feed rfl (Nat.le_of_ble_eq_true rfl) (fun x X hret => ?_)
  refine g_lv [(0, .ref (ad v0)), (1, .long v1), (3, .int v3)] [0, 1, 2] rfl ?_
  unfold fX11_feed at hf
  refine g_iload_n (pc := 0) X dX11_feed_0 rfl 2 rfl ?_
  refine g_iconst (v := (1 : Int32)) (pc := 1) X dX11_feed_1 (by decide) ?_
  refine g_bipush (v := (8 : Int32)) (pc := 2) X dX11_feed_2 (by decide) ?_
  obtain ⟨r2, hq1, hf⟩ := bnd_some hf
  refine g_callSI (pc := 4) (As := [.int v3, .int (1 : Int32), .int (8 : Int32)]) (rest := []) X mi_X11_isWithin sm_X11_isWithin ml_X11_60 (cX11_isWithin_ct z ad v3 (1 : Int32) (8 : Int32) m r2 hq1) rfl rfl (Nat.le_of_ble_eq_true rfl) ⟨rfl, rfl, by decide, by decide, Nat.le_refl _, Nat.le_refl _⟩ dX11_feed_4 ?_
  refine g_if_ne (pc := 7) (tgt := 14) X dX11_feed_7 (by decide) (fun hc => ?_) (fun hc => ?_)
  · have hf := itn hc hf
    refine g_aload_n (pc := 14) X dX11_feed_14 rfl 0 rfl ?_
    obtain ⟨hk3, hf⟩ := gp_some hf
    obtain ⟨q4, hr5, hf⟩ := bnd_some hf
    refine g_getR (pc := 15) X fl_X11_18 (KClt hk3 (by decide)) hk3 hr5 dX11_feed_15 ?_
    obtain ⟨hk6, hf⟩ := gp_some hf
    refine g_getI (pc := 18) X fl_X11_110 (KClt hk6 (by decide)) hk6 dX11_feed_18 ?_
    refine g_iload_n (pc := 21) X dX11_feed_21 rfl 2 rfl ?_
    refine g_iadd (pc := 22) X dX11_feed_22 ?_
    refine g_sipush (v := (600 : Int32)) (pc := 23) X dX11_feed_23 (by decide) ?_
    refine g_icmp_le (pc := 26) (tgt := 33) X dX11_feed_26 (by decide) (fun hc => ?_) (fun hc => ?_)
    · have hf := itp hc hf
      refine g_aload_n (pc := 33) X dX11_feed_33 rfl 0 rfl ?_
      refine g_getR (pc := 34) X fl_X11_18 (KClt hk3 (by decide)) hk3 hr5 dX11_feed_34 ?_
      refine g_lload_n (pc := 37) X dX11_feed_37 rfl 1 rfl ?_
      refine g_iload_n (pc := 38) X dX11_feed_38 rfl 2 rfl ?_
      obtain ⟨m8, hq7, hf⟩ := bnd_some hf
      refine g_callVV (pc := 39) (As := [.long v1, .int v3]) (rest := []) X mi_X7_append im_X7_append se_X7_append (KClt hk6 (by decide)) hk6 clX7 ml_X11_113 (cX7_append_ct z ad q4 v1 v3 m m8 hq7) rfl rfl (Nat.le_of_ble_eq_true rfl) ⟨rfl, rfl, by decide, by decide, Nat.le_refl _, Nat.le_refl _⟩ dX11_feed_39 ?_
      refine g_aload_n (pc := 42) X dX11_feed_42 rfl 0 rfl ?_
      obtain ⟨q9, hr10, hf⟩ := bnd_some hf
      refine g_getR (pc := 43) X fl_X11_18 (KClt hk3 (by decide)) hk3 hr10 dX11_feed_43 ?_
      obtain ⟨hk11, hf⟩ := gp_some hf
      refine g_getI (pc := 46) X fl_X11_110 (KClt hk11 (by decide)) hk11 dX11_feed_46 ?_
      refine g_i2l (pc := 49) X dX11_feed_49 ?_
      obtain ⟨rfl, rfl⟩ := som2 hf
      exact hret _ _ dX11_feed_50
    · have hf := itn hc hf
      refine g_ldc2 (pc := 29) X dX11_feed_29 kl_X11_111 ?_
      obtain ⟨rfl, rfl⟩ := som2 hf
      exact hret _ _ dX11_feed_32
  · have hf := itp hc hf
    refine g_ldc2 (pc := 10) X dX11_feed_10 kl_X11_64 ?_
    obtain ⟨rfl, rfl⟩ := som2 hf
    exact hret _ _ dX11_feed_13

noncomputable def fX9_clear_22b (v0 : Nat) (v1 : Int32) (m : Mem) : Option ((Int32 × Mem) ⊕ (Mem)) := if (8 : Int32) ≤ v1 then (some (.inr (m))) else (gp (KC v0 = 9) (bnd (m.2.2 v0 0) (fun q2 => gp (KC q2 = 14) (gp (inb v1 (NC q2) = true) (lt1 (uI m q2 v1.toNatClampNeg (0 : Int32)) (fun m6 => lt1 (v1 + 1) (fun v1_8 => some (.inl (v1_8, m6)))))))))
noncomputable def fX9_clear_22 (v0 : Nat) (v1 : Int32) (m : Mem) : Option Mem := bnd (iter (fun s => fX9_clear_22b v0 s.1 s.2) FU (v1, m)) (fun e => some e)
noncomputable def fX9_clear (v0 : Nat) (m : Mem) : Option Mem := gp (KC v0 = 9) (lt1 (uI m v0 3 (0 : Int32)) (fun m11 => lt1 (uI m11 v0 4 (0 : Int32)) (fun m13 => lt1 (uI m13 v0 5 (0 : Int32)) (fun m15 => lt1 (uI m15 v0 6 (0 : Int32)) (fun m17 => lt1 ((0 : Int32)) (fun v1_19 => fX9_clear_22 v0 v1_19 m17))))))
set_option maxHeartbeats 4000000 in
set_option maxRecDepth 100000 in
theorem cX9_clear_ct (z : Zx) (ad : Nat → Nat) (v0 : Nat) (m m2 : Mem) (hf : fX9_clear v0 m = some m2) : CtV z wC yX9_clear cX9_clear 2 none (Rm 2) ad 91 [.ref (ad v0)] m m2 := by
  refine ct_ofV mi_X9_clear rfl (Nat.le_of_ble_eq_true rfl) (fun x X hret => ?_)
  refine g_lv [(0, .ref (ad v0))] [0] rfl ?_
  have hL22 : ∀ (v0 : Nat) (v1 : Int32) (m : Mem), fX9_clear_22 v0 v1 m = some m2 → G z wC x 2 0 0 ad 91 m 22 [(0, .ref (ad v0)), (1, .int v1)] [] := by
    intro v0 v1 m hf
    unfold fX9_clear_22 at hf
    obtain ⟨e22, hit22, hrest22⟩ := bnd_some hf
    refine iter_ok (Hd := fun (s : (Int32 × Mem)) => G z wC x 2 0 0 ad 91 s.2 22 [(0, .ref (ad v0)), (1, .int s.1)] []) ?_ FU (v1, m) hit22
    intro s ob22 hf hs22 he22
    obtain ⟨v1, m⟩ := s
    have hf : fX9_clear_22b v0 v1 m = some ob22 := hf
    unfold fX9_clear_22b at hf
    refine g_iload_n (pc := 22) X dX9_clear_22 rfl 1 rfl ?_
    refine g_bipush (v := (8 : Int32)) (pc := 23) X dX9_clear_23 (by decide) ?_
    refine g_icmp_ge (pc := 25) (tgt := 41) X dX9_clear_25 (by decide) (fun hc => ?_) (fun hc => ?_)
    · have hf := itp hc hf
      have he22 := he22 _ (Option.some.inj hf).symm
      subst he22
      have hf : some m = some m2 := hrest22
      obtain rfl := Option.some.inj hf
      exact hret _ _ dX9_clear_41
    · have hf := itn hc hf
      refine g_aload_n (pc := 28) X dX9_clear_28 rfl 0 rfl ?_
      obtain ⟨hk1, hf⟩ := gp_some hf
      obtain ⟨q2, hr3, hf⟩ := bnd_some hf
      refine g_getR (pc := 29) X fl_X9_9 (KClt hk1 (by decide)) hk1 hr3 dX9_clear_29 ?_
      refine g_iload_n (pc := 32) X dX9_clear_32 rfl 1 rfl ?_
      refine g_iconst (v := (0 : Int32)) (pc := 33) X dX9_clear_33 (by decide) ?_
      obtain ⟨hk4, hf⟩ := gp_some hf
      obtain ⟨hi5, hf⟩ := gp_some hf
      refine g_iast (pc := 34) X (KClt hk4 (by decide)) hk4 hi5 dX9_clear_34 ?_
      obtain ⟨m6, e7, hf⟩ := lt1_some hf
      refine g_mem e7 ?_
      obtain ⟨v1_8, e9, hf⟩ := lt1_some hf
      refine g_iinc (v2 := v1_8) (lv2 := [(0, .ref (ad v0)), (1, .int v1_8)]) (pc := 35) X dX9_clear_35 1 rfl (by rw [e9]; rfl) (by decide) [1, 0] rfl ?_
      refine g_goto (pc := 38) (tgt := 22) X dX9_clear_38 (by decide) ?_
      exact hs22 (v1_8, m6) (Option.some.inj hf).symm
  unfold fX9_clear at hf
  refine g_aload_n (pc := 0) X dX9_clear_0 rfl 0 rfl ?_
  refine g_iconst (v := (0 : Int32)) (pc := 1) X dX9_clear_1 (by decide) ?_
  obtain ⟨hk10, hf⟩ := gp_some hf
  refine g_putI (pc := 2) X fl_X9_21 (KClt hk10 (by decide)) hk10 rfl rfl dX9_clear_2 ?_
  obtain ⟨m11, e12, hf⟩ := lt1_some hf
  refine g_mem e12 ?_
  refine g_aload_n (pc := 5) X dX9_clear_5 rfl 0 rfl ?_
  refine g_iconst (v := (0 : Int32)) (pc := 6) X dX9_clear_6 (by decide) ?_
  refine g_putI (pc := 7) X fl_X9_25 (KClt hk10 (by decide)) hk10 rfl rfl dX9_clear_7 ?_
  obtain ⟨m13, e14, hf⟩ := lt1_some hf
  refine g_mem e14 ?_
  refine g_aload_n (pc := 10) X dX9_clear_10 rfl 0 rfl ?_
  refine g_iconst (v := (0 : Int32)) (pc := 11) X dX9_clear_11 (by decide) ?_
  refine g_putI (pc := 12) X fl_X9_28 (KClt hk10 (by decide)) hk10 rfl rfl dX9_clear_12 ?_
  obtain ⟨m15, e16, hf⟩ := lt1_some hf
  refine g_mem e16 ?_
  refine g_aload_n (pc := 15) X dX9_clear_15 rfl 0 rfl ?_
  refine g_iconst (v := (0 : Int32)) (pc := 16) X dX9_clear_16 (by decide) ?_
  refine g_putI (pc := 17) X fl_X9_31 (KClt hk10 (by decide)) hk10 rfl rfl dX9_clear_17 ?_
  obtain ⟨m17, e18, hf⟩ := lt1_some hf
  refine g_mem e18 ?_
  refine g_iconst (v := (0 : Int32)) (pc := 20) X dX9_clear_20 (by decide) ?_
  obtain ⟨v1_19, e20, hf⟩ := lt1_some hf
  refine g_topi e20 ?_
  refine g_istore_n (lv2 := [(0, .ref (ad v0)), (1, .int v1_19)]) (pc := 21) X dX9_clear_21 rfl (by decide) [1, 0] rfl ?_
  exact hL22 _ _ _ hf

noncomputable def fX4_launch (v0 : Nat) (v1 : Int32) (v2 : Int32) (m : Mem) : Option Mem := gp (KC v0 = 4) (gp (zb (1 : Int32) = true) (lt1 (uI m v0 3 (1 : Int32)) (fun m3 => lt1 (uI m3 v0 4 v1) (fun m5 => lt1 (uI m5 v0 5 v2) (fun m7 => lt1 (uI m7 v0 6 (0 : Int32)) (fun m9 => gp (zb (0 : Int32) = true) (lt1 (uI m9 v0 7 (0 : Int32)) (fun m12 => some m12))))))))
set_option maxHeartbeats 4000000 in
set_option maxRecDepth 100000 in
theorem cX4_launch_ct (z : Zx) (ad : Nat → Nat) (v0 : Nat) (v1 : Int32) (v2 : Int32) (m m2 : Mem) (hf : fX4_launch v0 v1 v2 m = some m2) : CtV z wC yX4_launch cX4_launch 3 none (Rm 2) ad 91 [.ref (ad v0), .int v1, .int v2] m m2 := by
  refine ct_ofV mi_X4_launch rfl (Nat.le_of_ble_eq_true rfl) (fun x X hret => ?_)
  refine g_lv [(0, .ref (ad v0)), (1, .int v1), (2, .int v2)] [0, 1, 2] rfl ?_
  unfold fX4_launch at hf
  refine g_aload_n (pc := 0) X dX4_launch_0 rfl 0 rfl ?_
  refine g_iconst (v := (1 : Int32)) (pc := 1) X dX4_launch_1 (by decide) ?_
  obtain ⟨hk1, hf⟩ := gp_some hf
  obtain ⟨hb2, hf⟩ := gp_some hf
  refine g_putI (pc := 2) X fl_X4_28 (KClt hk1 (by decide)) hk1 (zb_nar hb2) (zb_fit hb2) dX4_launch_2 ?_
  obtain ⟨m3, e4, hf⟩ := lt1_some hf
  refine g_mem e4 ?_
  refine g_aload_n (pc := 5) X dX4_launch_5 rfl 0 rfl ?_
  refine g_iload_n (pc := 6) X dX4_launch_6 rfl 1 rfl ?_
  refine g_putI (pc := 7) X fl_X4_32 (KClt hk1 (by decide)) hk1 rfl rfl dX4_launch_7 ?_
  obtain ⟨m5, e6, hf⟩ := lt1_some hf
  refine g_mem e6 ?_
  refine g_aload_n (pc := 10) X dX4_launch_10 rfl 0 rfl ?_
  refine g_iload_n (pc := 11) X dX4_launch_11 rfl 2 rfl ?_
  refine g_putI (pc := 12) X fl_X4_35 (KClt hk1 (by decide)) hk1 rfl rfl dX4_launch_12 ?_
  obtain ⟨m7, e8, hf⟩ := lt1_some hf
  refine g_mem e8 ?_
  refine g_aload_n (pc := 15) X dX4_launch_15 rfl 0 rfl ?_
  refine g_iconst (v := (0 : Int32)) (pc := 16) X dX4_launch_16 (by decide) ?_
  refine g_putI (pc := 17) X fl_X4_38 (KClt hk1 (by decide)) hk1 rfl rfl dX4_launch_17 ?_
  obtain ⟨m9, e10, hf⟩ := lt1_some hf
  refine g_mem e10 ?_
  refine g_aload_n (pc := 20) X dX4_launch_20 rfl 0 rfl ?_
  refine g_iconst (v := (0 : Int32)) (pc := 21) X dX4_launch_21 (by decide) ?_
  obtain ⟨hb11, hf⟩ := gp_some hf
  refine g_putI (pc := 22) X fl_X4_41 (KClt hk1 (by decide)) hk1 (zb_nar hb11) (zb_fit hb11) dX4_launch_22 ?_
  obtain ⟨m12, e13, hf⟩ := lt1_some hf
  refine g_mem e13 ?_
  obtain rfl := Option.some.inj hf
  exact hret _ _ dX4_launch_25

noncomputable def fX4_build (v0 : Nat) (v1 : Int32) (v2 : Int32) (v3 : Int32) (v4 : Int32) (m : Mem) : Option Mem := gp (KC v0 = 4) (lt1 (uI m v0 0 v1) (fun m2 => lt1 (uI m2 v0 1 v2) (fun m4 => lt1 (uI m4 v0 8 v3) (fun m6 => lt1 (uI m6 v0 2 v4) (fun m8 => bnd (fX4_launch v0 (0 : Int32) (0 : Int32) m8) (fun m11 => gp (zb (0 : Int32) = true) (lt1 (uI m11 v0 3 (0 : Int32)) (fun m13 => some m13))))))))
set_option maxHeartbeats 4000000 in
set_option maxRecDepth 100000 in
theorem cX4_build_ct (z : Zx) (ad : Nat → Nat) (v0 : Nat) (v1 : Int32) (v2 : Int32) (v3 : Int32) (v4 : Int32) (m m2 : Mem) (hf : fX4_build v0 v1 v2 v3 v4 m = some m2) : CtV z wC yX4_build cX4_build 5 none (Rm 3) ad 91 [.ref (ad v0), .int v1, .int v2, .int v3, .int v4] m m2 := by
  refine ct_ofV mi_X4_build rfl (Nat.le_of_ble_eq_true rfl) (fun x X hret => ?_)
  refine g_lv [(0, .ref (ad v0)), (1, .int v1), (2, .int v2), (3, .int v3), (4, .int v4)] [0, 1, 2, 3, 4] rfl ?_
  unfold fX4_build at hf
  refine g_aload_n (pc := 0) X dX4_build_0 rfl 0 rfl ?_
  refine g_iload_n (pc := 1) X dX4_build_1 rfl 1 rfl ?_
  obtain ⟨hk1, hf⟩ := gp_some hf
  refine g_putI (pc := 2) X fl_X4_15 (KClt hk1 (by decide)) hk1 rfl rfl dX4_build_2 ?_
  obtain ⟨m2, e3, hf⟩ := lt1_some hf
  refine g_mem e3 ?_
  refine g_aload_n (pc := 5) X dX4_build_5 rfl 0 rfl ?_
  refine g_iload_n (pc := 6) X dX4_build_6 rfl 2 rfl ?_
  refine g_putI (pc := 7) X fl_X4_19 (KClt hk1 (by decide)) hk1 rfl rfl dX4_build_7 ?_
  obtain ⟨m4, e5, hf⟩ := lt1_some hf
  refine g_mem e5 ?_
  refine g_aload_n (pc := 10) X dX4_build_10 rfl 0 rfl ?_
  refine g_iload_n (pc := 11) X dX4_build_11 rfl 3 rfl ?_
  refine g_putI (pc := 12) X fl_X4_22 (KClt hk1 (by decide)) hk1 rfl rfl dX4_build_12 ?_
  obtain ⟨m6, e7, hf⟩ := lt1_some hf
  refine g_mem e7 ?_
  refine g_aload_n (pc := 15) X dX4_build_15 rfl 0 rfl ?_
  refine g_iload (pc := 16) X dX4_build_16 4 rfl ?_
  refine g_putI (pc := 18) X fl_X4_25 (KClt hk1 (by decide)) hk1 rfl rfl dX4_build_18 ?_
  obtain ⟨m8, e9, hf⟩ := lt1_some hf
  refine g_mem e9 ?_
  refine g_aload_n (pc := 21) X dX4_build_21 rfl 0 rfl ?_
  refine g_iconst (v := (0 : Int32)) (pc := 22) X dX4_build_22 (by decide) ?_
  refine g_iconst (v := (0 : Int32)) (pc := 23) X dX4_build_23 (by decide) ?_
  obtain ⟨m11, hq10, hf⟩ := bnd_some hf
  refine g_callVV (pc := 24) (As := [.int (0 : Int32), .int (0 : Int32)]) (rest := []) X mi_X4_launch im_X4_launch se_X4_launch (KClt hk1 (by decide)) hk1 clX4 ml_X4_44 (cX4_launch_ct z ad v0 (0 : Int32) (0 : Int32) m8 m11 hq10) rfl rfl (Nat.le_of_ble_eq_true rfl) ⟨rfl, rfl, by decide, by decide, Nat.le_refl _, Nat.le_refl _⟩ dX4_build_24 ?_
  refine g_aload_n (pc := 27) X dX4_build_27 rfl 0 rfl ?_
  refine g_iconst (v := (0 : Int32)) (pc := 28) X dX4_build_28 (by decide) ?_
  obtain ⟨hb12, hf⟩ := gp_some hf
  refine g_putI (pc := 29) X fl_X4_28 (KClt hk1 (by decide)) hk1 (zb_nar hb12) (zb_fit hb12) dX4_build_29 ?_
  obtain ⟨m13, e14, hf⟩ := lt1_some hf
  refine g_mem e14 ?_
  obtain rfl := Option.some.inj hf
  exact hret _ _ dX4_build_32

noncomputable def fX4_clear (v0 : Nat) (m : Mem) : Option Mem := gp (KC v0 = 4) (bnd (fX4_build v0 (0 : Int32) (0 : Int32) (0 : Int32) (0 : Int32) m) (fun m2 => some m2))
set_option maxHeartbeats 4000000 in
set_option maxRecDepth 100000 in
theorem cX4_clear_ct (z : Zx) (ad : Nat → Nat) (v0 : Nat) (m m2 : Mem) (hf : fX4_clear v0 m = some m2) : CtV z wC yX4_clear cX4_clear 1 none (Rm 4) ad 91 [.ref (ad v0)] m m2 := by
  refine ct_ofV mi_X4_clear rfl (Nat.le_of_ble_eq_true rfl) (fun x X hret => ?_)
  refine g_lv [(0, .ref (ad v0))] [0] rfl ?_
  unfold fX4_clear at hf
  refine g_aload_n (pc := 0) X dX4_clear_0 rfl 0 rfl ?_
  refine g_iconst (v := (0 : Int32)) (pc := 1) X dX4_clear_1 (by decide) ?_
  refine g_iconst (v := (0 : Int32)) (pc := 2) X dX4_clear_2 (by decide) ?_
  refine g_iconst (v := (0 : Int32)) (pc := 3) X dX4_clear_3 (by decide) ?_
  refine g_iconst (v := (0 : Int32)) (pc := 4) X dX4_clear_4 (by decide) ?_
  obtain ⟨hk3, hf⟩ := gp_some hf
  obtain ⟨m2, hq1, hf⟩ := bnd_some hf
  refine g_callVV (pc := 5) (As := [.int (0 : Int32), .int (0 : Int32), .int (0 : Int32), .int (0 : Int32)]) (rest := []) X mi_X4_build im_X4_build se_X4_build (KClt hk3 (by decide)) hk3 clX4 ml_X4_9 (cX4_build_ct z ad v0 (0 : Int32) (0 : Int32) (0 : Int32) (0 : Int32) m m2 hq1) rfl rfl (Nat.le_of_ble_eq_true rfl) ⟨rfl, rfl, by decide, by decide, Nat.le_refl _, Nat.le_refl _⟩ dX4_clear_5 ?_
  obtain rfl := Option.some.inj hf
  exact hret _ _ dX4_clear_8

noncomputable def fX2_clear (v0 : Nat) (m : Mem) : Option Mem := gp (KC v0 = 2) (lt1 (uI m v0 2 (0 : Int32)) (fun m2 => some m2))
set_option maxHeartbeats 4000000 in
set_option maxRecDepth 100000 in
theorem cX2_clear_ct (z : Zx) (ad : Nat → Nat) (v0 : Nat) (m m2 : Mem) (hf : fX2_clear v0 m = some m2) : CtV z wC yX2_clear cX2_clear 1 none (Rm 2) ad 91 [.ref (ad v0)] m m2 := by
  refine ct_ofV mi_X2_clear rfl (Nat.le_of_ble_eq_true rfl) (fun x X hret => ?_)
  refine g_lv [(0, .ref (ad v0))] [0] rfl ?_
  unfold fX2_clear at hf
  refine g_aload_n (pc := 0) X dX2_clear_0 rfl 0 rfl ?_
  refine g_iconst (v := (0 : Int32)) (pc := 1) X dX2_clear_1 (by decide) ?_
  obtain ⟨hk1, hf⟩ := gp_some hf
  refine g_putI (pc := 2) X fl_X2_18 (KClt hk1 (by decide)) hk1 rfl rfl dX2_clear_2 ?_
  obtain ⟨m2, e3, hf⟩ := lt1_some hf
  refine g_mem e3 ?_
  obtain rfl := Option.some.inj hf
  exact hret _ _ dX2_clear_5

noncomputable def fX1_clear (v0 : Nat) (m : Mem) : Option Mem := gp (KC v0 = 1) (lt1 (uI m v0 5 (0 : Int32)) (fun m2 => lt1 (uI m2 v0 6 (0 : Int32)) (fun m4 => some m4)))
set_option maxHeartbeats 4000000 in
set_option maxRecDepth 100000 in
theorem cX1_clear_ct (z : Zx) (ad : Nat → Nat) (v0 : Nat) (m m2 : Mem) (hf : fX1_clear v0 m = some m2) : CtV z wC yX1_clear cX1_clear 1 none (Rm 2) ad 91 [.ref (ad v0)] m m2 := by
  refine ct_ofV mi_X1_clear rfl (Nat.le_of_ble_eq_true rfl) (fun x X hret => ?_)
  refine g_lv [(0, .ref (ad v0))] [0] rfl ?_
  unfold fX1_clear at hf
  refine g_aload_n (pc := 0) X dX1_clear_0 rfl 0 rfl ?_
  refine g_iconst (v := (0 : Int32)) (pc := 1) X dX1_clear_1 (by decide) ?_
  obtain ⟨hk1, hf⟩ := gp_some hf
  refine g_putI (pc := 2) X fl_X1_27 (KClt hk1 (by decide)) hk1 rfl rfl dX1_clear_2 ?_
  obtain ⟨m2, e3, hf⟩ := lt1_some hf
  refine g_mem e3 ?_
  refine g_aload_n (pc := 5) X dX1_clear_5 rfl 0 rfl ?_
  refine g_iconst (v := (0 : Int32)) (pc := 6) X dX1_clear_6 (by decide) ?_
  refine g_putI (pc := 7) X fl_X1_31 (KClt hk1 (by decide)) hk1 rfl rfl dX1_clear_7 ?_
  obtain ⟨m4, e5, hf⟩ := lt1_some hf
  refine g_mem e5 ?_
  obtain rfl := Option.some.inj hf
  exact hret _ _ dX1_clear_10

noncomputable def fX10_clear (v0 : Nat) (m : Mem) : Option Mem := gp (KC v0 = 10) (gp (zb (0 : Int32) = true) (lt1 (uI m v0 4 (0 : Int32)) (fun m3 => bnd (m3.2.2 v0 0) (fun q5 => gp (KC q5 = 9) (bnd (fX9_clear q5 m3) (fun m8 => bnd (m8.2.2 v0 1) (fun q10 => gp (KC q10 = 4) (bnd (fX4_clear q10 m8) (fun m13 => bnd (m13.2.2 v0 2) (fun q15 => gp (KC q15 = 2) (bnd (fX2_clear q15 m13) (fun m18 => bnd (m18.2.2 v0 3) (fun q20 => gp (KC q20 = 1) (bnd (fX1_clear q20 m18) (fun m23 => some m23)))))))))))))))
set_option maxHeartbeats 4000000 in
set_option maxRecDepth 100000 in
theorem cX10_clear_ct (z : Zx) (ad : Nat → Nat) (v0 : Nat) (m m2 : Mem) (hf : fX10_clear v0 m = some m2) : CtV z wC yX10_clear cX10_clear 1 none (Rm 5) ad 91 [.ref (ad v0)] m m2 := by
  refine ct_ofV mi_X10_clear rfl (Nat.le_of_ble_eq_true rfl) (fun x X hret => ?_)
  refine g_lv [(0, .ref (ad v0))] [0] rfl ?_
  unfold fX10_clear at hf
  refine g_aload_n (pc := 0) X dX10_clear_0 rfl 0 rfl ?_
  refine g_iconst (v := (0 : Int32)) (pc := 1) X dX10_clear_1 (by decide) ?_
  obtain ⟨hk1, hf⟩ := gp_some hf
  obtain ⟨hb2, hf⟩ := gp_some hf
  refine g_putI (pc := 2) X fl_X10_37 (KClt hk1 (by decide)) hk1 (zb_nar hb2) (zb_fit hb2) dX10_clear_2 ?_
  obtain ⟨m3, e4, hf⟩ := lt1_some hf
  refine g_mem e4 ?_
  refine g_aload_n (pc := 5) X dX10_clear_5 rfl 0 rfl ?_
  obtain ⟨q5, hr6, hf⟩ := bnd_some hf
  refine g_getR (pc := 6) X fl_X10_10 (KClt hk1 (by decide)) hk1 hr6 dX10_clear_6 ?_
  obtain ⟨hk9, hf⟩ := gp_some hf
  obtain ⟨m8, hq7, hf⟩ := bnd_some hf
  refine g_callVV (pc := 9) (As := []) (rest := []) X mi_X9_clear im_X9_clear se_X9_clear (KClt hk9 (by decide)) hk9 clX9 ml_X10_41 (cX9_clear_ct z ad q5 m3 m8 hq7) rfl rfl (Nat.le_of_ble_eq_true rfl) ⟨rfl, rfl, by decide, by decide, Nat.le_refl _, Nat.le_refl _⟩ dX10_clear_9 ?_
  refine g_aload_n (pc := 12) X dX10_clear_12 rfl 0 rfl ?_
  obtain ⟨q10, hr11, hf⟩ := bnd_some hf
  refine g_getR (pc := 13) X fl_X10_19 (KClt hk1 (by decide)) hk1 hr11 dX10_clear_13 ?_
  obtain ⟨hk14, hf⟩ := gp_some hf
  obtain ⟨m13, hq12, hf⟩ := bnd_some hf
  refine g_callVV (pc := 16) (As := []) (rest := []) X mi_X4_clear im_X4_clear se_X4_clear (KClt hk14 (by decide)) hk14 clX4 ml_X10_44 (cX4_clear_ct z ad q10 m8 m13 hq12) rfl rfl (Nat.le_of_ble_eq_true rfl) ⟨rfl, rfl, by decide, by decide, Nat.le_refl _, Nat.le_refl _⟩ dX10_clear_16 ?_
  refine g_aload_n (pc := 19) X dX10_clear_19 rfl 0 rfl ?_
  obtain ⟨q15, hr16, hf⟩ := bnd_some hf
  refine g_getR (pc := 20) X fl_X10_26 (KClt hk1 (by decide)) hk1 hr16 dX10_clear_20 ?_
  obtain ⟨hk19, hf⟩ := gp_some hf
  obtain ⟨m18, hq17, hf⟩ := bnd_some hf
  refine g_callVV (pc := 23) (As := []) (rest := []) X mi_X2_clear im_X2_clear se_X2_clear (KClt hk19 (by decide)) hk19 clX2 ml_X10_45 (cX2_clear_ct z ad q15 m13 m18 hq17) rfl rfl (Nat.le_of_ble_eq_true rfl) ⟨rfl, rfl, by decide, by decide, Nat.le_refl _, Nat.le_refl _⟩ dX10_clear_23 ?_
  refine g_aload_n (pc := 26) X dX10_clear_26 rfl 0 rfl ?_
  obtain ⟨q20, hr21, hf⟩ := bnd_some hf
  refine g_getR (pc := 27) X fl_X10_33 (KClt hk1 (by decide)) hk1 hr21 dX10_clear_27 ?_
  obtain ⟨hk24, hf⟩ := gp_some hf
  obtain ⟨m23, hq22, hf⟩ := bnd_some hf
  refine g_callVV (pc := 30) (As := []) (rest := []) X mi_X1_clear im_X1_clear se_X1_clear (KClt hk24 (by decide)) hk24 clX1 ml_X10_46 (cX1_clear_ct z ad q20 m18 m23 hq22) rfl rfl (Nat.le_of_ble_eq_true rfl) ⟨rfl, rfl, by decide, by decide, Nat.le_refl _, Nat.le_refl _⟩ dX10_clear_30 ?_
  obtain rfl := Option.some.inj hf
  exact hret _ _ dX10_clear_33

noncomputable def fX8_isBlank_12 : Option Int32 := some (1 : Int32)
noncomputable def fX8_isBlank (v0 : Int32) : Option Int32 := if v0 = (32 : Int32) then (fX8_isBlank_12) else (if v0 = (10 : Int32) then (fX8_isBlank_12) else (some (0 : Int32)))
set_option maxHeartbeats 4000000 in
set_option maxRecDepth 100000 in
theorem cX8_isBlank_ct (z : Zx) (ad : Nat → Nat) (v0 : Int32) (m : Mem) (r : Int32) (hf : fX8_isBlank v0 = some r) : CtI z wC yX8_isBlank cX8_isBlank 1 (some .boolean) (Rm 2) ad 91 [.int v0] m m r := by
  refine ct_ofI mi_X8_isBlank rfl (Nat.le_of_ble_eq_true rfl) (fun x X hret => ?_)
  refine g_lv [(0, .int v0)] [0] rfl ?_
  have hL12 : fX8_isBlank_12 = some r → G z wC x 1 0 0 ad 91 m 12 [] [] := by
    intro hf
    unfold fX8_isBlank_12 at hf
    refine g_iconst (v := (1 : Int32)) (pc := 12) X dX8_isBlank_12 (by decide) ?_
    refine g_goto (pc := 13) (tgt := 17) X dX8_isBlank_13 (by decide) ?_
    obtain rfl := Option.some.inj hf
    exact hret _ _ (by decide) dX8_isBlank_17
  unfold fX8_isBlank at hf
  refine g_iload_n (pc := 0) X dX8_isBlank_0 rfl 0 rfl ?_
  refine g_bipush (v := (32 : Int32)) (pc := 1) X dX8_isBlank_1 (by decide) ?_
  refine g_icmp_eq (pc := 3) (tgt := 12) X dX8_isBlank_3 (by decide) (fun hc => ?_) (fun hc => ?_)
  · have hf := itp hc hf
    refine g_lv [] [] rfl ?_
    exact hL12 hf
  · have hf := itn hc hf
    refine g_iload_n (pc := 6) X dX8_isBlank_6 rfl 0 rfl ?_
    refine g_bipush (v := (10 : Int32)) (pc := 7) X dX8_isBlank_7 (by decide) ?_
    refine g_icmp_ne (pc := 9) (tgt := 16) X dX8_isBlank_9 (by decide) (fun hc => ?_) (fun hc => ?_)
    · have hf := itn hc hf
      refine g_iconst (v := (0 : Int32)) (pc := 16) X dX8_isBlank_16 (by decide) ?_
      obtain rfl := Option.some.inj hf
      exact hret _ _ (by decide) dX8_isBlank_17
    · have hf := itp hc hf
      refine g_lv [] [] rfl ?_
      exact hL12 hf

noncomputable def fX8_isLetter (v0 : Int32) : Option Int32 := if v0 < (97 : Int32) then (some (0 : Int32)) else (if (122 : Int32) < v0 then (some (0 : Int32)) else (some (1 : Int32)))
set_option maxHeartbeats 4000000 in
set_option maxRecDepth 100000 in
theorem cX8_isLetter_ct (z : Zx) (ad : Nat → Nat) (v0 : Int32) (m : Mem) (r : Int32) (hf : fX8_isLetter v0 = some r) : CtI z wC yX8_isLetter cX8_isLetter 1 (some .boolean) (Rm 2) ad 91 [.int v0] m m r := by
  refine ct_ofI mi_X8_isLetter rfl (Nat.le_of_ble_eq_true rfl) (fun x X hret => ?_)
  refine g_lv [(0, .int v0)] [0] rfl ?_
  unfold fX8_isLetter at hf
  refine g_iload_n (pc := 0) X dX8_isLetter_0 rfl 0 rfl ?_
  refine g_bipush (v := (97 : Int32)) (pc := 1) X dX8_isLetter_1 (by decide) ?_
  refine g_icmp_lt (pc := 3) (tgt := 16) X dX8_isLetter_3 (by decide) (fun hc => ?_) (fun hc => ?_)
  · have hf := itp hc hf
    refine g_iconst (v := (0 : Int32)) (pc := 16) X dX8_isLetter_16 (by decide) ?_
    obtain rfl := Option.some.inj hf
    exact hret _ _ (by decide) dX8_isLetter_17
  · have hf := itn hc hf
    refine g_iload_n (pc := 6) X dX8_isLetter_6 rfl 0 rfl ?_
    refine g_bipush (v := (122 : Int32)) (pc := 7) X dX8_isLetter_7 (by decide) ?_
    refine g_icmp_gt (pc := 9) (tgt := 16) X dX8_isLetter_9 (by decide) (fun hc => ?_) (fun hc => ?_)
    · have hf := itp hc hf
      refine g_iconst (v := (0 : Int32)) (pc := 16) X dX8_isLetter_16 (by decide) ?_
      obtain rfl := Option.some.inj hf
      exact hret _ _ (by decide) dX8_isLetter_17
    · have hf := itn hc hf
      refine g_iconst (v := (1 : Int32)) (pc := 12) X dX8_isLetter_12 (by decide) ?_
      refine g_goto (pc := 13) (tgt := 17) X dX8_isLetter_13 (by decide) ?_
      obtain rfl := Option.some.inj hf
      exact hret _ _ (by decide) dX8_isLetter_17

noncomputable def fX8_takeName_0b (v0 : Nat) (m : Mem) : Option ((Mem) ⊕ (Mem)) := gp (KC v0 = 8) (bnd (m.2.2 v0 0) (fun q5 => gp (KC q5 = 7) (if (m.1 q5 1) ≤ (m.1 v0 1) then (some (.inr (m))) else (bnd (m.2.2 q5 0) (fun q11 => gp (KC q11 = 13) (gp (inb (m.1 v0 1) (NC q11) = true) (bnd (fX8_isLetter (m.1 q11 (m.1 v0 1).toNatClampNeg)) (fun r16 => if r16 = 0 then (some (.inr (m))) else (lt1 (uI m v0 1 ((m.1 v0 1) + (1 : Int32))) (fun m20 => some (.inl (m20))))))))))))
noncomputable def fX8_takeName_0 (v0 : Nat) (m : Mem) : Option Mem := bnd (iter (fun s => fX8_takeName_0b v0 s) FU (m)) (fun e => gp (KC v0 = 8) (lt1 (uI e v0 3 (1 : Int32)) (fun m2 => some m2)))
noncomputable def fX8_takeName (v0 : Nat) (m : Mem) : Option Mem := fX8_takeName_0 v0 m
set_option maxHeartbeats 4000000 in
set_option maxRecDepth 100000 in
theorem cX8_takeName_ct (z : Zx) (ad : Nat → Nat) (v0 : Nat) (m m2 : Mem) (hf : fX8_takeName v0 m = some m2) : CtV z wC yX8_takeName cX8_takeName 1 none (Rm 3) ad 91 [.ref (ad v0)] m m2 := by
  refine ct_ofV mi_X8_takeName rfl (Nat.le_of_ble_eq_true rfl) (fun x X hret => ?_)
  refine g_lv [(0, .ref (ad v0))] [0] rfl ?_
  have hL0 : ∀ (v0 : Nat) (m : Mem), fX8_takeName_0 v0 m = some m2 → G z wC x 1 0 0 ad 91 m 0 [(0, .ref (ad v0))] [] := by
    intro v0 m hf
    unfold fX8_takeName_0 at hf
    obtain ⟨e0, hit0, hrest0⟩ := bnd_some hf
    refine iter_ok (Hd := fun (s : (Mem)) => G z wC x 1 0 0 ad 91 s 0 [(0, .ref (ad v0))] []) ?_ FU (m) hit0
    intro m ob0 hf hs0 he0
    have hf : fX8_takeName_0b v0 m = some ob0 := hf
    unfold fX8_takeName_0b at hf
    refine g_aload_n (pc := 0) X dX8_takeName_0 rfl 0 rfl ?_
    obtain ⟨hk4, hf⟩ := gp_some hf
    refine g_getI (pc := 1) X fl_X8_13 (KClt hk4 (by decide)) hk4 dX8_takeName_1 ?_
    refine g_aload_n (pc := 4) X dX8_takeName_4 rfl 0 rfl ?_
    obtain ⟨q5, hr6, hf⟩ := bnd_some hf
    refine g_getR (pc := 5) X fl_X8_7 (KClt hk4 (by decide)) hk4 hr6 dX8_takeName_5 ?_
    obtain ⟨hk7, hf⟩ := gp_some hf
    refine g_getI (pc := 8) X fl_X8_23 (KClt hk7 (by decide)) hk7 dX8_takeName_8 ?_
    refine g_icmp_ge (pc := 11) (tgt := 45) X dX8_takeName_11 (by decide) (fun hc => ?_) (fun hc => ?_)
    · have hf := itp hc hf
      have he0 := he0 _ (Option.some.inj hf).symm
      subst he0
      have hf : gp (KC v0 = 8) (lt1 (uI m v0 3 (1 : Int32)) (fun m9 => some m9)) = some m2 := hrest0
      refine g_aload_n (pc := 45) X dX8_takeName_45 rfl 0 rfl ?_
      refine g_iconst (v := (1 : Int32)) (pc := 46) X dX8_takeName_46 (by decide) ?_
      obtain ⟨hk8, hf⟩ := gp_some hf
      refine g_putI (pc := 47) X fl_X8_36 (KClt hk8 (by decide)) hk8 rfl rfl dX8_takeName_47 ?_
      obtain ⟨m9, e10, hf⟩ := lt1_some hf
      refine g_mem e10 ?_
      obtain rfl := Option.some.inj hf
      exact hret _ _ dX8_takeName_50
    · have hf := itn hc hf
      refine g_aload_n (pc := 14) X dX8_takeName_14 rfl 0 rfl ?_
      refine g_getR (pc := 15) X fl_X8_7 (KClt hk4 (by decide)) hk4 hr6 dX8_takeName_15 ?_
      obtain ⟨q11, hr12, hf⟩ := bnd_some hf
      refine g_getR (pc := 18) X fl_X8_28 (KClt hk7 (by decide)) hk7 hr12 dX8_takeName_18 ?_
      refine g_aload_n (pc := 21) X dX8_takeName_21 rfl 0 rfl ?_
      refine g_getI (pc := 22) X fl_X8_13 (KClt hk4 (by decide)) hk4 dX8_takeName_22 ?_
      obtain ⟨hk13, hf⟩ := gp_some hf
      obtain ⟨hi14, hf⟩ := gp_some hf
      refine g_bald (pc := 25) X (KClt hk13 (by decide)) hk13 hi14 dX8_takeName_25 ?_
      obtain ⟨r16, hq15, hf⟩ := bnd_some hf
      refine g_callSI (pc := 26) (As := [.int (m.1 q11 (m.1 v0 1).toNatClampNeg)]) (rest := []) X mi_X8_isLetter sm_X8_isLetter ml_X8_39 (cX8_isLetter_ct z ad (m.1 q11 (m.1 v0 1).toNatClampNeg) m r16 hq15) rfl rfl (Nat.le_of_ble_eq_true rfl) ⟨rfl, rfl, by decide, by decide, Nat.le_refl _, Nat.le_refl _⟩ dX8_takeName_26 ?_
      refine g_if_eq (pc := 29) (tgt := 45) X dX8_takeName_29 (by decide) (fun hc => ?_) (fun hc => ?_)
      · have hf := itp hc hf
        have he0 := he0 _ (Option.some.inj hf).symm
        subst he0
        have hf : gp (KC v0 = 8) (lt1 (uI m v0 3 (1 : Int32)) (fun m18 => some m18)) = some m2 := hrest0
        refine g_aload_n (pc := 45) X dX8_takeName_45 rfl 0 rfl ?_
        refine g_iconst (v := (1 : Int32)) (pc := 46) X dX8_takeName_46 (by decide) ?_
        obtain ⟨hk17, hf⟩ := gp_some hf
        refine g_putI (pc := 47) X fl_X8_36 (KClt hk17 (by decide)) hk17 rfl rfl dX8_takeName_47 ?_
        obtain ⟨m18, e19, hf⟩ := lt1_some hf
        refine g_mem e19 ?_
        obtain rfl := Option.some.inj hf
        exact hret _ _ dX8_takeName_50
      · have hf := itn hc hf
        refine g_aload_n (pc := 32) X dX8_takeName_32 rfl 0 rfl ?_
        refine g_dup (pc := 33) X dX8_takeName_33 rfl ?_
        refine g_getI (pc := 34) X fl_X8_13 (KClt hk4 (by decide)) hk4 dX8_takeName_34 ?_
        refine g_iconst (v := (1 : Int32)) (pc := 37) X dX8_takeName_37 (by decide) ?_
        refine g_iadd (pc := 38) X dX8_takeName_38 ?_
        refine g_putI (pc := 39) X fl_X8_13 (KClt hk4 (by decide)) hk4 rfl rfl dX8_takeName_39 ?_
        obtain ⟨m20, e21, hf⟩ := lt1_some hf
        refine g_mem e21 ?_
        refine g_goto (pc := 42) (tgt := 0) X dX8_takeName_42 (by decide) ?_
        exact hs0 (m20) (Option.some.inj hf).symm
  unfold fX8_takeName at hf
  exact hL0 _ _ hf

noncomputable def fX8_isFigure (v0 : Int32) : Option Int32 := if v0 < (48 : Int32) then (some (0 : Int32)) else (if (57 : Int32) < v0 then (some (0 : Int32)) else (some (1 : Int32)))
set_option maxHeartbeats 4000000 in
set_option maxRecDepth 100000 in
theorem cX8_isFigure_ct (z : Zx) (ad : Nat → Nat) (v0 : Int32) (m : Mem) (r : Int32) (hf : fX8_isFigure v0 = some r) : CtI z wC yX8_isFigure cX8_isFigure 1 (some .boolean) (Rm 2) ad 91 [.int v0] m m r := by
  refine ct_ofI mi_X8_isFigure rfl (Nat.le_of_ble_eq_true rfl) (fun x X hret => ?_)
  refine g_lv [(0, .int v0)] [0] rfl ?_
  unfold fX8_isFigure at hf
  refine g_iload_n (pc := 0) X dX8_isFigure_0 rfl 0 rfl ?_
  refine g_bipush (v := (48 : Int32)) (pc := 1) X dX8_isFigure_1 (by decide) ?_
  refine g_icmp_lt (pc := 3) (tgt := 16) X dX8_isFigure_3 (by decide) (fun hc => ?_) (fun hc => ?_)
  · have hf := itp hc hf
    refine g_iconst (v := (0 : Int32)) (pc := 16) X dX8_isFigure_16 (by decide) ?_
    obtain rfl := Option.some.inj hf
    exact hret _ _ (by decide) dX8_isFigure_17
  · have hf := itn hc hf
    refine g_iload_n (pc := 6) X dX8_isFigure_6 rfl 0 rfl ?_
    refine g_bipush (v := (57 : Int32)) (pc := 7) X dX8_isFigure_7 (by decide) ?_
    refine g_icmp_gt (pc := 9) (tgt := 16) X dX8_isFigure_9 (by decide) (fun hc => ?_) (fun hc => ?_)
    · have hf := itp hc hf
      refine g_iconst (v := (0 : Int32)) (pc := 16) X dX8_isFigure_16 (by decide) ?_
      obtain rfl := Option.some.inj hf
      exact hret _ _ (by decide) dX8_isFigure_17
    · have hf := itn hc hf
      refine g_iconst (v := (1 : Int32)) (pc := 12) X dX8_isFigure_12 (by decide) ?_
      refine g_goto (pc := 13) (tgt := 17) X dX8_isFigure_13 (by decide) ?_
      obtain rfl := Option.some.inj hf
      exact hret _ _ (by decide) dX8_isFigure_17

noncomputable def fX8_takeNumber_77 (v0 : Nat) (m : Mem) : Option Mem := gp (KC v0 = 8) (if (3 : Int32) < ((m.1 v0 1) - (m.1 v0 2)) then (lt1 (uI m v0 3 (4 : Int32)) (fun m2 => some m2)) else (lt1 (uI m v0 3 (2 : Int32)) (fun m4 => some m4)))
noncomputable def fX8_takeNumber_5b (v0 : Nat) (m : Mem) : Option ((Mem) ⊕ (Mem)) := gp (KC v0 = 8) (bnd (m.2.2 v0 0) (fun q7 => gp (KC q7 = 7) (if (m.1 q7 1) ≤ (m.1 v0 1) then (some (.inr (m))) else (bnd (m.2.2 q7 0) (fun q10 => gp (KC q10 = 13) (gp (inb (m.1 v0 1) (NC q10) = true) (bnd (fX8_isFigure (m.1 q10 (m.1 v0 1).toNatClampNeg)) (fun r15 => if r15 = 0 then (some (.inr (m))) else (gp (inb (m.1 v0 1) (NC q10) = true) (lt1 (uI m v0 4 (((m.1 v0 4) * (10 : Int32)) + ((m.1 q10 (m.1 v0 1).toNatClampNeg) - (48 : Int32)))) (fun m17 => lt1 (uI m17 v0 1 ((m17.1 v0 1) + (1 : Int32))) (fun m19 => some (.inl (m19))))))))))))))
noncomputable def fX8_takeNumber_5 (v0 : Nat) (m : Mem) : Option Mem := bnd (iter (fun s => fX8_takeNumber_5b v0 s) FU (m)) (fun e => fX8_takeNumber_77 v0 e)
noncomputable def fX8_takeNumber (v0 : Nat) (m : Mem) : Option Mem := gp (KC v0 = 8) (lt1 (uI m v0 4 (0 : Int32)) (fun m22 => fX8_takeNumber_5 v0 m22))
set_option maxHeartbeats 4000000 in
set_option maxRecDepth 100000 in
theorem cX8_takeNumber_ct (z : Zx) (ad : Nat → Nat) (v0 : Nat) (m m2 : Mem) (hf : fX8_takeNumber v0 m = some m2) : CtV z wC yX8_takeNumber cX8_takeNumber 1 none (Rm 3) ad 91 [.ref (ad v0)] m m2 := by
  refine ct_ofV mi_X8_takeNumber rfl (Nat.le_of_ble_eq_true rfl) (fun x X hret => ?_)
  refine g_lv [(0, .ref (ad v0))] [0] rfl ?_
  have hL77 : ∀ (v0 : Nat) (m : Mem), fX8_takeNumber_77 v0 m = some m2 → G z wC x 1 0 0 ad 91 m 77 [(0, .ref (ad v0))] [] := by
    intro v0 m hf
    unfold fX8_takeNumber_77 at hf
    refine g_aload_n (pc := 77) X dX8_takeNumber_77 rfl 0 rfl ?_
    refine g_aload_n (pc := 78) X dX8_takeNumber_78 rfl 0 rfl ?_
    obtain ⟨hk1, hf⟩ := gp_some hf
    refine g_getI (pc := 79) X fl_X8_13 (KClt hk1 (by decide)) hk1 dX8_takeNumber_79 ?_
    refine g_aload_n (pc := 82) X dX8_takeNumber_82 rfl 0 rfl ?_
    refine g_getI (pc := 83) X fl_X8_20 (KClt hk1 (by decide)) hk1 dX8_takeNumber_83 ?_
    refine g_isub (pc := 86) X dX8_takeNumber_86 ?_
    refine g_iconst (v := (3 : Int32)) (pc := 87) X dX8_takeNumber_87 (by decide) ?_
    refine g_icmp_gt (pc := 88) (tgt := 95) X dX8_takeNumber_88 (by decide) (fun hc => ?_) (fun hc => ?_)
    · have hf := itp hc hf
      refine g_iconst (v := (4 : Int32)) (pc := 95) X dX8_takeNumber_95 (by decide) ?_
      refine g_putI (pc := 96) X fl_X8_36 (KClt hk1 (by decide)) hk1 rfl rfl dX8_takeNumber_96 ?_
      obtain ⟨m2, e3, hf⟩ := lt1_some hf
      refine g_mem e3 ?_
      obtain rfl := Option.some.inj hf
      exact hret _ _ dX8_takeNumber_99
    · have hf := itn hc hf
      refine g_iconst (v := (2 : Int32)) (pc := 91) X dX8_takeNumber_91 (by decide) ?_
      refine g_goto (pc := 92) (tgt := 96) X dX8_takeNumber_92 (by decide) ?_
      refine g_putI (pc := 96) X fl_X8_36 (KClt hk1 (by decide)) hk1 rfl rfl dX8_takeNumber_96 ?_
      obtain ⟨m4, e5, hf⟩ := lt1_some hf
      refine g_mem e5 ?_
      obtain rfl := Option.some.inj hf
      exact hret _ _ dX8_takeNumber_99
  have hL5 : ∀ (v0 : Nat) (m : Mem), fX8_takeNumber_5 v0 m = some m2 → G z wC x 1 0 0 ad 91 m 5 [(0, .ref (ad v0))] [] := by
    intro v0 m hf
    unfold fX8_takeNumber_5 at hf
    obtain ⟨e5, hit5, hrest5⟩ := bnd_some hf
    refine iter_ok (Hd := fun (s : (Mem)) => G z wC x 1 0 0 ad 91 s 5 [(0, .ref (ad v0))] []) ?_ FU (m) hit5
    intro m ob5 hf hs5 he5
    have hf : fX8_takeNumber_5b v0 m = some ob5 := hf
    unfold fX8_takeNumber_5b at hf
    refine g_aload_n (pc := 5) X dX8_takeNumber_5 rfl 0 rfl ?_
    obtain ⟨hk6, hf⟩ := gp_some hf
    refine g_getI (pc := 6) X fl_X8_13 (KClt hk6 (by decide)) hk6 dX8_takeNumber_6 ?_
    refine g_aload_n (pc := 9) X dX8_takeNumber_9 rfl 0 rfl ?_
    obtain ⟨q7, hr8, hf⟩ := bnd_some hf
    refine g_getR (pc := 10) X fl_X8_7 (KClt hk6 (by decide)) hk6 hr8 dX8_takeNumber_10 ?_
    obtain ⟨hk9, hf⟩ := gp_some hf
    refine g_getI (pc := 13) X fl_X8_23 (KClt hk9 (by decide)) hk9 dX8_takeNumber_13 ?_
    refine g_icmp_ge (pc := 16) (tgt := 77) X dX8_takeNumber_16 (by decide) (fun hc => ?_) (fun hc => ?_)
    · have hf := itp hc hf
      have he5 := he5 _ (Option.some.inj hf).symm
      subst he5
      have hf : fX8_takeNumber_77 v0 m = some m2 := hrest5
      exact hL77 _ _ hf
    · have hf := itn hc hf
      refine g_aload_n (pc := 19) X dX8_takeNumber_19 rfl 0 rfl ?_
      refine g_getR (pc := 20) X fl_X8_7 (KClt hk6 (by decide)) hk6 hr8 dX8_takeNumber_20 ?_
      obtain ⟨q10, hr11, hf⟩ := bnd_some hf
      refine g_getR (pc := 23) X fl_X8_28 (KClt hk9 (by decide)) hk9 hr11 dX8_takeNumber_23 ?_
      refine g_aload_n (pc := 26) X dX8_takeNumber_26 rfl 0 rfl ?_
      refine g_getI (pc := 27) X fl_X8_13 (KClt hk6 (by decide)) hk6 dX8_takeNumber_27 ?_
      obtain ⟨hk12, hf⟩ := gp_some hf
      obtain ⟨hi13, hf⟩ := gp_some hf
      refine g_bald (pc := 30) X (KClt hk12 (by decide)) hk12 hi13 dX8_takeNumber_30 ?_
      obtain ⟨r15, hq14, hf⟩ := bnd_some hf
      refine g_callSI (pc := 31) (As := [.int (m.1 q10 (m.1 v0 1).toNatClampNeg)]) (rest := []) X mi_X8_isFigure sm_X8_isFigure ml_X8_45 (cX8_isFigure_ct z ad (m.1 q10 (m.1 v0 1).toNatClampNeg) m r15 hq14) rfl rfl (Nat.le_of_ble_eq_true rfl) ⟨rfl, rfl, by decide, by decide, Nat.le_refl _, Nat.le_refl _⟩ dX8_takeNumber_31 ?_
      refine g_if_eq (pc := 34) (tgt := 77) X dX8_takeNumber_34 (by decide) (fun hc => ?_) (fun hc => ?_)
      · have hf := itp hc hf
        have he5 := he5 _ (Option.some.inj hf).symm
        subst he5
        have hf : fX8_takeNumber_77 v0 m = some m2 := hrest5
        exact hL77 _ _ hf
      · have hf := itn hc hf
        refine g_aload_n (pc := 37) X dX8_takeNumber_37 rfl 0 rfl ?_
        refine g_aload_n (pc := 38) X dX8_takeNumber_38 rfl 0 rfl ?_
        refine g_getI (pc := 39) X fl_X8_60 (KClt hk6 (by decide)) hk6 dX8_takeNumber_39 ?_
        refine g_bipush (v := (10 : Int32)) (pc := 42) X dX8_takeNumber_42 (by decide) ?_
        refine g_imul (pc := 44) X dX8_takeNumber_44 ?_
        refine g_aload_n (pc := 45) X dX8_takeNumber_45 rfl 0 rfl ?_
        refine g_getR (pc := 46) X fl_X8_7 (KClt hk6 (by decide)) hk6 hr8 dX8_takeNumber_46 ?_
        refine g_getR (pc := 49) X fl_X8_28 (KClt hk9 (by decide)) hk9 hr11 dX8_takeNumber_49 ?_
        refine g_aload_n (pc := 52) X dX8_takeNumber_52 rfl 0 rfl ?_
        refine g_getI (pc := 53) X fl_X8_13 (KClt hk6 (by decide)) hk6 dX8_takeNumber_53 ?_
        obtain ⟨hi16, hf⟩ := gp_some hf
        refine g_bald (pc := 56) X (KClt hk12 (by decide)) hk12 hi16 dX8_takeNumber_56 ?_
        refine g_bipush (v := (48 : Int32)) (pc := 57) X dX8_takeNumber_57 (by decide) ?_
        refine g_isub (pc := 59) X dX8_takeNumber_59 ?_
        refine g_iadd (pc := 60) X dX8_takeNumber_60 ?_
        refine g_putI (pc := 61) X fl_X8_60 (KClt hk6 (by decide)) hk6 rfl rfl dX8_takeNumber_61 ?_
        obtain ⟨m17, e18, hf⟩ := lt1_some hf
        refine g_mem e18 ?_
        refine g_aload_n (pc := 64) X dX8_takeNumber_64 rfl 0 rfl ?_
        refine g_dup (pc := 65) X dX8_takeNumber_65 rfl ?_
        refine g_getI (pc := 66) X fl_X8_13 (KClt hk6 (by decide)) hk6 dX8_takeNumber_66 ?_
        refine g_iconst (v := (1 : Int32)) (pc := 69) X dX8_takeNumber_69 (by decide) ?_
        refine g_iadd (pc := 70) X dX8_takeNumber_70 ?_
        refine g_putI (pc := 71) X fl_X8_13 (KClt hk6 (by decide)) hk6 rfl rfl dX8_takeNumber_71 ?_
        obtain ⟨m19, e20, hf⟩ := lt1_some hf
        refine g_mem e20 ?_
        refine g_goto (pc := 74) (tgt := 5) X dX8_takeNumber_74 (by decide) ?_
        exact hs5 (m19) (Option.some.inj hf).symm
  unfold fX8_takeNumber at hf
  refine g_aload_n (pc := 0) X dX8_takeNumber_0 rfl 0 rfl ?_
  refine g_iconst (v := (0 : Int32)) (pc := 1) X dX8_takeNumber_1 (by decide) ?_
  obtain ⟨hk21, hf⟩ := gp_some hf
  refine g_putI (pc := 2) X fl_X8_60 (KClt hk21 (by decide)) hk21 rfl rfl dX8_takeNumber_2 ?_
  obtain ⟨m22, e23, hf⟩ := lt1_some hf
  refine g_mem e23 ?_
  exact hL5 _ _ hf

noncomputable def fX8_advance_156 (v0 : Nat) (s0 : Nat) (s1 : Int32) (m : Mem) : Option Mem := gp (KC s0 = 8) (lt1 (uI m s0 3 s1) (fun m2 => gp (KC v0 = 8) (lt1 (uI m2 v0 1 ((m2.1 v0 2) + (1 : Int32))) (fun m5 => some m5))))
noncomputable def fX8_advance_53 (v0 : Nat) (m : Mem) : Option Mem := gp (KC v0 = 8) (lt1 (uI m v0 1 (m.1 v0 2)) (fun m8 => bnd (m8.2.2 v0 0) (fun q10 => gp (KC q10 = 7) (if (m8.1 v0 2) < (m8.1 q10 1) then (bnd (m8.2.2 q10 0) (fun q13 => gp (KC q13 = 13) (gp (inb (m8.1 v0 2) (NC q13) = true) (bnd (fX8_isLetter (m8.1 q13 (m8.1 v0 2).toNatClampNeg)) (fun r18 => if r18 = 0 then (gp (inb (m8.1 v0 2) (NC q13) = true) (bnd (fX8_isFigure (m8.1 q13 (m8.1 v0 2).toNatClampNeg)) (fun r21 => if r21 = 0 then (gp (inb (m8.1 v0 2) (NC q13) = true) (if (m8.1 q13 (m8.1 v0 2).toNatClampNeg) = (59 : Int32) then (fX8_advance_156 v0 v0 (3 : Int32) m8) else (fX8_advance_156 v0 v0 (4 : Int32) m8))) else (bnd (fX8_takeNumber v0 m8) (fun m24 => some m24))))) else (bnd (fX8_takeName v0 m8) (fun m26 => some m26))))))) else (lt1 (uI m8 v0 3 (0 : Int32)) (fun m27 => some m27))))))
noncomputable def fX8_advance_8b (v0 : Nat) (m : Mem) : Option ((Mem) ⊕ (Mem)) := gp (KC v0 = 8) (bnd (m.2.2 v0 0) (fun q30 => gp (KC q30 = 7) (if (m.1 q30 1) ≤ (m.1 v0 2) then (some (.inr (m))) else (bnd (m.2.2 q30 0) (fun q33 => gp (KC q33 = 13) (gp (inb (m.1 v0 2) (NC q33) = true) (bnd (fX8_isBlank (m.1 q33 (m.1 v0 2).toNatClampNeg)) (fun r38 => if r38 = 0 then (some (.inr (m))) else (lt1 (uI m v0 2 ((m.1 v0 2) + (1 : Int32))) (fun m39 => some (.inl (m39))))))))))))
noncomputable def fX8_advance_8 (v0 : Nat) (m : Mem) : Option Mem := bnd (iter (fun s => fX8_advance_8b v0 s) FU (m)) (fun e => fX8_advance_53 v0 e)
noncomputable def fX8_advance (v0 : Nat) (m : Mem) : Option Mem := gp (KC v0 = 8) (lt1 (uI m v0 2 (m.1 v0 1)) (fun m42 => fX8_advance_8 v0 m42))
set_option maxHeartbeats 4000000 in
set_option maxRecDepth 100000 in
theorem cX8_advance_ct (z : Zx) (ad : Nat → Nat) (v0 : Nat) (m m2 : Mem) (hf : fX8_advance v0 m = some m2) : CtV z wC yX8_advance cX8_advance 1 none (Rm 4) ad 91 [.ref (ad v0)] m m2 := by
  refine ct_ofV mi_X8_advance rfl (Nat.le_of_ble_eq_true rfl) (fun x X hret => ?_)
  refine g_lv [(0, .ref (ad v0))] [0] rfl ?_
  have hL156 : ∀ (v0 : Nat) (s0 : Nat) (s1 : Int32) (m : Mem), fX8_advance_156 v0 s0 s1 m = some m2 → G z wC x 1 0 0 ad 91 m 156 [(0, .ref (ad v0))] [.int s1, .ref (ad s0)] := by
    intro v0 s0 s1 m hf
    unfold fX8_advance_156 at hf
    obtain ⟨hk1, hf⟩ := gp_some hf
    refine g_putI (pc := 156) X fl_X8_36 (KClt hk1 (by decide)) hk1 rfl rfl dX8_advance_156 ?_
    obtain ⟨m2, e3, hf⟩ := lt1_some hf
    refine g_mem e3 ?_
    refine g_aload_n (pc := 159) X dX8_advance_159 rfl 0 rfl ?_
    refine g_aload_n (pc := 160) X dX8_advance_160 rfl 0 rfl ?_
    obtain ⟨hk4, hf⟩ := gp_some hf
    refine g_getI (pc := 161) X fl_X8_20 (KClt hk4 (by decide)) hk4 dX8_advance_161 ?_
    refine g_iconst (v := (1 : Int32)) (pc := 164) X dX8_advance_164 (by decide) ?_
    refine g_iadd (pc := 165) X dX8_advance_165 ?_
    refine g_putI (pc := 166) X fl_X8_13 (KClt hk4 (by decide)) hk4 rfl rfl dX8_advance_166 ?_
    obtain ⟨m5, e6, hf⟩ := lt1_some hf
    refine g_mem e6 ?_
    obtain rfl := Option.some.inj hf
    exact hret _ _ dX8_advance_169
  have hL53 : ∀ (v0 : Nat) (m : Mem), fX8_advance_53 v0 m = some m2 → G z wC x 1 0 0 ad 91 m 53 [(0, .ref (ad v0))] [] := by
    intro v0 m hf
    unfold fX8_advance_53 at hf
    refine g_aload_n (pc := 53) X dX8_advance_53 rfl 0 rfl ?_
    refine g_aload_n (pc := 54) X dX8_advance_54 rfl 0 rfl ?_
    obtain ⟨hk7, hf⟩ := gp_some hf
    refine g_getI (pc := 55) X fl_X8_20 (KClt hk7 (by decide)) hk7 dX8_advance_55 ?_
    refine g_putI (pc := 58) X fl_X8_13 (KClt hk7 (by decide)) hk7 rfl rfl dX8_advance_58 ?_
    obtain ⟨m8, e9, hf⟩ := lt1_some hf
    refine g_mem e9 ?_
    refine g_aload_n (pc := 61) X dX8_advance_61 rfl 0 rfl ?_
    refine g_getI (pc := 62) X fl_X8_20 (KClt hk7 (by decide)) hk7 dX8_advance_62 ?_
    refine g_aload_n (pc := 65) X dX8_advance_65 rfl 0 rfl ?_
    obtain ⟨q10, hr11, hf⟩ := bnd_some hf
    refine g_getR (pc := 66) X fl_X8_7 (KClt hk7 (by decide)) hk7 hr11 dX8_advance_66 ?_
    obtain ⟨hk12, hf⟩ := gp_some hf
    refine g_getI (pc := 69) X fl_X8_23 (KClt hk12 (by decide)) hk12 dX8_advance_69 ?_
    refine g_icmp_lt (pc := 72) (tgt := 83) X dX8_advance_72 (by decide) (fun hc => ?_) (fun hc => ?_)
    · have hf := itp hc hf
      refine g_aload_n (pc := 83) X dX8_advance_83 rfl 0 rfl ?_
      refine g_getR (pc := 84) X fl_X8_7 (KClt hk7 (by decide)) hk7 hr11 dX8_advance_84 ?_
      obtain ⟨q13, hr14, hf⟩ := bnd_some hf
      refine g_getR (pc := 87) X fl_X8_28 (KClt hk12 (by decide)) hk12 hr14 dX8_advance_87 ?_
      refine g_aload_n (pc := 90) X dX8_advance_90 rfl 0 rfl ?_
      refine g_getI (pc := 91) X fl_X8_20 (KClt hk7 (by decide)) hk7 dX8_advance_91 ?_
      obtain ⟨hk15, hf⟩ := gp_some hf
      obtain ⟨hi16, hf⟩ := gp_some hf
      refine g_bald (pc := 94) X (KClt hk15 (by decide)) hk15 hi16 dX8_advance_94 ?_
      obtain ⟨r18, hq17, hf⟩ := bnd_some hf
      refine g_callSI (pc := 95) (As := [.int (m8.1 q13 (m8.1 v0 2).toNatClampNeg)]) (rest := []) X mi_X8_isLetter sm_X8_isLetter ml_X8_39 (cX8_isLetter_ct z ad (m8.1 q13 (m8.1 v0 2).toNatClampNeg) m8 r18 hq17) rfl rfl (Nat.le_of_ble_eq_true rfl) ⟨rfl, rfl, by decide, by decide, Nat.le_refl _, Nat.le_refl _⟩ dX8_advance_95 ?_
      refine g_if_eq (pc := 98) (tgt := 108) X dX8_advance_98 (by decide) (fun hc => ?_) (fun hc => ?_)
      · have hf := itp hc hf
        refine g_aload_n (pc := 108) X dX8_advance_108 rfl 0 rfl ?_
        refine g_getR (pc := 109) X fl_X8_7 (KClt hk7 (by decide)) hk7 hr11 dX8_advance_109 ?_
        refine g_getR (pc := 112) X fl_X8_28 (KClt hk12 (by decide)) hk12 hr14 dX8_advance_112 ?_
        refine g_aload_n (pc := 115) X dX8_advance_115 rfl 0 rfl ?_
        refine g_getI (pc := 116) X fl_X8_20 (KClt hk7 (by decide)) hk7 dX8_advance_116 ?_
        obtain ⟨hi19, hf⟩ := gp_some hf
        refine g_bald (pc := 119) X (KClt hk15 (by decide)) hk15 hi19 dX8_advance_119 ?_
        obtain ⟨r21, hq20, hf⟩ := bnd_some hf
        refine g_callSI (pc := 120) (As := [.int (m8.1 q13 (m8.1 v0 2).toNatClampNeg)]) (rest := []) X mi_X8_isFigure sm_X8_isFigure ml_X8_45 (cX8_isFigure_ct z ad (m8.1 q13 (m8.1 v0 2).toNatClampNeg) m8 r21 hq20) rfl rfl (Nat.le_of_ble_eq_true rfl) ⟨rfl, rfl, by decide, by decide, Nat.le_refl _, Nat.le_refl _⟩ dX8_advance_120 ?_
        refine g_if_eq (pc := 123) (tgt := 133) X dX8_advance_123 (by decide) (fun hc => ?_) (fun hc => ?_)
        · have hf := itp hc hf
          refine g_aload_n (pc := 133) X dX8_advance_133 rfl 0 rfl ?_
          refine g_aload_n (pc := 134) X dX8_advance_134 rfl 0 rfl ?_
          refine g_getR (pc := 135) X fl_X8_7 (KClt hk7 (by decide)) hk7 hr11 dX8_advance_135 ?_
          refine g_getR (pc := 138) X fl_X8_28 (KClt hk12 (by decide)) hk12 hr14 dX8_advance_138 ?_
          refine g_aload_n (pc := 141) X dX8_advance_141 rfl 0 rfl ?_
          refine g_getI (pc := 142) X fl_X8_20 (KClt hk7 (by decide)) hk7 dX8_advance_142 ?_
          obtain ⟨hi22, hf⟩ := gp_some hf
          refine g_bald (pc := 145) X (KClt hk15 (by decide)) hk15 hi22 dX8_advance_145 ?_
          refine g_bipush (v := (59 : Int32)) (pc := 146) X dX8_advance_146 (by decide) ?_
          refine g_icmp_ne (pc := 148) (tgt := 155) X dX8_advance_148 (by decide) (fun hc => ?_) (fun hc => ?_)
          · have hf := itn hc hf
            refine g_iconst (v := (4 : Int32)) (pc := 155) X dX8_advance_155 (by decide) ?_
            exact hL156 _ _ _ _ hf
          · have hf := itp hc hf
            refine g_iconst (v := (3 : Int32)) (pc := 151) X dX8_advance_151 (by decide) ?_
            refine g_goto (pc := 152) (tgt := 156) X dX8_advance_152 (by decide) ?_
            exact hL156 _ _ _ _ hf
        · have hf := itn hc hf
          refine g_aload_n (pc := 126) X dX8_advance_126 rfl 0 rfl ?_
          obtain ⟨m24, hq23, hf⟩ := bnd_some hf
          refine g_callVV (pc := 127) (As := []) (rest := []) X mi_X8_takeNumber im_X8_takeNumber se_X8_takeNumber (KClt hk7 (by decide)) hk7 clX8 ml_X8_48 (cX8_takeNumber_ct z ad v0 m8 m24 hq23) rfl rfl (Nat.le_of_ble_eq_true rfl) ⟨rfl, rfl, by decide, by decide, Nat.le_refl _, Nat.le_refl _⟩ dX8_advance_127 ?_
          refine g_goto (pc := 130) (tgt := 169) X dX8_advance_130 (by decide) ?_
          obtain rfl := Option.some.inj hf
          exact hret _ _ dX8_advance_169
      · have hf := itn hc hf
        refine g_aload_n (pc := 101) X dX8_advance_101 rfl 0 rfl ?_
        obtain ⟨m26, hq25, hf⟩ := bnd_some hf
        refine g_callVV (pc := 102) (As := []) (rest := []) X mi_X8_takeName im_X8_takeName se_X8_takeName (KClt hk7 (by decide)) hk7 clX8 ml_X8_42 (cX8_takeName_ct z ad v0 m8 m26 hq25) rfl rfl (Nat.le_of_ble_eq_true rfl) ⟨rfl, rfl, by decide, by decide, Nat.le_refl _, Nat.le_refl _⟩ dX8_advance_102 ?_
        refine g_goto (pc := 105) (tgt := 169) X dX8_advance_105 (by decide) ?_
        obtain rfl := Option.some.inj hf
        exact hret _ _ dX8_advance_169
    · have hf := itn hc hf
      refine g_aload_n (pc := 75) X dX8_advance_75 rfl 0 rfl ?_
      refine g_iconst (v := (0 : Int32)) (pc := 76) X dX8_advance_76 (by decide) ?_
      refine g_putI (pc := 77) X fl_X8_36 (KClt hk7 (by decide)) hk7 rfl rfl dX8_advance_77 ?_
      obtain ⟨m27, e28, hf⟩ := lt1_some hf
      refine g_mem e28 ?_
      refine g_goto (pc := 80) (tgt := 169) X dX8_advance_80 (by decide) ?_
      obtain rfl := Option.some.inj hf
      exact hret _ _ dX8_advance_169
  have hL8 : ∀ (v0 : Nat) (m : Mem), fX8_advance_8 v0 m = some m2 → G z wC x 1 0 0 ad 91 m 8 [(0, .ref (ad v0))] [] := by
    intro v0 m hf
    unfold fX8_advance_8 at hf
    obtain ⟨e8, hit8, hrest8⟩ := bnd_some hf
    refine iter_ok (Hd := fun (s : (Mem)) => G z wC x 1 0 0 ad 91 s 8 [(0, .ref (ad v0))] []) ?_ FU (m) hit8
    intro m ob8 hf hs8 he8
    have hf : fX8_advance_8b v0 m = some ob8 := hf
    unfold fX8_advance_8b at hf
    refine g_aload_n (pc := 8) X dX8_advance_8 rfl 0 rfl ?_
    obtain ⟨hk29, hf⟩ := gp_some hf
    refine g_getI (pc := 9) X fl_X8_20 (KClt hk29 (by decide)) hk29 dX8_advance_9 ?_
    refine g_aload_n (pc := 12) X dX8_advance_12 rfl 0 rfl ?_
    obtain ⟨q30, hr31, hf⟩ := bnd_some hf
    refine g_getR (pc := 13) X fl_X8_7 (KClt hk29 (by decide)) hk29 hr31 dX8_advance_13 ?_
    obtain ⟨hk32, hf⟩ := gp_some hf
    refine g_getI (pc := 16) X fl_X8_23 (KClt hk32 (by decide)) hk32 dX8_advance_16 ?_
    refine g_icmp_ge (pc := 19) (tgt := 53) X dX8_advance_19 (by decide) (fun hc => ?_) (fun hc => ?_)
    · have hf := itp hc hf
      have he8 := he8 _ (Option.some.inj hf).symm
      subst he8
      have hf : fX8_advance_53 v0 m = some m2 := hrest8
      exact hL53 _ _ hf
    · have hf := itn hc hf
      refine g_aload_n (pc := 22) X dX8_advance_22 rfl 0 rfl ?_
      refine g_getR (pc := 23) X fl_X8_7 (KClt hk29 (by decide)) hk29 hr31 dX8_advance_23 ?_
      obtain ⟨q33, hr34, hf⟩ := bnd_some hf
      refine g_getR (pc := 26) X fl_X8_28 (KClt hk32 (by decide)) hk32 hr34 dX8_advance_26 ?_
      refine g_aload_n (pc := 29) X dX8_advance_29 rfl 0 rfl ?_
      refine g_getI (pc := 30) X fl_X8_20 (KClt hk29 (by decide)) hk29 dX8_advance_30 ?_
      obtain ⟨hk35, hf⟩ := gp_some hf
      obtain ⟨hi36, hf⟩ := gp_some hf
      refine g_bald (pc := 33) X (KClt hk35 (by decide)) hk35 hi36 dX8_advance_33 ?_
      obtain ⟨r38, hq37, hf⟩ := bnd_some hf
      refine g_callSI (pc := 34) (As := [.int (m.1 q33 (m.1 v0 2).toNatClampNeg)]) (rest := []) X mi_X8_isBlank sm_X8_isBlank ml_X8_32 (cX8_isBlank_ct z ad (m.1 q33 (m.1 v0 2).toNatClampNeg) m r38 hq37) rfl rfl (Nat.le_of_ble_eq_true rfl) ⟨rfl, rfl, by decide, by decide, Nat.le_refl _, Nat.le_refl _⟩ dX8_advance_34 ?_
      refine g_if_eq (pc := 37) (tgt := 53) X dX8_advance_37 (by decide) (fun hc => ?_) (fun hc => ?_)
      · have hf := itp hc hf
        have he8 := he8 _ (Option.some.inj hf).symm
        subst he8
        have hf : fX8_advance_53 v0 m = some m2 := hrest8
        exact hL53 _ _ hf
      · have hf := itn hc hf
        refine g_aload_n (pc := 40) X dX8_advance_40 rfl 0 rfl ?_
        refine g_dup (pc := 41) X dX8_advance_41 rfl ?_
        refine g_getI (pc := 42) X fl_X8_20 (KClt hk29 (by decide)) hk29 dX8_advance_42 ?_
        refine g_iconst (v := (1 : Int32)) (pc := 45) X dX8_advance_45 (by decide) ?_
        refine g_iadd (pc := 46) X dX8_advance_46 ?_
        refine g_putI (pc := 47) X fl_X8_20 (KClt hk29 (by decide)) hk29 rfl rfl dX8_advance_47 ?_
        obtain ⟨m39, e40, hf⟩ := lt1_some hf
        refine g_mem e40 ?_
        refine g_goto (pc := 50) (tgt := 8) X dX8_advance_50 (by decide) ?_
        exact hs8 (m39) (Option.some.inj hf).symm
  unfold fX8_advance at hf
  refine g_aload_n (pc := 0) X dX8_advance_0 rfl 0 rfl ?_
  refine g_aload_n (pc := 1) X dX8_advance_1 rfl 0 rfl ?_
  obtain ⟨hk41, hf⟩ := gp_some hf
  refine g_getI (pc := 2) X fl_X8_13 (KClt hk41 (by decide)) hk41 dX8_advance_2 ?_
  refine g_putI (pc := 5) X fl_X8_20 (KClt hk41 (by decide)) hk41 rfl rfl dX8_advance_5 ?_
  obtain ⟨m42, e43, hf⟩ := lt1_some hf
  refine g_mem e43 ?_
  exact hL8 _ _ hf

noncomputable def fX8_rewind (v0 : Nat) (m : Mem) : Option Mem := gp (KC v0 = 8) (lt1 (uI m v0 1 (0 : Int32)) (fun m2 => bnd (fX8_advance v0 m2) (fun m5 => some m5)))
set_option maxHeartbeats 4000000 in
set_option maxRecDepth 100000 in
theorem cX8_rewind_ct (z : Zx) (ad : Nat → Nat) (v0 : Nat) (m m2 : Mem) (hf : fX8_rewind v0 m = some m2) : CtV z wC yX8_rewind cX8_rewind 1 none (Rm 5) ad 91 [.ref (ad v0)] m m2 := by
  refine ct_ofV mi_X8_rewind rfl (Nat.le_of_ble_eq_true rfl) (fun x X hret => ?_)
  refine g_lv [(0, .ref (ad v0))] [0] rfl ?_
  unfold fX8_rewind at hf
  refine g_aload_n (pc := 0) X dX8_rewind_0 rfl 0 rfl ?_
  refine g_iconst (v := (0 : Int32)) (pc := 1) X dX8_rewind_1 (by decide) ?_
  obtain ⟨hk1, hf⟩ := gp_some hf
  refine g_putI (pc := 2) X fl_X8_13 (KClt hk1 (by decide)) hk1 rfl rfl dX8_rewind_2 ?_
  obtain ⟨m2, e3, hf⟩ := lt1_some hf
  refine g_mem e3 ?_
  refine g_aload_n (pc := 5) X dX8_rewind_5 rfl 0 rfl ?_
  obtain ⟨m5, hq4, hf⟩ := bnd_some hf
  refine g_callVV (pc := 6) (As := []) (rest := []) X mi_X8_advance im_X8_advance se_X8_advance (KClt hk1 (by decide)) hk1 clX8 ml_X8_17 (cX8_advance_ct z ad v0 m2 m5 hq4) rfl rfl (Nat.le_of_ble_eq_true rfl) ⟨rfl, rfl, by decide, by decide, Nat.le_refl _, Nat.le_refl _⟩ dX8_rewind_6 ?_
  obtain rfl := Option.some.inj hf
  exact hret _ _ dX8_rewind_9

