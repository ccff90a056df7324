noncomputable def fX12_ends_43 (v0 : Nat) (s0 : Nat) (s1 : Int32) (s2 : Int32) (s3 : Int32) (m : Mem) : Option (Int32 × Mem) := gp (KM s0 = 14) (gp (inb s1 (NM s0) = true) (lt1 (uI m s0 s1.toNatClampNeg (s2 + s3)) (fun m3 => gp (KM v0 = 12) (if (m3.1 v0 17) = 0 then (some ((1 : Int32), m3)) else (some ((0 : Int32), m3))))))
noncomputable def fX12_ends_24 (v0 : Nat) (v1 : Int32) (m : Mem) : Option (Int32 × Mem) := gp (KM v0 = 12) (bnd (m.2.2 v0 6) (fun q7 => gp (KM q7 = 14) (gp (inb v1 (NM q7) = true) (if (m.1 v0 17) = 0 then (fX12_ends_43 v0 q7 v1 (m.1 q7 v1.toNatClampNeg) (1 : Int32) m) else (fX12_ends_43 v0 q7 v1 (m.1 q7 v1.toNatClampNeg) (0 : Int32) m)))))
noncomputable def fX12_ends_21 (v0 : Nat) (v1 : Int32) (s0 : Nat) (s1 : Int32) (m : Mem) : Option (Int32 × Mem) := gp (KM s0 = 12) (bnd (fX12_must s0 s1 m) (fun m12 => fX12_ends_24 v0 v1 m12))
noncomputable def fX12_ends (v0 : Nat) (v1 : Int32) (m : Mem) : Option (Int32 × Mem) := gp (KM v0 = 12) (if (m.1 v0 17) = 0 then (if (m.1 v0 14) = (4 : Int32) then (fX12_ends_21 v0 v1 v0 (1 : Int32) m) else (fX12_ends_21 v0 v1 v0 (0 : Int32) m)) else (fX12_ends_24 v0 v1 m))
set_option maxHeartbeats 4000000 in
set_option maxRecDepth 100000 in
theorem cX12_ends_ct (z : Zx) (ad : Nat → Nat) (v0 : Nat) (v1 : Int32) (m m2 : Mem) (r : Int32) (hf : fX12_ends v0 v1 m = some (r, m2)) : CtI z wM yX12_ends cX12_ends 2 (some .boolean) (Rm 5) ad 17 [.ref (ad v0), .int v1] m m2 r := by
  refine ct_ofI mi_X12_ends rfl (Nat.le_of_ble_eq_true rfl) (fun x X hret => ?_)
  refine g_lv [(0, .ref (ad v0)), (1, .int v1)] [0, 1] rfl ?_
  have hL43 : ∀ (v0 : Nat) (s0 : Nat) (s1 : Int32) (s2 : Int32) (s3 : Int32) (m : Mem), fX12_ends_43 v0 s0 s1 s2 s3 m = some (r, m2) → G z wM x 2 0 0 ad 17 m 43 [(0, .ref (ad v0))] [.int s3, .int s2, .int s1, .ref (ad s0)] := by
    intro v0 s0 s1 s2 s3 m hf
    unfold fX12_ends_43 at hf
    refine g_iadd (pc := 43) X dX12_ends_43 ?_
    obtain ⟨hk1, hf⟩ := gp_some hf
    obtain ⟨hi2, hf⟩ := gp_some hf
    refine g_iast (pc := 44) X (KMlt hk1 (by decide)) hk1 hi2 dX12_ends_44 ?_
    obtain ⟨m3, e4, hf⟩ := lt1_some hf
    refine g_mem e4 ?_
    refine g_aload_n (pc := 45) X dX12_ends_45 rfl 0 rfl ?_
    obtain ⟨hk5, hf⟩ := gp_some hf
    refine g_getI (pc := 46) X fl_X12_122 (KMlt hk5 (by decide)) hk5 dX12_ends_46 ?_
    refine g_if_ne (pc := 49) (tgt := 56) X dX12_ends_49 (by decide) (fun hc => ?_) (fun hc => ?_)
    · have hf := itn hc hf
      refine g_iconst (v := (0 : Int32)) (pc := 56) X dX12_ends_56 (by decide) ?_
      obtain ⟨rfl, rfl⟩ := som2 hf
      exact hret _ _ (by decide) dX12_ends_57
    · have hf := itp hc hf
      refine g_iconst (v := (1 : Int32)) (pc := 52) X dX12_ends_52 (by decide) ?_
      refine g_goto (pc := 53) (tgt := 57) X dX12_ends_53 (by decide) ?_
      obtain ⟨rfl, rfl⟩ := som2 hf
      exact hret _ _ (by decide) dX12_ends_57
  have hL24 : ∀ (v0 : Nat) (v1 : Int32) (m : Mem), fX12_ends_24 v0 v1 m = some (r, m2) → G z wM x 2 0 0 ad 17 m 24 [(0, .ref (ad v0)), (1, .int v1)] [] := by
    intro v0 v1 m hf
    unfold fX12_ends_24 at hf
    refine g_aload_n (pc := 24) X dX12_ends_24 rfl 0 rfl ?_
    obtain ⟨hk6, hf⟩ := gp_some hf
    obtain ⟨q7, hr8, hf⟩ := bnd_some hf
    refine g_getR (pc := 25) X fl_X12_22 (KMlt hk6 (by decide)) hk6 hr8 dX12_ends_25 ?_
    refine g_iload_n (pc := 28) X dX12_ends_28 rfl 1 rfl ?_
    refine g_dup2_11 (pc := 29) X dX12_ends_29 rfl rfl ?_
    obtain ⟨hk9, hf⟩ := gp_some hf
    obtain ⟨hi10, hf⟩ := gp_some hf
    refine g_iald (pc := 30) X (KMlt hk9 (by decide)) hk9 hi10 dX12_ends_30 ?_
    refine g_aload_n (pc := 31) X dX12_ends_31 rfl 0 rfl ?_
    refine g_getI (pc := 32) X fl_X12_122 (KMlt hk6 (by decide)) hk6 dX12_ends_32 ?_
    refine g_if_ne (pc := 35) (tgt := 42) X dX12_ends_35 (by decide) (fun hc => ?_) (fun hc => ?_)
    · have hf := itn hc hf
      refine g_iconst (v := (0 : Int32)) (pc := 42) X dX12_ends_42 (by decide) ?_
      refine g_lv [(0, .ref (ad v0))] [0] rfl ?_
      exact hL43 _ _ _ _ _ _ hf
    · have hf := itp hc hf
      refine g_iconst (v := (1 : Int32)) (pc := 38) X dX12_ends_38 (by decide) ?_
      refine g_goto (pc := 39) (tgt := 43) X dX12_ends_39 (by decide) ?_
      refine g_lv [(0, .ref (ad v0))] [0] rfl ?_
      exact hL43 _ _ _ _ _ _ hf
  have hL21 : ∀ (v0 : Nat) (v1 : Int32) (s0 : Nat) (s1 : Int32) (m : Mem), fX12_ends_21 v0 v1 s0 s1 m = some (r, m2) → G z wM x 2 0 0 ad 17 m 21 [(0, .ref (ad v0)), (1, .int v1)] [.int s1, .ref (ad s0)] := by
    intro v0 v1 s0 s1 m hf
    unfold fX12_ends_21 at hf
    obtain ⟨hk13, hf⟩ := gp_some hf
    obtain ⟨m12, hq11, hf⟩ := bnd_some hf
    refine g_callVV (pc := 21) (As := [.int s1]) (rest := []) X mi_X12_must im_X12_must se_X12_must (KMlt hk13 (by decide)) hk13 clX12 ml_X12_135 (cX12_must_ct z ad s0 s1 m m12 hq11) rfl rfl (Nat.le_of_ble_eq_true rfl) ⟨rfl, rfl, by decide, by decide, Nat.le_refl _, Nat.le_refl _⟩ dX12_ends_21 ?_
    exact hL24 _ _ _ hf
  unfold fX12_ends at hf
  refine g_aload_n (pc := 0) X dX12_ends_0 rfl 0 rfl ?_
  obtain ⟨hk14, hf⟩ := gp_some hf
  refine g_getI (pc := 1) X fl_X12_122 (KMlt hk14 (by decide)) hk14 dX12_ends_1 ?_
  refine g_if_ne (pc := 4) (tgt := 24) X dX12_ends_4 (by decide) (fun hc => ?_) (fun hc => ?_)
  · have hf := itn hc hf
    exact hL24 _ _ _ hf
  · have hf := itp hc hf
    refine g_aload_n (pc := 7) X dX12_ends_7 rfl 0 rfl ?_
    refine g_aload_n (pc := 8) X dX12_ends_8 rfl 0 rfl ?_
    refine g_getI (pc := 9) X fl_X12_110 (KMlt hk14 (by decide)) hk14 dX12_ends_9 ?_
    refine g_iconst (v := (4 : Int32)) (pc := 12) X dX12_ends_12 (by decide) ?_
    refine g_icmp_ne (pc := 13) (tgt := 20) X dX12_ends_13 (by decide) (fun hc => ?_) (fun hc => ?_)
    · have hf := itn hc hf
      refine g_iconst (v := (0 : Int32)) (pc := 20) X dX12_ends_20 (by decide) ?_
      exact hL21 _ _ _ _ _ hf
    · have hf := itp hc hf
      refine g_iconst (v := (1 : Int32)) (pc := 16) X dX12_ends_16 (by decide) ?_
      refine g_goto (pc := 17) (tgt := 21) X dX12_ends_17 (by decide) ?_
      exact hL21 _ _ _ _ _ hf

noncomputable def fX12_wayOf (v0 : Int64) : Option Int32 := if v0 = (110 : Int64) then (some (0 : Int32)) else (if v0 = (28261 : Int64) then (some (1 : Int32)) else (if v0 = (101 : Int64) then (some (2 : Int32)) else (if v0 = (29541 : Int64) then (some (3 : Int32)) else (if v0 = (115 : Int64) then (some (4 : Int32)) else (if v0 = (29559 : Int64) then (some (5 : Int32)) else (if v0 = (119 : Int64) then (some (6 : Int32)) else (if v0 = (28279 : Int64) then (some (7 : Int32)) else (some (-1000000 : Int32)))))))))
set_option maxHeartbeats 4000000 in
set_option maxRecDepth 100000 in
theorem cX12_wayOf_ct (z : Zx) (ad : Nat → Nat) (v0 : Int64) (m : Mem) (r : Int32) (hf : fX12_wayOf v0 = some r) : CtI z wM yX12_wayOf cX12_wayOf 2 (some .int) (Rm 2) ad 17 [.long v0] m m r := by
  refine ct_ofI mi_X12_wayOf rfl (Nat.le_of_ble_eq_true rfl) (fun x X hret => ?_)
  refine g_lv [(0, .long v0)] [0] rfl ?_
  unfold fX12_wayOf at hf
  refine g_lload_n (pc := 0) X dX12_wayOf_0 rfl 0 rfl ?_
  refine g_ldc2 (pc := 1) X dX12_wayOf_1 kl_X12_139 ?_
  refine g_lcmp_ne (pc := 4) (tgt := 12) X dX12_wayOf_4 dX12_wayOf_5 (by decide) (fun hc => ?_) (fun hc => ?_)
  · have hf := itn hc hf
    refine g_lload_n (pc := 12) X dX12_wayOf_12 rfl 0 rfl ?_
    refine g_ldc2 (pc := 13) X dX12_wayOf_13 kl_X12_141 ?_
    refine g_lcmp_ne (pc := 16) (tgt := 24) X dX12_wayOf_16 dX12_wayOf_17 (by decide) (fun hc => ?_) (fun hc => ?_)
    · have hf := itn hc hf
      refine g_lload_n (pc := 24) X dX12_wayOf_24 rfl 0 rfl ?_
      refine g_ldc2 (pc := 25) X dX12_wayOf_25 kl_X12_143 ?_
      refine g_lcmp_ne (pc := 28) (tgt := 36) X dX12_wayOf_28 dX12_wayOf_29 (by decide) (fun hc => ?_) (fun hc => ?_)
      · have hf := itn hc hf
        refine g_lload_n (pc := 36) X dX12_wayOf_36 rfl 0 rfl ?_
        refine g_ldc2 (pc := 37) X dX12_wayOf_37 kl_X12_145 ?_
        refine g_lcmp_ne (pc := 40) (tgt := 48) X dX12_wayOf_40 dX12_wayOf_41 (by decide) (fun hc => ?_) (fun hc => ?_)
        · have hf := itn hc hf
          refine g_lload_n (pc := 48) X dX12_wayOf_48 rfl 0 rfl ?_
          refine g_ldc2 (pc := 49) X dX12_wayOf_49 kl_X12_147 ?_
          refine g_lcmp_ne (pc := 52) (tgt := 60) X dX12_wayOf_52 dX12_wayOf_53 (by decide) (fun hc => ?_) (fun hc => ?_)
          · have hf := itn hc hf
            refine g_lload_n (pc := 60) X dX12_wayOf_60 rfl 0 rfl ?_
            refine g_ldc2 (pc := 61) X dX12_wayOf_61 kl_X12_149 ?_
            refine g_lcmp_ne (pc := 64) (tgt := 72) X dX12_wayOf_64 dX12_wayOf_65 (by decide) (fun hc => ?_) (fun hc => ?_)
            · have hf := itn hc hf
              refine g_lload_n (pc := 72) X dX12_wayOf_72 rfl 0 rfl ?_
              refine g_ldc2 (pc := 73) X dX12_wayOf_73 kl_X12_151 ?_
              refine g_lcmp_ne (pc := 76) (tgt := 85) X dX12_wayOf_76 dX12_wayOf_77 (by decide) (fun hc => ?_) (fun hc => ?_)
              · have hf := itn hc hf
                refine g_lload_n (pc := 85) X dX12_wayOf_85 rfl 0 rfl ?_
                refine g_ldc2 (pc := 86) X dX12_wayOf_86 kl_X12_153 ?_
                refine g_lcmp_ne (pc := 89) (tgt := 98) X dX12_wayOf_89 dX12_wayOf_90 (by decide) (fun hc => ?_) (fun hc => ?_)
                · have hf := itn hc hf
                  refine g_ldc (pc := 98) X dX12_wayOf_98 k_X12_99 ?_
                  obtain rfl := Option.some.inj hf
                  exact hret _ _ rfl dX12_wayOf_100
                · have hf := itp hc hf
                  refine g_bipush (v := (7 : Int32)) (pc := 93) X dX12_wayOf_93 (by decide) ?_
                  refine g_goto (pc := 95) (tgt := 100) X dX12_wayOf_95 (by decide) ?_
                  obtain rfl := Option.some.inj hf
                  exact hret _ _ rfl dX12_wayOf_100
              · have hf := itp hc hf
                refine g_bipush (v := (6 : Int32)) (pc := 80) X dX12_wayOf_80 (by decide) ?_
                refine g_goto (pc := 82) (tgt := 100) X dX12_wayOf_82 (by decide) ?_
                obtain rfl := Option.some.inj hf
                exact hret _ _ rfl dX12_wayOf_100
            · have hf := itp hc hf
              refine g_iconst (v := (5 : Int32)) (pc := 68) X dX12_wayOf_68 (by decide) ?_
              refine g_goto (pc := 69) (tgt := 100) X dX12_wayOf_69 (by decide) ?_
              obtain rfl := Option.some.inj hf
              exact hret _ _ rfl dX12_wayOf_100
          · have hf := itp hc hf
            refine g_iconst (v := (4 : Int32)) (pc := 56) X dX12_wayOf_56 (by decide) ?_
            refine g_goto (pc := 57) (tgt := 100) X dX12_wayOf_57 (by decide) ?_
            obtain rfl := Option.some.inj hf
            exact hret _ _ rfl dX12_wayOf_100
        · have hf := itp hc hf
          refine g_iconst (v := (3 : Int32)) (pc := 44) X dX12_wayOf_44 (by decide) ?_
          refine g_goto (pc := 45) (tgt := 100) X dX12_wayOf_45 (by decide) ?_
          obtain rfl := Option.some.inj hf
          exact hret _ _ rfl dX12_wayOf_100
      · have hf := itp hc hf
        refine g_iconst (v := (2 : Int32)) (pc := 32) X dX12_wayOf_32 (by decide) ?_
        refine g_goto (pc := 33) (tgt := 100) X dX12_wayOf_33 (by decide) ?_
        obtain rfl := Option.some.inj hf
        exact hret _ _ rfl dX12_wayOf_100
    · have hf := itp hc hf
      refine g_iconst (v := (1 : Int32)) (pc := 20) X dX12_wayOf_20 (by decide) ?_
      refine g_goto (pc := 21) (tgt := 100) X dX12_wayOf_21 (by decide) ?_
      obtain rfl := Option.some.inj hf
      exact hret _ _ rfl dX12_wayOf_100
  · have hf := itp hc hf
    refine g_iconst (v := (0 : Int32)) (pc := 8) X dX12_wayOf_8 (by decide) ?_
    refine g_goto (pc := 9) (tgt := 100) X dX12_wayOf_9 (by decide) ?_
    obtain rfl := Option.some.inj hf
    exact hret _ _ rfl dX12_wayOf_100

noncomputable def fX12_whatOf (v0 : Int64) : Option Int32 := if v0 = (8319381538419076711 : Int64) then (some (1 : Int32)) else (if v0 = (1735356005 : Int64) then (some (2 : Int32)) else (if v0 = (1818584692 : Int64) then (some (3 : Int32)) else (if v0 = (119225731999076 : Int64) then (some (4 : Int32)) else (if v0 = (28273294687102308 : Int64) then (some (5 : Int32)) else (if v0 = (1953459300 : Int64) then (some (6 : Int32)) else (if v0 = (1835099237 : Int64) then (some (7 : Int32)) else (some (-1000000 : Int32))))))))
set_option maxHeartbeats 4000000 in
set_option maxRecDepth 100000 in
theorem cX12_whatOf_ct (z : Zx) (ad : Nat → Nat) (v0 : Int64) (m : Mem) (r : Int32) (hf : fX12_whatOf v0 = some r) : CtI z wM yX12_whatOf cX12_whatOf 2 (some .int) (Rm 2) ad 17 [.long v0] m m r := by
  refine ct_ofI mi_X12_whatOf rfl (Nat.le_of_ble_eq_true rfl) (fun x X hret => ?_)
  refine g_lv [(0, .long v0)] [0] rfl ?_
  unfold fX12_whatOf at hf
  refine g_lload_n (pc := 0) X dX12_whatOf_0 rfl 0 rfl ?_
  refine g_ldc2 (pc := 1) X dX12_whatOf_1 kl_X12_155 ?_
  refine g_lcmp_ne (pc := 4) (tgt := 12) X dX12_whatOf_4 dX12_whatOf_5 (by decide) (fun hc => ?_) (fun hc => ?_)
  · have hf := itn hc hf
    refine g_lload_n (pc := 12) X dX12_whatOf_12 rfl 0 rfl ?_
    refine g_ldc2 (pc := 13) X dX12_whatOf_13 kl_X12_157 ?_
    refine g_lcmp_ne (pc := 16) (tgt := 24) X dX12_whatOf_16 dX12_whatOf_17 (by decide) (fun hc => ?_) (fun hc => ?_)
    · have hf := itn hc hf
      refine g_lload_n (pc := 24) X dX12_whatOf_24 rfl 0 rfl ?_
      refine g_ldc2 (pc := 25) X dX12_whatOf_25 kl_X12_159 ?_
      refine g_lcmp_ne (pc := 28) (tgt := 36) X dX12_whatOf_28 dX12_whatOf_29 (by decide) (fun hc => ?_) (fun hc => ?_)
      · have hf := itn hc hf
        refine g_lload_n (pc := 36) X dX12_whatOf_36 rfl 0 rfl ?_
        refine g_ldc2 (pc := 37) X dX12_whatOf_37 kl_X12_161 ?_
        refine g_lcmp_ne (pc := 40) (tgt := 48) X dX12_whatOf_40 dX12_whatOf_41 (by decide) (fun hc => ?_) (fun hc => ?_)
        · have hf := itn hc hf
          refine g_lload_n (pc := 48) X dX12_whatOf_48 rfl 0 rfl ?_
          refine g_ldc2 (pc := 49) X dX12_whatOf_49 kl_X12_163 ?_
          refine g_lcmp_ne (pc := 52) (tgt := 60) X dX12_whatOf_52 dX12_whatOf_53 (by decide) (fun hc => ?_) (fun hc => ?_)
          · have hf := itn hc hf
            refine g_lload_n (pc := 60) X dX12_whatOf_60 rfl 0 rfl ?_
            refine g_ldc2 (pc := 61) X dX12_whatOf_61 kl_X12_165 ?_
            refine g_lcmp_ne (pc := 64) (tgt := 73) X dX12_whatOf_64 dX12_whatOf_65 (by decide) (fun hc => ?_) (fun hc => ?_)
            · have hf := itn hc hf
              refine g_lload_n (pc := 73) X dX12_whatOf_73 rfl 0 rfl ?_
              refine g_ldc2 (pc := 74) X dX12_whatOf_74 kl_X12_167 ?_
              refine g_lcmp_ne (pc := 77) (tgt := 86) X dX12_whatOf_77 dX12_whatOf_78 (by decide) (fun hc => ?_) (fun hc => ?_)
              · have hf := itn hc hf
                refine g_ldc (pc := 86) X dX12_whatOf_86 k_X12_99 ?_
                obtain rfl := Option.some.inj hf
                exact hret _ _ rfl dX12_whatOf_88
              · have hf := itp hc hf
                refine g_bipush (v := (7 : Int32)) (pc := 81) X dX12_whatOf_81 (by decide) ?_
                refine g_goto (pc := 83) (tgt := 88) X dX12_whatOf_83 (by decide) ?_
                obtain rfl := Option.some.inj hf
                exact hret _ _ rfl dX12_whatOf_88
            · have hf := itp hc hf
              refine g_bipush (v := (6 : Int32)) (pc := 68) X dX12_whatOf_68 (by decide) ?_
              refine g_goto (pc := 70) (tgt := 88) X dX12_whatOf_70 (by decide) ?_
              obtain rfl := Option.some.inj hf
              exact hret _ _ rfl dX12_whatOf_88
          · have hf := itp hc hf
            refine g_iconst (v := (5 : Int32)) (pc := 56) X dX12_whatOf_56 (by decide) ?_
            refine g_goto (pc := 57) (tgt := 88) X dX12_whatOf_57 (by decide) ?_
            obtain rfl := Option.some.inj hf
            exact hret _ _ rfl dX12_whatOf_88
        · have hf := itp hc hf
          refine g_iconst (v := (4 : Int32)) (pc := 44) X dX12_whatOf_44 (by decide) ?_
          refine g_goto (pc := 45) (tgt := 88) X dX12_whatOf_45 (by decide) ?_
          obtain rfl := Option.some.inj hf
          exact hret _ _ rfl dX12_whatOf_88
      · have hf := itp hc hf
        refine g_iconst (v := (3 : Int32)) (pc := 32) X dX12_whatOf_32 (by decide) ?_
        refine g_goto (pc := 33) (tgt := 88) X dX12_whatOf_33 (by decide) ?_
        obtain rfl := Option.some.inj hf
        exact hret _ _ rfl dX12_whatOf_88
    · have hf := itp hc hf
      refine g_iconst (v := (2 : Int32)) (pc := 20) X dX12_whatOf_20 (by decide) ?_
      refine g_goto (pc := 21) (tgt := 88) X dX12_whatOf_21 (by decide) ?_
      obtain rfl := Option.some.inj hf
      exact hret _ _ rfl dX12_whatOf_88
  · have hf := itp hc hf
    refine g_iconst (v := (1 : Int32)) (pc := 8) X dX12_whatOf_8 (by decide) ?_
    refine g_goto (pc := 9) (tgt := 88) X dX12_whatOf_9 (by decide) ?_
    obtain rfl := Option.some.inj hf
    exact hret _ _ rfl dX12_whatOf_88

noncomputable def fX12_named_19 (v1 : Int32) (s0 : Nat) (s1 : Int32) (m : Mem) : Option (Int32 × Mem) := gp (KM s0 = 12) (bnd (fX12_must s0 s1 m) (fun m2 => some (v1, m2)))
noncomputable def fX12_named (v0 : Nat) (v1 : Int32) (m : Mem) : Option (Int32 × Mem) := gp (KM v0 = 12) (if (m.1 v0 17) = 0 then (if v1 = (-1000000 : Int32) then (fX12_named_19 v1 v0 (0 : Int32) m) else (fX12_named_19 v1 v0 (1 : Int32) m)) else (some (v1, m)))
set_option maxHeartbeats 4000000 in
set_option maxRecDepth 100000 in
theorem cX12_named_ct (z : Zx) (ad : Nat → Nat) (v0 : Nat) (v1 : Int32) (m m2 : Mem) (r : Int32) (hf : fX12_named v0 v1 m = some (r, m2)) : CtI z wM yX12_named cX12_named 2 (some .int) (Rm 5) ad 17 [.ref (ad v0), .int v1] m m2 r := by
  refine ct_ofI mi_X12_named rfl (Nat.le_of_ble_eq_true rfl) (fun x X hret => ?_)
  refine g_lv [(0, .ref (ad v0)), (1, .int v1)] [0, 1] rfl ?_
  have hL19 : ∀ (v1 : Int32) (s0 : Nat) (s1 : Int32) (m : Mem), fX12_named_19 v1 s0 s1 m = some (r, m2) → G z wM x 2 0 0 ad 17 m 19 [(1, .int v1)] [.int s1, .ref (ad s0)] := by
    intro v1 s0 s1 m hf
    unfold fX12_named_19 at hf
    obtain ⟨hk3, hf⟩ := gp_some hf
    obtain ⟨m2, hq1, hf⟩ := bnd_some hf
    refine g_callVV (pc := 19) (As := [.int s1]) (rest := []) X mi_X12_must im_X12_must se_X12_must (KMlt hk3 (by decide)) hk3 clX12 ml_X12_135 (cX12_must_ct z ad s0 s1 m m2 hq1) rfl rfl (Nat.le_of_ble_eq_true rfl) ⟨rfl, rfl, by decide, by decide, Nat.le_refl _, Nat.le_refl _⟩ dX12_named_19 ?_
    refine g_iload_n (pc := 22) X dX12_named_22 rfl 0 rfl ?_
    obtain ⟨rfl, rfl⟩ := som2 hf
    exact hret _ _ rfl dX12_named_23
  unfold fX12_named at hf
  refine g_aload_n (pc := 0) X dX12_named_0 rfl 0 rfl ?_
  obtain ⟨hk4, hf⟩ := gp_some hf
  refine g_getI (pc := 1) X fl_X12_122 (KMlt hk4 (by decide)) hk4 dX12_named_1 ?_
  refine g_if_ne (pc := 4) (tgt := 22) X dX12_named_4 (by decide) (fun hc => ?_) (fun hc => ?_)
  · have hf := itn hc hf
    refine g_iload_n (pc := 22) X dX12_named_22 rfl 1 rfl ?_
    obtain ⟨rfl, rfl⟩ := som2 hf
    exact hret _ _ rfl dX12_named_23
  · have hf := itp hc hf
    refine g_aload_n (pc := 7) X dX12_named_7 rfl 0 rfl ?_
    refine g_iload_n (pc := 8) X dX12_named_8 rfl 1 rfl ?_
    refine g_ldc (pc := 9) X dX12_named_9 k_X12_99 ?_
    refine g_icmp_eq (pc := 11) (tgt := 18) X dX12_named_11 (by decide) (fun hc => ?_) (fun hc => ?_)
    · have hf := itp hc hf
      refine g_iconst (v := (0 : Int32)) (pc := 18) X dX12_named_18 (by decide) ?_
      refine g_lv [(1, .int v1)] [1] rfl ?_
      exact hL19 _ _ _ _ hf
    · have hf := itn hc hf
      refine g_iconst (v := (1 : Int32)) (pc := 14) X dX12_named_14 (by decide) ?_
      refine g_goto (pc := 15) (tgt := 19) X dX12_named_15 (by decide) ?_
      refine g_lv [(1, .int v1)] [1] rfl ?_
      exact hL19 _ _ _ _ hf

noncomputable def fX12_readWind (v0 : Nat) (m : Mem) : Option Mem := gp (KM v0 = 12) (bnd (fX12_begins v0 (0 : Int32) (4 : Int32) m) (fun m2 => bnd (m2.2.2 v0 6) (fun q4 => gp (KM q4 = 14) (gp (inb (0 : Int32) (NM q4) = true) (lt1 ((12 : Int32) + ((2 : Int32) * (m2.1 q4 (0 : Int32).toNatClampNeg))) (fun v1_8 => bnd (fX12_word v0 m2) (fun r11 => bnd (fX12_wayOf r11) (fun r13 => bnd2 (fX12_named v0 r13 m2) (fun r15 m16 => bnd2 (fX12_number v0 (1 : Int32) (9 : Int32) m16) (fun r18 m19 => bnd2 (fX12_ends v0 (0 : Int32) m19) (fun r21 m22 => if r21 = 0 then (some m22) else (bnd (m22.2.2 v0 6) (fun q23 => gp (KM q23 = 14) (gp (inb v1_8 (NM q23) = true) (lt1 (uI m22 q23 v1_8.toNatClampNeg r15) (fun m27 => bnd (m27.2.2 v0 6) (fun q29 => gp (KM q29 = 14) (gp (inb (v1_8 + (1 : Int32)) (NM q29) = true) (lt1 (uI m27 q29 (v1_8 + (1 : Int32)).toNatClampNeg r18) (fun m33 => some m33))))))))))))))))))))
set_option maxHeartbeats 4000000 in
set_option maxRecDepth 100000 in
theorem cX12_readWind_ct (z : Zx) (ad : Nat → Nat) (v0 : Nat) (m m2 : Mem) (hf : fX12_readWind v0 m = some m2) : CtV z wM yX12_readWind cX12_readWind 4 none (Rm 6) ad 17 [.ref (ad v0)] m m2 := by
  refine ct_ofV mi_X12_readWind rfl (Nat.le_of_ble_eq_true rfl) (fun x X hret => ?_)
  refine g_lv [(0, .ref (ad v0))] [0] rfl ?_
  unfold fX12_readWind at hf
  refine g_aload_n (pc := 0) X dX12_readWind_0 rfl 0 rfl ?_
  refine g_iconst (v := (0 : Int32)) (pc := 1) X dX12_readWind_1 (by decide) ?_
  refine g_iconst (v := (4 : Int32)) (pc := 2) X dX12_readWind_2 (by decide) ?_
  obtain ⟨hk3, hf⟩ := gp_some hf
  obtain ⟨m2, hq1, hf⟩ := bnd_some hf
  refine g_callVV (pc := 3) (As := [.int (0 : Int32), .int (4 : Int32)]) (rest := []) X mi_X12_begins im_X12_begins se_X12_begins (KMlt hk3 (by decide)) hk3 clX12 ml_X12_169 (cX12_begins_ct z ad v0 (0 : Int32) (4 : Int32) m m2 hq1) rfl rfl (Nat.le_of_ble_eq_true rfl) ⟨rfl, rfl, by decide, by decide, Nat.le_refl _, Nat.le_refl _⟩ dX12_readWind_3 ?_
  refine g_bipush (v := (12 : Int32)) (pc := 6) X dX12_readWind_6 (by decide) ?_
  refine g_iconst (v := (2 : Int32)) (pc := 8) X dX12_readWind_8 (by decide) ?_
  refine g_aload_n (pc := 9) X dX12_readWind_9 rfl 0 rfl ?_
  obtain ⟨q4, hr5, hf⟩ := bnd_some hf
  refine g_getR (pc := 10) X fl_X12_22 (KMlt hk3 (by decide)) hk3 hr5 dX12_readWind_10 ?_
  refine g_iconst (v := (0 : Int32)) (pc := 13) X dX12_readWind_13 (by decide) ?_
  obtain ⟨hk6, hf⟩ := gp_some hf
  obtain ⟨hi7, hf⟩ := gp_some hf
  refine g_iald (pc := 14) X (KMlt hk6 (by decide)) hk6 hi7 dX12_readWind_14 ?_
  refine g_imul (pc := 15) X dX12_readWind_15 ?_
  refine g_iadd (pc := 16) X dX12_readWind_16 ?_
  obtain ⟨v1_8, e9, hf⟩ := lt1_some hf
  refine g_topi e9 ?_
  refine g_istore_n (lv2 := [(0, .ref (ad v0)), (1, .int v1_8)]) (pc := 17) X dX12_readWind_17 rfl (by decide) [1, 0] rfl ?_
  refine g_aload_n (pc := 18) X dX12_readWind_18 rfl 0 rfl ?_
  refine g_aload_n (pc := 19) X dX12_readWind_19 rfl 0 rfl ?_
  obtain ⟨r11, hq10, hf⟩ := bnd_some hf
  refine g_callVL (pc := 20) (As := []) (rest := [.ref (ad v0)]) X mi_X12_word im_X12_word se_X12_word (KMlt hk3 (by decide)) hk3 clX12 ml_X12_173 (cX12_word_ct z ad v0 m2 r11 hq10) rfl rfl (Nat.le_of_ble_eq_true rfl) ⟨rfl, rfl, by decide, by decide, Nat.le_refl _, Nat.le_refl _⟩ dX12_readWind_20 ?_
  obtain ⟨r13, hq12, hf⟩ := bnd_some hf
  refine g_callSI (pc := 23) (As := [.long r11]) (rest := [.ref (ad v0)]) X mi_X12_wayOf sm_X12_wayOf ml_X12_177 (cX12_wayOf_ct z ad r11 m2 r13 hq12) rfl rfl (Nat.le_of_ble_eq_true rfl) ⟨rfl, rfl, by decide, by decide, Nat.le_refl _, Nat.le_refl _⟩ dX12_readWind_23 ?_
  obtain ⟨r15, m16, hq14, hf⟩ := bnd2_some hf
  refine g_callVI (pc := 26) (As := [.int r13]) (rest := []) X mi_X12_named im_X12_named se_X12_named (KMlt hk3 (by decide)) hk3 clX12 ml_X12_181 (cX12_named_ct z ad v0 r13 m2 m16 r15 hq14) rfl rfl (Nat.le_of_ble_eq_true rfl) ⟨rfl, rfl, by decide, by decide, Nat.le_refl _, Nat.le_refl _⟩ dX12_readWind_26 ?_
  refine g_istore_n (lv2 := [(0, .ref (ad v0)), (1, .int v1_8), (2, .int r15)]) (pc := 29) X dX12_readWind_29 rfl (by decide) [1, 2, 0] rfl ?_
  refine g_aload_n (pc := 30) X dX12_readWind_30 rfl 0 rfl ?_
  refine g_iconst (v := (1 : Int32)) (pc := 31) X dX12_readWind_31 (by decide) ?_
  refine g_bipush (v := (9 : Int32)) (pc := 32) X dX12_readWind_32 (by decide) ?_
  obtain ⟨r18, m19, hq17, hf⟩ := bnd2_some hf
  refine g_callVI (pc := 34) (As := [.int (1 : Int32), .int (9 : Int32)]) (rest := []) X mi_X12_number im_X12_number se_X12_number (KMlt hk3 (by decide)) hk3 clX12 ml_X12_184 (cX12_number_ct z ad v0 (1 : Int32) (9 : Int32) m16 m19 r18 hq17) rfl rfl (Nat.le_of_ble_eq_true rfl) ⟨rfl, rfl, by decide, by decide, Nat.le_refl _, Nat.le_refl _⟩ dX12_readWind_34 ?_
  refine g_istore_n (lv2 := [(0, .ref (ad v0)), (1, .int v1_8), (2, .int r15), (3, .int r18)]) (pc := 37) X dX12_readWind_37 rfl (by decide) [1, 2, 3, 0] rfl ?_
  refine g_aload_n (pc := 38) X dX12_readWind_38 rfl 0 rfl ?_
  refine g_iconst (v := (0 : Int32)) (pc := 39) X dX12_readWind_39 (by decide) ?_
  obtain ⟨r21, m22, hq20, hf⟩ := bnd2_some hf
  refine g_callVI (pc := 40) (As := [.int (0 : Int32)]) (rest := []) X mi_X12_ends im_X12_ends se_X12_ends (KMlt hk3 (by decide)) hk3 clX12 ml_X12_188 (cX12_ends_ct z ad v0 (0 : Int32) m19 m22 r21 hq20) rfl rfl (Nat.le_of_ble_eq_true rfl) ⟨rfl, rfl, by decide, by decide, Nat.le_refl _, Nat.le_refl _⟩ dX12_readWind_40 ?_
  refine g_if_eq (pc := 43) (tgt := 62) X dX12_readWind_43 (by decide) (fun hc => ?_) (fun hc => ?_)
  · have hf := itp hc hf
    obtain rfl := Option.some.inj hf
    exact hret _ _ dX12_readWind_62
  · have hf := itn hc hf
    refine g_aload_n (pc := 46) X dX12_readWind_46 rfl 0 rfl ?_
    obtain ⟨q23, hr24, hf⟩ := bnd_some hf
    refine g_getR (pc := 47) X fl_X12_22 (KMlt hk3 (by decide)) hk3 hr24 dX12_readWind_47 ?_
    refine g_iload_n (pc := 50) X dX12_readWind_50 rfl 1 rfl ?_
    refine g_iload_n (pc := 51) X dX12_readWind_51 rfl 2 rfl ?_
    obtain ⟨hk25, hf⟩ := gp_some hf
    obtain ⟨hi26, hf⟩ := gp_some hf
    refine g_iast (pc := 52) X (KMlt hk25 (by decide)) hk25 hi26 dX12_readWind_52 ?_
    obtain ⟨m27, e28, hf⟩ := lt1_some hf
    refine g_mem e28 ?_
    refine g_aload_n (pc := 53) X dX12_readWind_53 rfl 0 rfl ?_
    obtain ⟨q29, hr30, hf⟩ := bnd_some hf
    refine g_getR (pc := 54) X fl_X12_22 (KMlt hk3 (by decide)) hk3 hr30 dX12_readWind_54 ?_
    refine g_iload_n (pc := 57) X dX12_readWind_57 rfl 1 rfl ?_
    refine g_iconst (v := (1 : Int32)) (pc := 58) X dX12_readWind_58 (by decide) ?_
    refine g_iadd (pc := 59) X dX12_readWind_59 ?_
    refine g_iload_n (pc := 60) X dX12_readWind_60 rfl 3 rfl ?_
    obtain ⟨hk31, hf⟩ := gp_some hf
    obtain ⟨hi32, hf⟩ := gp_some hf
    refine g_iast (pc := 61) X (KMlt hk31 (by decide)) hk31 hi32 dX12_readWind_61 ?_
    obtain ⟨m33, e34, hf⟩ := lt1_some hf
    refine g_mem e34 ?_
    obtain rfl := Option.some.inj hf
    exact hret _ _ dX12_readWind_62

noncomputable def fX12_readLand (v0 : Nat) (m : Mem) : Option Mem := gp (KM v0 = 12) (bnd (fX12_begins v0 (1 : Int32) (12 : Int32) m) (fun m2 => bnd (m2.2.2 v0 6) (fun q4 => gp (KM q4 = 14) (gp (inb (6 : Int32) (NM q4) = true) (bnd2 (fX12_number v0 (0 : Int32) ((m2.1 q4 (6 : Int32).toNatClampNeg) - (1 : Int32)) m2) (fun r9 m10 => bnd (m10.2.2 v0 6) (fun q11 => gp (KM q11 = 14) (gp (inb (7 : Int32) (NM q11) = true) (bnd2 (fX12_number v0 (0 : Int32) ((m10.1 q11 (7 : Int32).toNatClampNeg) - (1 : Int32)) m10) (fun r16 m17 => bnd2 (fX12_ends v0 (1 : Int32) m17) (fun r19 m20 => if r19 = 0 then (some m20) else (bnd (m20.2.2 v0 6) (fun q21 => gp (KM q21 = 14) (gp (inb (((78 : Int32) + ((16 : Int32) * r16)) + r9) (NM q21) = true) (lt1 (uI m20 q21 (((78 : Int32) + ((16 : Int32) * r16)) + r9).toNatClampNeg (1 : Int32)) (fun m25 => some m25))))))))))))))))
set_option maxHeartbeats 4000000 in
set_option maxRecDepth 100000 in
theorem cX12_readLand_ct (z : Zx) (ad : Nat → Nat) (v0 : Nat) (m m2 : Mem) (hf : fX12_readLand v0 m = some m2) : CtV z wM yX12_readLand cX12_readLand 3 none (Rm 6) ad 17 [.ref (ad v0)] m m2 := by
  refine ct_ofV mi_X12_readLand rfl (Nat.le_of_ble_eq_true rfl) (fun x X hret => ?_)
  refine g_lv [(0, .ref (ad v0))] [0] rfl ?_
  unfold fX12_readLand at hf
  refine g_aload_n (pc := 0) X dX12_readLand_0 rfl 0 rfl ?_
  refine g_iconst (v := (1 : Int32)) (pc := 1) X dX12_readLand_1 (by decide) ?_
  refine g_bipush (v := (12 : Int32)) (pc := 2) X dX12_readLand_2 (by decide) ?_
  obtain ⟨hk3, hf⟩ := gp_some hf
  obtain ⟨m2, hq1, hf⟩ := bnd_some hf
  refine g_callVV (pc := 4) (As := [.int (1 : Int32), .int (12 : Int32)]) (rest := []) X mi_X12_begins im_X12_begins se_X12_begins (KMlt hk3 (by decide)) hk3 clX12 ml_X12_169 (cX12_begins_ct z ad v0 (1 : Int32) (12 : Int32) m m2 hq1) rfl rfl (Nat.le_of_ble_eq_true rfl) ⟨rfl, rfl, by decide, by decide, Nat.le_refl _, Nat.le_refl _⟩ dX12_readLand_4 ?_
  refine g_aload_n (pc := 7) X dX12_readLand_7 rfl 0 rfl ?_
  refine g_iconst (v := (0 : Int32)) (pc := 8) X dX12_readLand_8 (by decide) ?_
  refine g_aload_n (pc := 9) X dX12_readLand_9 rfl 0 rfl ?_
  obtain ⟨q4, hr5, hf⟩ := bnd_some hf
  refine g_getR (pc := 10) X fl_X12_22 (KMlt hk3 (by decide)) hk3 hr5 dX12_readLand_10 ?_
  refine g_bipush (v := (6 : Int32)) (pc := 13) X dX12_readLand_13 (by decide) ?_
  obtain ⟨hk6, hf⟩ := gp_some hf
  obtain ⟨hi7, hf⟩ := gp_some hf
  refine g_iald (pc := 15) X (KMlt hk6 (by decide)) hk6 hi7 dX12_readLand_15 ?_
  refine g_iconst (v := (1 : Int32)) (pc := 16) X dX12_readLand_16 (by decide) ?_
  refine g_isub (pc := 17) X dX12_readLand_17 ?_
  obtain ⟨r9, m10, hq8, hf⟩ := bnd2_some hf
  refine g_callVI (pc := 18) (As := [.int (0 : Int32), .int ((m2.1 q4 (6 : Int32).toNatClampNeg) - (1 : Int32))]) (rest := []) X mi_X12_number im_X12_number se_X12_number (KMlt hk3 (by decide)) hk3 clX12 ml_X12_184 (cX12_number_ct z ad v0 (0 : Int32) ((m2.1 q4 (6 : Int32).toNatClampNeg) - (1 : Int32)) m2 m10 r9 hq8) rfl rfl (Nat.le_of_ble_eq_true rfl) ⟨rfl, rfl, by decide, by decide, Nat.le_refl _, Nat.le_refl _⟩ dX12_readLand_18 ?_
  refine g_istore_n (lv2 := [(0, .ref (ad v0)), (1, .int r9)]) (pc := 21) X dX12_readLand_21 rfl (by decide) [1, 0] rfl ?_
  refine g_aload_n (pc := 22) X dX12_readLand_22 rfl 0 rfl ?_
  refine g_iconst (v := (0 : Int32)) (pc := 23) X dX12_readLand_23 (by decide) ?_
  refine g_aload_n (pc := 24) X dX12_readLand_24 rfl 0 rfl ?_
  obtain ⟨q11, hr12, hf⟩ := bnd_some hf
  refine g_getR (pc := 25) X fl_X12_22 (KMlt hk3 (by decide)) hk3 hr12 dX12_readLand_25 ?_
  refine g_bipush (v := (7 : Int32)) (pc := 28) X dX12_readLand_28 (by decide) ?_
  obtain ⟨hk13, hf⟩ := gp_some hf
  obtain ⟨hi14, hf⟩ := gp_some hf
  refine g_iald (pc := 30) X (KMlt hk13 (by decide)) hk13 hi14 dX12_readLand_30 ?_
  refine g_iconst (v := (1 : Int32)) (pc := 31) X dX12_readLand_31 (by decide) ?_
  refine g_isub (pc := 32) X dX12_readLand_32 ?_
  obtain ⟨r16, m17, hq15, hf⟩ := bnd2_some hf
  refine g_callVI (pc := 33) (As := [.int (0 : Int32), .int ((m10.1 q11 (7 : Int32).toNatClampNeg) - (1 : Int32))]) (rest := []) X mi_X12_number im_X12_number se_X12_number (KMlt hk3 (by decide)) hk3 clX12 ml_X12_184 (cX12_number_ct z ad v0 (0 : Int32) ((m10.1 q11 (7 : Int32).toNatClampNeg) - (1 : Int32)) m10 m17 r16 hq15) rfl rfl (Nat.le_of_ble_eq_true rfl) ⟨rfl, rfl, by decide, by decide, Nat.le_refl _, Nat.le_refl _⟩ dX12_readLand_33 ?_
  refine g_istore_n (lv2 := [(0, .ref (ad v0)), (1, .int r9), (2, .int r16)]) (pc := 36) X dX12_readLand_36 rfl (by decide) [1, 2, 0] rfl ?_
  refine g_aload_n (pc := 37) X dX12_readLand_37 rfl 0 rfl ?_
  refine g_iconst (v := (1 : Int32)) (pc := 38) X dX12_readLand_38 (by decide) ?_
  obtain ⟨r19, m20, hq18, hf⟩ := bnd2_some hf
  refine g_callVI (pc := 39) (As := [.int (1 : Int32)]) (rest := []) X mi_X12_ends im_X12_ends se_X12_ends (KMlt hk3 (by decide)) hk3 clX12 ml_X12_188 (cX12_ends_ct z ad v0 (1 : Int32) m17 m20 r19 hq18) rfl rfl (Nat.le_of_ble_eq_true rfl) ⟨rfl, rfl, by decide, by decide, Nat.le_refl _, Nat.le_refl _⟩ dX12_readLand_39 ?_
  refine g_if_eq (pc := 42) (tgt := 60) X dX12_readLand_42 (by decide) (fun hc => ?_) (fun hc => ?_)
  · have hf := itp hc hf
    obtain rfl := Option.some.inj hf
    exact hret _ _ dX12_readLand_60
  · have hf := itn hc hf
    refine g_aload_n (pc := 45) X dX12_readLand_45 rfl 0 rfl ?_
    obtain ⟨q21, hr22, hf⟩ := bnd_some hf
    refine g_getR (pc := 46) X fl_X12_22 (KMlt hk3 (by decide)) hk3 hr22 dX12_readLand_46 ?_
    refine g_bipush (v := (78 : Int32)) (pc := 49) X dX12_readLand_49 (by decide) ?_
    refine g_bipush (v := (16 : Int32)) (pc := 51) X dX12_readLand_51 (by decide) ?_
    refine g_iload_n (pc := 53) X dX12_readLand_53 rfl 2 rfl ?_
    refine g_imul (pc := 54) X dX12_readLand_54 ?_
    refine g_iadd (pc := 55) X dX12_readLand_55 ?_
    refine g_iload_n (pc := 56) X dX12_readLand_56 rfl 1 rfl ?_
    refine g_iadd (pc := 57) X dX12_readLand_57 ?_
    refine g_iconst (v := (1 : Int32)) (pc := 58) X dX12_readLand_58 (by decide) ?_
    obtain ⟨hk23, hf⟩ := gp_some hf
    obtain ⟨hi24, hf⟩ := gp_some hf
    refine g_iast (pc := 59) X (KMlt hk23 (by decide)) hk23 hi24 dX12_readLand_59 ?_
    obtain ⟨m25, e26, hf⟩ := lt1_some hf
    refine g_mem e26 ?_
    obtain rfl := Option.some.inj hf
    exact hret _ _ dX12_readLand_60

noncomputable def fX12_readShip (v0 : Nat) (m : Mem) : Option Mem := gp (KM v0 = 12) (bnd (fX12_must v0 (1 : Int32) m) (fun m2 => bnd2 (fX12_number v0 (0 : Int32) (7 : Int32) m2) (fun r5 m6 => bnd2 (fX12_number v0 (0 : Int32) (20 : Int32) m6) (fun r8 m9 => bnd2 (fX12_number v0 (0 : Int32) (40 : Int32) m9) (fun r11 m12 => bnd2 (fX12_number v0 (1 : Int32) (200 : Int32) m12) (fun r14 m15 => bnd2 (fX12_ends v0 (2 : Int32) m15) (fun r17 m18 => if r17 = 0 then (some m18) else (bnd (m18.2.2 v0 6) (fun q19 => gp (KM q19 = 14) (gp (inb (8 : Int32) (NM q19) = true) (lt1 (uI m18 q19 (8 : Int32).toNatClampNeg r5) (fun m23 => bnd (m23.2.2 v0 6) (fun q25 => gp (KM q25 = 14) (gp (inb (9 : Int32) (NM q25) = true) (lt1 (uI m23 q25 (9 : Int32).toNatClampNeg r8) (fun m29 => bnd (m29.2.2 v0 6) (fun q31 => gp (KM q31 = 14) (gp (inb (10 : Int32) (NM q31) = true) (lt1 (uI m29 q31 (10 : Int32).toNatClampNeg r11) (fun m35 => bnd (m35.2.2 v0 6) (fun q37 => gp (KM q37 = 14) (gp (inb (11 : Int32) (NM q37) = true) (lt1 (uI m35 q37 (11 : Int32).toNatClampNeg r14) (fun m41 => some m41))))))))))))))))))))))))
set_option maxHeartbeats 4000000 in
set_option maxRecDepth 100000 in
theorem cX12_readShip_ct (z : Zx) (ad : Nat → Nat) (v0 : Nat) (m m2 : Mem) (hf : fX12_readShip v0 m = some m2) : CtV z wM yX12_readShip cX12_readShip 5 none (Rm 6) ad 17 [.ref (ad v0)] m m2 := by
  refine ct_ofV mi_X12_readShip rfl (Nat.le_of_ble_eq_true rfl) (fun x X hret => ?_)
  refine g_lv [(0, .ref (ad v0))] [0] rfl ?_
  unfold fX12_readShip at hf
  refine g_aload_n (pc := 0) X dX12_readShip_0 rfl 0 rfl ?_
  refine g_iconst (v := (1 : Int32)) (pc := 1) X dX12_readShip_1 (by decide) ?_
  obtain ⟨hk3, hf⟩ := gp_some hf
  obtain ⟨m2, hq1, hf⟩ := bnd_some hf
  refine g_callVV (pc := 2) (As := [.int (1 : Int32)]) (rest := []) X mi_X12_must im_X12_must se_X12_must (KMlt hk3 (by decide)) hk3 clX12 ml_X12_135 (cX12_must_ct z ad v0 (1 : Int32) m m2 hq1) rfl rfl (Nat.le_of_ble_eq_true rfl) ⟨rfl, rfl, by decide, by decide, Nat.le_refl _, Nat.le_refl _⟩ dX12_readShip_2 ?_
  refine g_aload_n (pc := 5) X dX12_readShip_5 rfl 0 rfl ?_
  refine g_iconst (v := (0 : Int32)) (pc := 6) X dX12_readShip_6 (by decide) ?_
  refine g_bipush (v := (7 : Int32)) (pc := 7) X dX12_readShip_7 (by decide) ?_
  obtain ⟨r5, m6, hq4, hf⟩ := bnd2_some hf
  refine g_callVI (pc := 9) (As := [.int (0 : Int32), .int (7 : Int32)]) (rest := []) X mi_X12_number im_X12_number se_X12_number (KMlt hk3 (by decide)) hk3 clX12 ml_X12_184 (cX12_number_ct z ad v0 (0 : Int32) (7 : Int32) m2 m6 r5 hq4) rfl rfl (Nat.le_of_ble_eq_true rfl) ⟨rfl, rfl, by decide, by decide, Nat.le_refl _, Nat.le_refl _⟩ dX12_readShip_9 ?_
  refine g_istore_n (lv2 := [(0, .ref (ad v0)), (1, .int r5)]) (pc := 12) X dX12_readShip_12 rfl (by decide) [1, 0] rfl ?_
  refine g_aload_n (pc := 13) X dX12_readShip_13 rfl 0 rfl ?_
  refine g_iconst (v := (0 : Int32)) (pc := 14) X dX12_readShip_14 (by decide) ?_
  refine g_bipush (v := (20 : Int32)) (pc := 15) X dX12_readShip_15 (by decide) ?_
  obtain ⟨r8, m9, hq7, hf⟩ := bnd2_some hf
  refine g_callVI (pc := 17) (As := [.int (0 : Int32), .int (20 : Int32)]) (rest := []) X mi_X12_number im_X12_number se_X12_number (KMlt hk3 (by decide)) hk3 clX12 ml_X12_184 (cX12_number_ct z ad v0 (0 : Int32) (20 : Int32) m6 m9 r8 hq7) rfl rfl (Nat.le_of_ble_eq_true rfl) ⟨rfl, rfl, by decide, by decide, Nat.le_refl _, Nat.le_refl _⟩ dX12_readShip_17 ?_
  refine g_istore_n (lv2 := [(0, .ref (ad v0)), (1, .int r5), (2, .int r8)]) (pc := 20) X dX12_readShip_20 rfl (by decide) [1, 2, 0] rfl ?_
  refine g_aload_n (pc := 21) X dX12_readShip_21 rfl 0 rfl ?_
  refine g_iconst (v := (0 : Int32)) (pc := 22) X dX12_readShip_22 (by decide) ?_
  refine g_bipush (v := (40 : Int32)) (pc := 23) X dX12_readShip_23 (by decide) ?_
  obtain ⟨r11, m12, hq10, hf⟩ := bnd2_some hf
  refine g_callVI (pc := 25) (As := [.int (0 : Int32), .int (40 : Int32)]) (rest := []) X mi_X12_number im_X12_number se_X12_number (KMlt hk3 (by decide)) hk3 clX12 ml_X12_184 (cX12_number_ct z ad v0 (0 : Int32) (40 : Int32) m9 m12 r11 hq10) rfl rfl (Nat.le_of_ble_eq_true rfl) ⟨rfl, rfl, by decide, by decide, Nat.le_refl _, Nat.le_refl _⟩ dX12_readShip_25 ?_
  refine g_istore_n (lv2 := [(0, .ref (ad v0)), (1, .int r5), (2, .int r8), (3, .int r11)]) (pc := 28) X dX12_readShip_28 rfl (by decide) [1, 2, 3, 0] rfl ?_
  refine g_aload_n (pc := 29) X dX12_readShip_29 rfl 0 rfl ?_
  refine g_iconst (v := (1 : Int32)) (pc := 30) X dX12_readShip_30 (by decide) ?_
  refine g_sipush (v := (200 : Int32)) (pc := 31) X dX12_readShip_31 (by decide) ?_
  obtain ⟨r14, m15, hq13, hf⟩ := bnd2_some hf
  refine g_callVI (pc := 34) (As := [.int (1 : Int32), .int (200 : Int32)]) (rest := []) X mi_X12_number im_X12_number se_X12_number (KMlt hk3 (by decide)) hk3 clX12 ml_X12_184 (cX12_number_ct z ad v0 (1 : Int32) (200 : Int32) m12 m15 r14 hq13) rfl rfl (Nat.le_of_ble_eq_true rfl) ⟨rfl, rfl, by decide, by decide, Nat.le_refl _, Nat.le_refl _⟩ dX12_readShip_34 ?_
  refine g_istore (lv2 := [(0, .ref (ad v0)), (1, .int r5), (2, .int r8), (3, .int r11), (4, .int r14)]) (pc := 37) X dX12_readShip_37 (by decide) [1, 2, 3, 4, 0] rfl ?_
  refine g_aload_n (pc := 39) X dX12_readShip_39 rfl 0 rfl ?_
  refine g_iconst (v := (2 : Int32)) (pc := 40) X dX12_readShip_40 (by decide) ?_
  obtain ⟨r17, m18, hq16, hf⟩ := bnd2_some hf
  refine g_callVI (pc := 41) (As := [.int (2 : Int32)]) (rest := []) X mi_X12_ends im_X12_ends se_X12_ends (KMlt hk3 (by decide)) hk3 clX12 ml_X12_188 (cX12_ends_ct z ad v0 (2 : Int32) m15 m18 r17 hq16) rfl rfl (Nat.le_of_ble_eq_true rfl) ⟨rfl, rfl, by decide, by decide, Nat.le_refl _, Nat.le_refl _⟩ dX12_readShip_41 ?_
  refine g_if_eq (pc := 44) (tgt := 80) X dX12_readShip_44 (by decide) (fun hc => ?_) (fun hc => ?_)
  · have hf := itp hc hf
    obtain rfl := Option.some.inj hf
    exact hret _ _ dX12_readShip_80
  · have hf := itn hc hf
    refine g_aload_n (pc := 47) X dX12_readShip_47 rfl 0 rfl ?_
    obtain ⟨q19, hr20, hf⟩ := bnd_some hf
    refine g_getR (pc := 48) X fl_X12_22 (KMlt hk3 (by decide)) hk3 hr20 dX12_readShip_48 ?_
    refine g_bipush (v := (8 : Int32)) (pc := 51) X dX12_readShip_51 (by decide) ?_
    refine g_iload_n (pc := 53) X dX12_readShip_53 rfl 1 rfl ?_
    obtain ⟨hk21, hf⟩ := gp_some hf
    obtain ⟨hi22, hf⟩ := gp_some hf
    refine g_iast (pc := 54) X (KMlt hk21 (by decide)) hk21 hi22 dX12_readShip_54 ?_
    obtain ⟨m23, e24, hf⟩ := lt1_some hf
    refine g_mem e24 ?_
    refine g_aload_n (pc := 55) X dX12_readShip_55 rfl 0 rfl ?_
    obtain ⟨q25, hr26, hf⟩ := bnd_some hf
    refine g_getR (pc := 56) X fl_X12_22 (KMlt hk3 (by decide)) hk3 hr26 dX12_readShip_56 ?_
    refine g_bipush (v := (9 : Int32)) (pc := 59) X dX12_readShip_59 (by decide) ?_
    refine g_iload_n (pc := 61) X dX12_readShip_61 rfl 2 rfl ?_
    obtain ⟨hk27, hf⟩ := gp_some hf
    obtain ⟨hi28, hf⟩ := gp_some hf
    refine g_iast (pc := 62) X (KMlt hk27 (by decide)) hk27 hi28 dX12_readShip_62 ?_
    obtain ⟨m29, e30, hf⟩ := lt1_some hf
    refine g_mem e30 ?_
    refine g_aload_n (pc := 63) X dX12_readShip_63 rfl 0 rfl ?_
    obtain ⟨q31, hr32, hf⟩ := bnd_some hf
    refine g_getR (pc := 64) X fl_X12_22 (KMlt hk3 (by decide)) hk3 hr32 dX12_readShip_64 ?_
    refine g_bipush (v := (10 : Int32)) (pc := 67) X dX12_readShip_67 (by decide) ?_
    refine g_iload_n (pc := 69) X dX12_readShip_69 rfl 3 rfl ?_
    obtain ⟨hk33, hf⟩ := gp_some hf
    obtain ⟨hi34, hf⟩ := gp_some hf
    refine g_iast (pc := 70) X (KMlt hk33 (by decide)) hk33 hi34 dX12_readShip_70 ?_
    obtain ⟨m35, e36, hf⟩ := lt1_some hf
    refine g_mem e36 ?_
    refine g_aload_n (pc := 71) X dX12_readShip_71 rfl 0 rfl ?_
    obtain ⟨q37, hr38, hf⟩ := bnd_some hf
    refine g_getR (pc := 72) X fl_X12_22 (KMlt hk3 (by decide)) hk3 hr38 dX12_readShip_72 ?_
    refine g_bipush (v := (11 : Int32)) (pc := 75) X dX12_readShip_75 (by decide) ?_
    refine g_iload (pc := 77) X dX12_readShip_77 4 rfl ?_
    obtain ⟨hk39, hf⟩ := gp_some hf
    obtain ⟨hi40, hf⟩ := gp_some hf
    refine g_iast (pc := 79) X (KMlt hk39 (by decide)) hk39 hi40 dX12_readShip_79 ?_
    obtain ⟨m41, e42, hf⟩ := lt1_some hf
    refine g_mem e42 ?_
    obtain rfl := Option.some.inj hf
    exact hret _ _ dX12_readShip_80

noncomputable def fX12_readMan (v0 : Nat) (m : Mem) : Option Mem := gp (KM v0 = 12) (bnd (fX12_begins v0 (3 : Int32) (10 : Int32) m) (fun m2 => bnd (m2.2.2 v0 6) (fun q4 => gp (KM q4 = 14) (gp (inb (3 : Int32) (NM q4) = true) (lt1 ((20 : Int32) + ((2 : Int32) * (m2.1 q4 (3 : Int32).toNatClampNeg))) (fun v1_8 => bnd2 (fX12_number v0 (1 : Int32) (200 : Int32) m2) (fun r11 m12 => bnd2 (fX12_number v0 (1 : Int32) (50 : Int32) m12) (fun r14 m15 => bnd2 (fX12_ends v0 (3 : Int32) m15) (fun r17 m18 => if r17 = 0 then (some m18) else (bnd (m18.2.2 v0 6) (fun q19 => gp (KM q19 = 14) (gp (inb v1_8 (NM q19) = true) (lt1 (uI m18 q19 v1_8.toNatClampNeg r11) (fun m23 => bnd (m23.2.2 v0 6) (fun q25 => gp (KM q25 = 14) (gp (inb (v1_8 + (1 : Int32)) (NM q25) = true) (lt1 (uI m23 q25 (v1_8 + (1 : Int32)).toNatClampNeg r14) (fun m29 => some m29))))))))))))))))))
set_option maxHeartbeats 4000000 in
set_option maxRecDepth 100000 in
theorem cX12_readMan_ct (z : Zx) (ad : Nat → Nat) (v0 : Nat) (m m2 : Mem) (hf : fX12_readMan v0 m = some m2) : CtV z wM yX12_readMan cX12_readMan 4 none (Rm 6) ad 17 [.ref (ad v0)] m m2 := by
  refine ct_ofV mi_X12_readMan rfl (Nat.le_of_ble_eq_true rfl) (fun x X hret => ?_)
  refine g_lv [(0, .ref (ad v0))] [0] rfl ?_
  unfold fX12_readMan at hf
  refine g_aload_n (pc := 0) X dX12_readMan_0 rfl 0 rfl ?_
  refine g_iconst (v := (3 : Int32)) (pc := 1) X dX12_readMan_1 (by decide) ?_
  refine g_bipush (v := (10 : Int32)) (pc := 2) X dX12_readMan_2 (by decide) ?_
  obtain ⟨hk3, hf⟩ := gp_some hf
  obtain ⟨m2, hq1, hf⟩ := bnd_some hf
  refine g_callVV (pc := 4) (As := [.int (3 : Int32), .int (10 : Int32)]) (rest := []) X mi_X12_begins im_X12_begins se_X12_begins (KMlt hk3 (by decide)) hk3 clX12 ml_X12_169 (cX12_begins_ct z ad v0 (3 : Int32) (10 : Int32) m m2 hq1) rfl rfl (Nat.le_of_ble_eq_true rfl) ⟨rfl, rfl, by decide, by decide, Nat.le_refl _, Nat.le_refl _⟩ dX12_readMan_4 ?_
  refine g_bipush (v := (20 : Int32)) (pc := 7) X dX12_readMan_7 (by decide) ?_
  refine g_iconst (v := (2 : Int32)) (pc := 9) X dX12_readMan_9 (by decide) ?_
  refine g_aload_n (pc := 10) X dX12_readMan_10 rfl 0 rfl ?_
  obtain ⟨q4, hr5, hf⟩ := bnd_some hf
  refine g_getR (pc := 11) X fl_X12_22 (KMlt hk3 (by decide)) hk3 hr5 dX12_readMan_11 ?_
  refine g_iconst (v := (3 : Int32)) (pc := 14) X dX12_readMan_14 (by decide) ?_
  obtain ⟨hk6, hf⟩ := gp_some hf
  obtain ⟨hi7, hf⟩ := gp_some hf
  refine g_iald (pc := 15) X (KMlt hk6 (by decide)) hk6 hi7 dX12_readMan_15 ?_
  refine g_imul (pc := 16) X dX12_readMan_16 ?_
  refine g_iadd (pc := 17) X dX12_readMan_17 ?_
  obtain ⟨v1_8, e9, hf⟩ := lt1_some hf
  refine g_topi e9 ?_
  refine g_istore_n (lv2 := [(0, .ref (ad v0)), (1, .int v1_8)]) (pc := 18) X dX12_readMan_18 rfl (by decide) [1, 0] rfl ?_
  refine g_aload_n (pc := 19) X dX12_readMan_19 rfl 0 rfl ?_
  refine g_iconst (v := (1 : Int32)) (pc := 20) X dX12_readMan_20 (by decide) ?_
  refine g_sipush (v := (200 : Int32)) (pc := 21) X dX12_readMan_21 (by decide) ?_
  obtain ⟨r11, m12, hq10, hf⟩ := bnd2_some hf
  refine g_callVI (pc := 24) (As := [.int (1 : Int32), .int (200 : Int32)]) (rest := []) X mi_X12_number im_X12_number se_X12_number (KMlt hk3 (by decide)) hk3 clX12 ml_X12_184 (cX12_number_ct z ad v0 (1 : Int32) (200 : Int32) m2 m12 r11 hq10) rfl rfl (Nat.le_of_ble_eq_true rfl) ⟨rfl, rfl, by decide, by decide, Nat.le_refl _, Nat.le_refl _⟩ dX12_readMan_24 ?_
  refine g_istore_n (lv2 := [(0, .ref (ad v0)), (1, .int v1_8), (2, .int r11)]) (pc := 27) X dX12_readMan_27 rfl (by decide) [1, 2, 0] rfl ?_
  refine g_aload_n (pc := 28) X dX12_readMan_28 rfl 0 rfl ?_
  refine g_iconst (v := (1 : Int32)) (pc := 29) X dX12_readMan_29 (by decide) ?_
  refine g_bipush (v := (50 : Int32)) (pc := 30) X dX12_readMan_30 (by decide) ?_
  obtain ⟨r14, m15, hq13, hf⟩ := bnd2_some hf
  refine g_callVI (pc := 32) (As := [.int (1 : Int32), .int (50 : Int32)]) (rest := []) X mi_X12_number im_X12_number se_X12_number (KMlt hk3 (by decide)) hk3 clX12 ml_X12_184 (cX12_number_ct z ad v0 (1 : Int32) (50 : Int32) m12 m15 r14 hq13) rfl rfl (Nat.le_of_ble_eq_true rfl) ⟨rfl, rfl, by decide, by decide, Nat.le_refl _, Nat.le_refl _⟩ dX12_readMan_32 ?_
  refine g_istore_n (lv2 := [(0, .ref (ad v0)), (1, .int v1_8), (2, .int r11), (3, .int r14)]) (pc := 35) X dX12_readMan_35 rfl (by decide) [1, 2, 3, 0] rfl ?_
  refine g_aload_n (pc := 36) X dX12_readMan_36 rfl 0 rfl ?_
  refine g_iconst (v := (3 : Int32)) (pc := 37) X dX12_readMan_37 (by decide) ?_
  obtain ⟨r17, m18, hq16, hf⟩ := bnd2_some hf
  refine g_callVI (pc := 38) (As := [.int (3 : Int32)]) (rest := []) X mi_X12_ends im_X12_ends se_X12_ends (KMlt hk3 (by decide)) hk3 clX12 ml_X12_188 (cX12_ends_ct z ad v0 (3 : Int32) m15 m18 r17 hq16) rfl rfl (Nat.le_of_ble_eq_true rfl) ⟨rfl, rfl, by decide, by decide, Nat.le_refl _, Nat.le_refl _⟩ dX12_readMan_38 ?_
  refine g_if_eq (pc := 41) (tgt := 60) X dX12_readMan_41 (by decide) (fun hc => ?_) (fun hc => ?_)
  · have hf := itp hc hf
    obtain rfl := Option.some.inj hf
    exact hret _ _ dX12_readMan_60
  · have hf := itn hc hf
    refine g_aload_n (pc := 44) X dX12_readMan_44 rfl 0 rfl ?_
    obtain ⟨q19, hr20, hf⟩ := bnd_some hf
    refine g_getR (pc := 45) X fl_X12_22 (KMlt hk3 (by decide)) hk3 hr20 dX12_readMan_45 ?_
    refine g_iload_n (pc := 48) X dX12_readMan_48 rfl 1 rfl ?_
    refine g_iload_n (pc := 49) X dX12_readMan_49 rfl 2 rfl ?_
    obtain ⟨hk21, hf⟩ := gp_some hf
    obtain ⟨hi22, hf⟩ := gp_some hf
    refine g_iast (pc := 50) X (KMlt hk21 (by decide)) hk21 hi22 dX12_readMan_50 ?_
    obtain ⟨m23, e24, hf⟩ := lt1_some hf
    refine g_mem e24 ?_
    refine g_aload_n (pc := 51) X dX12_readMan_51 rfl 0 rfl ?_
    obtain ⟨q25, hr26, hf⟩ := bnd_some hf
    refine g_getR (pc := 52) X fl_X12_22 (KMlt hk3 (by decide)) hk3 hr26 dX12_readMan_52 ?_
    refine g_iload_n (pc := 55) X dX12_readMan_55 rfl 1 rfl ?_
    refine g_iconst (v := (1 : Int32)) (pc := 56) X dX12_readMan_56 (by decide) ?_
    refine g_iadd (pc := 57) X dX12_readMan_57 ?_
    refine g_iload_n (pc := 58) X dX12_readMan_58 rfl 3 rfl ?_
    obtain ⟨hk27, hf⟩ := gp_some hf
    obtain ⟨hi28, hf⟩ := gp_some hf
    refine g_iast (pc := 59) X (KMlt hk27 (by decide)) hk27 hi28 dX12_readMan_59 ?_
    obtain ⟨m29, e30, hf⟩ := lt1_some hf
    refine g_mem e30 ?_
    obtain rfl := Option.some.inj hf
    exact hret _ _ dX12_readMan_60

noncomputable def fX12_readSign (v0 : Nat) (m : Mem) : Option Mem := gp (KM v0 = 12) (bnd (fX12_begins v0 (4 : Int32) (10 : Int32) m) (fun m2 => bnd (m2.2.2 v0 6) (fun q4 => gp (KM q4 = 14) (gp (inb (4 : Int32) (NM q4) = true) (lt1 ((40 : Int32) + ((2 : Int32) * (m2.1 q4 (4 : Int32).toNatClampNeg))) (fun v1_8 => bnd (fX12_word v0 m2) (fun r11 => bnd (fX12_whatOf r11) (fun r13 => bnd2 (fX12_named v0 r13 m2) (fun r15 m16 => bnd2 (fX12_number v0 (0 : Int32) (9 : Int32) m16) (fun r18 m19 => bnd2 (fX12_ends v0 (4 : Int32) m19) (fun r21 m22 => if r21 = 0 then (some m22) else (bnd (m22.2.2 v0 6) (fun q23 => gp (KM q23 = 14) (gp (inb v1_8 (NM q23) = true) (lt1 (uI m22 q23 v1_8.toNatClampNeg r15) (fun m27 => bnd (m27.2.2 v0 6) (fun q29 => gp (KM q29 = 14) (gp (inb (v1_8 + (1 : Int32)) (NM q29) = true) (lt1 (uI m27 q29 (v1_8 + (1 : Int32)).toNatClampNeg r18) (fun m33 => some m33))))))))))))))))))))
set_option maxHeartbeats 4000000 in
set_option maxRecDepth 100000 in
theorem cX12_readSign_ct (z : Zx) (ad : Nat → Nat) (v0 : Nat) (m m2 : Mem) (hf : fX12_readSign v0 m = some m2) : CtV z wM yX12_readSign cX12_readSign 4 none (Rm 6) ad 17 [.ref (ad v0)] m m2 := by
  refine ct_ofV mi_X12_readSign rfl (Nat.le_of_ble_eq_true rfl) (fun x X hret => ?_)
  refine g_lv [(0, .ref (ad v0))] [0] rfl ?_
  unfold fX12_readSign at hf
  refine g_aload_n (pc := 0) X dX12_readSign_0 rfl 0 rfl ?_
  refine g_iconst (v := (4 : Int32)) (pc := 1) X dX12_readSign_1 (by decide) ?_
  refine g_bipush (v := (10 : Int32)) (pc := 2) X dX12_readSign_2 (by decide) ?_
  obtain ⟨hk3, hf⟩ := gp_some hf
  obtain ⟨m2, hq1, hf⟩ := bnd_some hf
  refine g_callVV (pc := 4) (As := [.int (4 : Int32), .int (10 : Int32)]) (rest := []) X mi_X12_begins im_X12_begins se_X12_begins (KMlt hk3 (by decide)) hk3 clX12 ml_X12_169 (cX12_begins_ct z ad v0 (4 : Int32) (10 : Int32) m m2 hq1) rfl rfl (Nat.le_of_ble_eq_true rfl) ⟨rfl, rfl, by decide, by decide, Nat.le_refl _, Nat.le_refl _⟩ dX12_readSign_4 ?_
  refine g_bipush (v := (40 : Int32)) (pc := 7) X dX12_readSign_7 (by decide) ?_
  refine g_iconst (v := (2 : Int32)) (pc := 9) X dX12_readSign_9 (by decide) ?_
  refine g_aload_n (pc := 10) X dX12_readSign_10 rfl 0 rfl ?_
  obtain ⟨q4, hr5, hf⟩ := bnd_some hf
  refine g_getR (pc := 11) X fl_X12_22 (KMlt hk3 (by decide)) hk3 hr5 dX12_readSign_11 ?_
  refine g_iconst (v := (4 : Int32)) (pc := 14) X dX12_readSign_14 (by decide) ?_
  obtain ⟨hk6, hf⟩ := gp_some hf
  obtain ⟨hi7, hf⟩ := gp_some hf
  refine g_iald (pc := 15) X (KMlt hk6 (by decide)) hk6 hi7 dX12_readSign_15 ?_
  refine g_imul (pc := 16) X dX12_readSign_16 ?_
  refine g_iadd (pc := 17) X dX12_readSign_17 ?_
  obtain ⟨v1_8, e9, hf⟩ := lt1_some hf
  refine g_topi e9 ?_
  refine g_istore_n (lv2 := [(0, .ref (ad v0)), (1, .int v1_8)]) (pc := 18) X dX12_readSign_18 rfl (by decide) [1, 0] rfl ?_
  refine g_aload_n (pc := 19) X dX12_readSign_19 rfl 0 rfl ?_
  refine g_aload_n (pc := 20) X dX12_readSign_20 rfl 0 rfl ?_
  obtain ⟨r11, hq10, hf⟩ := bnd_some hf
  refine g_callVL (pc := 21) (As := []) (rest := [.ref (ad v0)]) X mi_X12_word im_X12_word se_X12_word (KMlt hk3 (by decide)) hk3 clX12 ml_X12_173 (cX12_word_ct z ad v0 m2 r11 hq10) rfl rfl (Nat.le_of_ble_eq_true rfl) ⟨rfl, rfl, by decide, by decide, Nat.le_refl _, Nat.le_refl _⟩ dX12_readSign_21 ?_
  obtain ⟨r13, hq12, hf⟩ := bnd_some hf
  refine g_callSI (pc := 24) (As := [.long r11]) (rest := [.ref (ad v0)]) X mi_X12_whatOf sm_X12_whatOf ml_X12_191 (cX12_whatOf_ct z ad r11 m2 r13 hq12) rfl rfl (Nat.le_of_ble_eq_true rfl) ⟨rfl, rfl, by decide, by decide, Nat.le_refl _, Nat.le_refl _⟩ dX12_readSign_24 ?_
  obtain ⟨r15, m16, hq14, hf⟩ := bnd2_some hf
  refine g_callVI (pc := 27) (As := [.int r13]) (rest := []) X mi_X12_named im_X12_named se_X12_named (KMlt hk3 (by decide)) hk3 clX12 ml_X12_181 (cX12_named_ct z ad v0 r13 m2 m16 r15 hq14) rfl rfl (Nat.le_of_ble_eq_true rfl) ⟨rfl, rfl, by decide, by decide, Nat.le_refl _, Nat.le_refl _⟩ dX12_readSign_27 ?_
  refine g_istore_n (lv2 := [(0, .ref (ad v0)), (1, .int v1_8), (2, .int r15)]) (pc := 30) X dX12_readSign_30 rfl (by decide) [1, 2, 0] rfl ?_
  refine g_aload_n (pc := 31) X dX12_readSign_31 rfl 0 rfl ?_
  refine g_iconst (v := (0 : Int32)) (pc := 32) X dX12_readSign_32 (by decide) ?_
  refine g_bipush (v := (9 : Int32)) (pc := 33) X dX12_readSign_33 (by decide) ?_
  obtain ⟨r18, m19, hq17, hf⟩ := bnd2_some hf
  refine g_callVI (pc := 35) (As := [.int (0 : Int32), .int (9 : Int32)]) (rest := []) X mi_X12_number im_X12_number se_X12_number (KMlt hk3 (by decide)) hk3 clX12 ml_X12_184 (cX12_number_ct z ad v0 (0 : Int32) (9 : Int32) m16 m19 r18 hq17) rfl rfl (Nat.le_of_ble_eq_true rfl) ⟨rfl, rfl, by decide, by decide, Nat.le_refl _, Nat.le_refl _⟩ dX12_readSign_35 ?_
  refine g_istore_n (lv2 := [(0, .ref (ad v0)), (1, .int v1_8), (2, .int r15), (3, .int r18)]) (pc := 38) X dX12_readSign_38 rfl (by decide) [1, 2, 3, 0] rfl ?_
  refine g_aload_n (pc := 39) X dX12_readSign_39 rfl 0 rfl ?_
  refine g_iconst (v := (4 : Int32)) (pc := 40) X dX12_readSign_40 (by decide) ?_
  obtain ⟨r21, m22, hq20, hf⟩ := bnd2_some hf
  refine g_callVI (pc := 41) (As := [.int (4 : Int32)]) (rest := []) X mi_X12_ends im_X12_ends se_X12_ends (KMlt hk3 (by decide)) hk3 clX12 ml_X12_188 (cX12_ends_ct z ad v0 (4 : Int32) m19 m22 r21 hq20) rfl rfl (Nat.le_of_ble_eq_true rfl) ⟨rfl, rfl, by decide, by decide, Nat.le_refl _, Nat.le_refl _⟩ dX12_readSign_41 ?_
  refine g_if_eq (pc := 44) (tgt := 63) X dX12_readSign_44 (by decide) (fun hc => ?_) (fun hc => ?_)
  · have hf := itp hc hf
    obtain rfl := Option.some.inj hf
    exact hret _ _ dX12_readSign_63
  · have hf := itn hc hf
    refine g_aload_n (pc := 47) X dX12_readSign_47 rfl 0 rfl ?_
    obtain ⟨q23, hr24, hf⟩ := bnd_some hf
    refine g_getR (pc := 48) X fl_X12_22 (KMlt hk3 (by decide)) hk3 hr24 dX12_readSign_48 ?_
    refine g_iload_n (pc := 51) X dX12_readSign_51 rfl 1 rfl ?_
    refine g_iload_n (pc := 52) X dX12_readSign_52 rfl 2 rfl ?_
    obtain ⟨hk25, hf⟩ := gp_some hf
    obtain ⟨hi26, hf⟩ := gp_some hf
    refine g_iast (pc := 53) X (KMlt hk25 (by decide)) hk25 hi26 dX12_readSign_53 ?_
    obtain ⟨m27, e28, hf⟩ := lt1_some hf
    refine g_mem e28 ?_
    refine g_aload_n (pc := 54) X dX12_readSign_54 rfl 0 rfl ?_
    obtain ⟨q29, hr30, hf⟩ := bnd_some hf
    refine g_getR (pc := 55) X fl_X12_22 (KMlt hk3 (by decide)) hk3 hr30 dX12_readSign_55 ?_
    refine g_iload_n (pc := 58) X dX12_readSign_58 rfl 1 rfl ?_
    refine g_iconst (v := (1 : Int32)) (pc := 59) X dX12_readSign_59 (by decide) ?_
    refine g_iadd (pc := 60) X dX12_readSign_60 ?_
    refine g_iload_n (pc := 61) X dX12_readSign_61 rfl 3 rfl ?_
    obtain ⟨hk31, hf⟩ := gp_some hf
    obtain ⟨hi32, hf⟩ := gp_some hf
    refine g_iast (pc := 62) X (KMlt hk31 (by decide)) hk31 hi32 dX12_readSign_62 ?_
    obtain ⟨m33, e34, hf⟩ := lt1_some hf
    refine g_mem e34 ?_
    obtain rfl := Option.some.inj hf
    exact hret _ _ dX12_readSign_63

noncomputable def fX12_readStory_138 (v0 : Nat) (v1 : Int32) (v2 : Int32) (v3 : Int32) (v4 : Int32) (m : Mem) : Option Mem := gp (KM v0 = 12) (bnd2 (fX12_ends v0 (5 : Int32) m) (fun r2 m3 => if r2 = 0 then (some m3) else (bnd (m3.2.2 v0 6) (fun q5 => gp (KM q5 = 14) (gp (inb v1 (NM q5) = true) (lt1 (uI m3 q5 v1.toNatClampNeg v2) (fun m9 => bnd (m9.2.2 v0 6) (fun q11 => gp (KM q11 = 14) (gp (inb (v1 + (1 : Int32)) (NM q11) = true) (lt1 (uI m9 q11 (v1 + (1 : Int32)).toNatClampNeg v3) (fun m15 => bnd (m15.2.2 v0 6) (fun q17 => gp (KM q17 = 14) (gp (inb (v1 + (2 : Int32)) (NM q17) = true) (lt1 (uI m15 q17 (v1 + (2 : Int32)).toNatClampNeg v4) (fun m21 => some m21)))))))))))))))
noncomputable def fX12_readStory_133 (v0 : Nat) (v1 : Int32) (v2 : Int32) (v3 : Int32) (s0 : Int32) (m : Mem) : Option ((Int32 × Int32 × Mem) ⊕ (Int32 × Int32 × Mem)) := some (.inl (v3, s0, m))
noncomputable def fX12_readStory_112 (v0 : Nat) (v1 : Int32) (v2 : Int32) (v4 : Int32) (v5 : Int32) (v6 : Int32) (s0 : Int32) (m : Mem) : Option ((Int32 × Int32 × Mem) ⊕ (Int32 × Int32 × Mem)) := if v5 = 0 then (fX12_readStory_133 v0 v1 v2 s0 (v4 ||| v6) m) else (fX12_readStory_133 v0 v1 v2 s0 (v4 &&& (v6 ^^^ (-1 : Int32))) m)
noncomputable def fX12_readStory_70 (v0 : Nat) (v1 : Int32) (v2 : Int32) (v3 : Int32) (v4 : Int32) (s0 : Int32) (m : Mem) : Option ((Int32 × Int32 × Mem) ⊕ (Int32 × Int32 × Mem)) := gp (KM v0 = 12) (bnd (fX12_must v0 (1 : Int32) m) (fun m24 => bnd (m24.2.2 v0 6) (fun q26 => gp (KM q26 = 14) (gp (inb (4 : Int32) (NM q26) = true) (bnd2 (fX12_number v0 (0 : Int32) ((m24.1 q26 (4 : Int32).toNatClampNeg) - (1 : Int32)) m24) (fun r31 m32 => lt1 ((1 : Int32) <<< (r31 &&& 31)) (fun v6_33 => if s0 = 0 then (fX12_readStory_112 v0 v1 v2 v4 s0 v6_33 (v3 &&& (v6_33 ^^^ (-1 : Int32))) m32) else (fX12_readStory_112 v0 v1 v2 v4 s0 v6_33 (v3 ||| v6_33) m32))))))))
noncomputable def fX12_readStory_54 (v0 : Nat) (v1 : Int32) (v2 : Int32) (v3 : Int32) (v4 : Int32) (m : Mem) : Option ((Int32 × Int32 × Mem) ⊕ (Int32 × Int32 × Mem)) := gp (KM v0 = 12) (bnd (fX12_word v0 m) (fun r36 => if r36 = (119182682645875 : Int64) then (fX12_readStory_70 v0 v1 v2 v3 v4 (1 : Int32) m) else (fX12_readStory_70 v0 v1 v2 v3 v4 (0 : Int32) m)))
noncomputable def fX12_readStory_32b (v0 : Nat) (v1 : Int32) (v2 : Int32) (v3 : Int32) (v4 : Int32) (m : Mem) : Option ((Int32 × Int32 × Mem) ⊕ (Int32 × Int32 × Mem)) := gp (KM v0 = 12) (bnd (fX12_word v0 m) (fun r39 => if r39 = (119182682645875 : Int64) then (fX12_readStory_54 v0 v1 v2 v3 v4 m) else (bnd (fX12_word v0 m) (fun r42 => if r42 = (1650553459 : Int64) then (fX12_readStory_54 v0 v1 v2 v3 v4 m) else (some (.inr (v3, v4, m)))))))
noncomputable def fX12_readStory_32 (v0 : Nat) (v1 : Int32) (v2 : Int32) (v3 : Int32) (v4 : Int32) (m : Mem) : Option Mem := bnd (iter (fun s => fX12_readStory_32b v0 v1 v2 s.1 s.2.1 s.2.2) FU (v3, v4, m)) (fun e => fX12_readStory_138 v0 v1 v2 e.1 e.2.1 e.2.2)
noncomputable def fX12_readStory (v0 : Nat) (m : Mem) : Option Mem := gp (KM v0 = 12) (bnd (fX12_begins v0 (5 : Int32) (6 : Int32) m) (fun m44 => bnd (m44.2.2 v0 6) (fun q46 => gp (KM q46 = 14) (gp (inb (5 : Int32) (NM q46) = true) (lt1 ((60 : Int32) + ((3 : Int32) * (m44.1 q46 (5 : Int32).toNatClampNeg))) (fun v1_50 => bnd2 (fX12_number v0 (1 : Int32) (9 : Int32) m44) (fun r53 m54 => lt1 ((0 : Int32)) (fun v3_55 => lt1 ((0 : Int32)) (fun v4_57 => fX12_readStory_32 v0 v1_50 r53 v3_55 v4_57 m54)))))))))
set_option maxHeartbeats 4000000 in
set_option maxRecDepth 100000 in
theorem cX12_readStory_ct (z : Zx) (ad : Nat → Nat) (v0 : Nat) (m m2 : Mem) (hf : fX12_readStory v0 m = some m2) : CtV z wM yX12_readStory cX12_readStory 7 none (Rm 6) ad 17 [.ref (ad v0)] m m2 := by
  refine ct_ofV mi_X12_readStory rfl (Nat.le_of_ble_eq_true rfl) (fun x X hret => ?_)
  refine g_lv [(0, .ref (ad v0))] [0] rfl ?_
  have hL138 : ∀ (v0 : Nat) (v1 : Int32) (v2 : Int32) (v3 : Int32) (v4 : Int32) (m : Mem), fX12_readStory_138 v0 v1 v2 v3 v4 m = some m2 → G z wM x 7 0 0 ad 17 m 138 [(0, .ref (ad v0)), (1, .int v1), (2, .int v2), (3, .int v3), (4, .int v4)] [] := by
    intro v0 v1 v2 v3 v4 m hf
    unfold fX12_readStory_138 at hf
    refine g_aload_n (pc := 138) X dX12_readStory_138 rfl 0 rfl ?_
    refine g_iconst (v := (5 : Int32)) (pc := 139) X dX12_readStory_139 (by decide) ?_
    obtain ⟨hk4, hf⟩ := gp_some hf
    obtain ⟨r2, m3, hq1, hf⟩ := bnd2_some hf
    refine g_callVI (pc := 140) (As := [.int (5 : Int32)]) (rest := []) X mi_X12_ends im_X12_ends se_X12_ends (KMlt hk4 (by decide)) hk4 clX12 ml_X12_188 (cX12_ends_ct z ad v0 (5 : Int32) m m3 r2 hq1) rfl rfl (Nat.le_of_ble_eq_true rfl) ⟨rfl, rfl, by decide, by decide, Nat.le_refl _, Nat.le_refl _⟩ dX12_readStory_140 ?_
    refine g_if_eq (pc := 143) (tgt := 172) X dX12_readStory_143 (by decide) (fun hc => ?_) (fun hc => ?_)
    · have hf := itp hc hf
      obtain rfl := Option.some.inj hf
      exact hret _ _ dX12_readStory_172
    · have hf := itn hc hf
      refine g_aload_n (pc := 146) X dX12_readStory_146 rfl 0 rfl ?_
      obtain ⟨q5, hr6, hf⟩ := bnd_some hf
      refine g_getR (pc := 147) X fl_X12_22 (KMlt hk4 (by decide)) hk4 hr6 dX12_readStory_147 ?_
      refine g_iload_n (pc := 150) X dX12_readStory_150 rfl 1 rfl ?_
      refine g_iload_n (pc := 151) X dX12_readStory_151 rfl 2 rfl ?_
      obtain ⟨hk7, hf⟩ := gp_some hf
      obtain ⟨hi8, hf⟩ := gp_some hf
      refine g_iast (pc := 152) X (KMlt hk7 (by decide)) hk7 hi8 dX12_readStory_152 ?_
      obtain ⟨m9, e10, hf⟩ := lt1_some hf
      refine g_mem e10 ?_
      refine g_aload_n (pc := 153) X dX12_readStory_153 rfl 0 rfl ?_
      obtain ⟨q11, hr12, hf⟩ := bnd_some hf
      refine g_getR (pc := 154) X fl_X12_22 (KMlt hk4 (by decide)) hk4 hr12 dX12_readStory_154 ?_
      refine g_iload_n (pc := 157) X dX12_readStory_157 rfl 1 rfl ?_
      refine g_iconst (v := (1 : Int32)) (pc := 158) X dX12_readStory_158 (by decide) ?_
      refine g_iadd (pc := 159) X dX12_readStory_159 ?_
      refine g_iload_n (pc := 160) X dX12_readStory_160 rfl 3 rfl ?_
      obtain ⟨hk13, hf⟩ := gp_some hf
      obtain ⟨hi14, hf⟩ := gp_some hf
      refine g_iast (pc := 161) X (KMlt hk13 (by decide)) hk13 hi14 dX12_readStory_161 ?_
      obtain ⟨m15, e16, hf⟩ := lt1_some hf
      refine g_mem e16 ?_
      refine g_aload_n (pc := 162) X dX12_readStory_162 rfl 0 rfl ?_
      obtain ⟨q17, hr18, hf⟩ := bnd_some hf
      refine g_getR (pc := 163) X fl_X12_22 (KMlt hk4 (by decide)) hk4 hr18 dX12_readStory_163 ?_
      refine g_iload_n (pc := 166) X dX12_readStory_166 rfl 1 rfl ?_
      refine g_iconst (v := (2 : Int32)) (pc := 167) X dX12_readStory_167 (by decide) ?_
      refine g_iadd (pc := 168) X dX12_readStory_168 ?_
      refine g_iload (pc := 169) X dX12_readStory_169 4 rfl ?_
      obtain ⟨hk19, hf⟩ := gp_some hf
      obtain ⟨hi20, hf⟩ := gp_some hf
      refine g_iast (pc := 171) X (KMlt hk19 (by decide)) hk19 hi20 dX12_readStory_171 ?_
      obtain ⟨m21, e22, hf⟩ := lt1_some hf
      refine g_mem e22 ?_
      obtain rfl := Option.some.inj hf
      exact hret _ _ dX12_readStory_172
  have hL32 : ∀ (v0 : Nat) (v1 : Int32) (v2 : Int32) (v3 : Int32) (v4 : Int32) (m : Mem), fX12_readStory_32 v0 v1 v2 v3 v4 m = some m2 → G z wM x 7 0 0 ad 17 m 32 [(0, .ref (ad v0)), (1, .int v1), (2, .int v2), (3, .int v3), (4, .int v4)] [] := by
    intro v0 v1 v2 v3 v4 m hf
    unfold fX12_readStory_32 at hf
    obtain ⟨e32, hit32, hrest32⟩ := bnd_some hf
    refine iter_ok (Hd := fun (s : (Int32 × Int32 × Mem)) => G z wM x 7 0 0 ad 17 s.2.2 32 [(0, .ref (ad v0)), (1, .int v1), (2, .int v2), (3, .int s.1), (4, .int s.2.1)] []) ?_ FU (v3, v4, m) hit32
    intro s ob32 hf hs32 he32
    obtain ⟨v3, v4, m⟩ := s
    have hf : fX12_readStory_32b v0 v1 v2 v3 v4 m = some ob32 := hf
    have hL133 : ∀ (v3 : Int32) (s0 : Int32) (m : Mem), fX12_readStory_133 v0 v1 v2 v3 s0 m = some ob32 → G z wM x 7 0 0 ad 17 m 133 [(0, .ref (ad v0)), (1, .int v1), (2, .int v2), (3, .int v3)] [.int s0] := by
      intro v3 s0 m hf
      unfold fX12_readStory_133 at hf
      refine g_istore (lv2 := [(0, .ref (ad v0)), (1, .int v1), (2, .int v2), (3, .int v3), (4, .int s0)]) (pc := 133) X dX12_readStory_133 (by decide) [1, 2, 3, 4, 0] rfl ?_
      refine g_goto (pc := 135) (tgt := 32) X dX12_readStory_135 (by decide) ?_
      exact hs32 (v3, s0, m) (Option.some.inj hf).symm
    have hL112 : ∀ (v4 : Int32) (v5 : Int32) (v6 : Int32) (s0 : Int32) (m : Mem), fX12_readStory_112 v0 v1 v2 v4 v5 v6 s0 m = some ob32 → G z wM x 7 0 0 ad 17 m 112 [(0, .ref (ad v0)), (1, .int v1), (2, .int v2), (4, .int v4), (5, .int v5), (6, .int v6)] [.int s0] := by
      intro v4 v5 v6 s0 m hf
      unfold fX12_readStory_112 at hf
      refine g_istore_n (lv2 := [(0, .ref (ad v0)), (1, .int v1), (2, .int v2), (3, .int s0), (4, .int v4), (5, .int v5), (6, .int v6)]) (pc := 112) X dX12_readStory_112 rfl (by decide) [1, 2, 3, 0, 4, 5, 6] rfl ?_
      refine g_iload (pc := 113) X dX12_readStory_113 5 rfl ?_
      refine g_if_eq (pc := 115) (tgt := 128) X dX12_readStory_115 (by decide) (fun hc => ?_) (fun hc => ?_)
      · have hf := itp hc hf
        refine g_iload (pc := 128) X dX12_readStory_128 4 rfl ?_
        refine g_iload (pc := 130) X dX12_readStory_130 6 rfl ?_
        refine g_ior (pc := 132) X dX12_readStory_132 ?_
        refine g_lv [(0, .ref (ad v0)), (1, .int v1), (2, .int v2), (3, .int s0)] [0, 1, 2, 3] rfl ?_
        exact hL133 _ _ _ hf
      · have hf := itn hc hf
        refine g_iload (pc := 118) X dX12_readStory_118 4 rfl ?_
        refine g_iload (pc := 120) X dX12_readStory_120 6 rfl ?_
        refine g_iconst (v := (-1 : Int32)) (pc := 122) X dX12_readStory_122 (by decide) ?_
        refine g_ixor (pc := 123) X dX12_readStory_123 ?_
        refine g_iand (pc := 124) X dX12_readStory_124 ?_
        refine g_goto (pc := 125) (tgt := 133) X dX12_readStory_125 (by decide) ?_
        refine g_lv [(0, .ref (ad v0)), (1, .int v1), (2, .int v2), (3, .int s0)] [0, 1, 2, 3] rfl ?_
        exact hL133 _ _ _ hf
    have hL70 : ∀ (v3 : Int32) (v4 : Int32) (s0 : Int32) (m : Mem), fX12_readStory_70 v0 v1 v2 v3 v4 s0 m = some ob32 → G z wM x 7 0 0 ad 17 m 70 [(0, .ref (ad v0)), (1, .int v1), (2, .int v2), (3, .int v3), (4, .int v4)] [.int s0] := by
      intro v3 v4 s0 m hf
      unfold fX12_readStory_70 at hf
      refine g_istore (lv2 := [(0, .ref (ad v0)), (1, .int v1), (2, .int v2), (3, .int v3), (4, .int v4), (5, .int s0)]) (pc := 70) X dX12_readStory_70 (by decide) [1, 2, 3, 4, 5, 0] rfl ?_
      refine g_aload_n (pc := 72) X dX12_readStory_72 rfl 0 rfl ?_
      refine g_iconst (v := (1 : Int32)) (pc := 73) X dX12_readStory_73 (by decide) ?_
      obtain ⟨hk25, hf⟩ := gp_some hf
      obtain ⟨m24, hq23, hf⟩ := bnd_some hf
      refine g_callVV (pc := 74) (As := [.int (1 : Int32)]) (rest := []) X mi_X12_must im_X12_must se_X12_must (KMlt hk25 (by decide)) hk25 clX12 ml_X12_135 (cX12_must_ct z ad v0 (1 : Int32) m m24 hq23) rfl rfl (Nat.le_of_ble_eq_true rfl) ⟨rfl, rfl, by decide, by decide, Nat.le_refl _, Nat.le_refl _⟩ dX12_readStory_74 ?_
      refine g_iconst (v := (1 : Int32)) (pc := 77) X dX12_readStory_77 (by decide) ?_
      refine g_aload_n (pc := 78) X dX12_readStory_78 rfl 0 rfl ?_
      refine g_iconst (v := (0 : Int32)) (pc := 79) X dX12_readStory_79 (by decide) ?_
      refine g_aload_n (pc := 80) X dX12_readStory_80 rfl 0 rfl ?_
      obtain ⟨q26, hr27, hf⟩ := bnd_some hf
      refine g_getR (pc := 81) X fl_X12_22 (KMlt hk25 (by decide)) hk25 hr27 dX12_readStory_81 ?_
      refine g_iconst (v := (4 : Int32)) (pc := 84) X dX12_readStory_84 (by decide) ?_
      obtain ⟨hk28, hf⟩ := gp_some hf
      obtain ⟨hi29, hf⟩ := gp_some hf
      refine g_iald (pc := 85) X (KMlt hk28 (by decide)) hk28 hi29 dX12_readStory_85 ?_
      refine g_iconst (v := (1 : Int32)) (pc := 86) X dX12_readStory_86 (by decide) ?_
      refine g_isub (pc := 87) X dX12_readStory_87 ?_
      obtain ⟨r31, m32, hq30, hf⟩ := bnd2_some hf
      refine g_callVI (pc := 88) (As := [.int (0 : Int32), .int ((m24.1 q26 (4 : Int32).toNatClampNeg) - (1 : Int32))]) (rest := [.int (1 : Int32)]) X mi_X12_number im_X12_number se_X12_number (KMlt hk25 (by decide)) hk25 clX12 ml_X12_184 (cX12_number_ct z ad v0 (0 : Int32) ((m24.1 q26 (4 : Int32).toNatClampNeg) - (1 : Int32)) m24 m32 r31 hq30) rfl rfl (Nat.le_of_ble_eq_true rfl) ⟨rfl, rfl, by decide, by decide, Nat.le_refl _, Nat.le_refl _⟩ dX12_readStory_88 ?_
      refine g_ishl (pc := 91) X dX12_readStory_91 ?_
      obtain ⟨v6_33, e34, hf⟩ := lt1_some hf
      refine g_topi e34 ?_
      refine g_istore (lv2 := [(0, .ref (ad v0)), (1, .int v1), (2, .int v2), (3, .int v3), (4, .int v4), (5, .int s0), (6, .int v6_33)]) (pc := 92) X dX12_readStory_92 (by decide) [1, 2, 3, 4, 5, 6, 0] rfl ?_
      refine g_iload (pc := 94) X dX12_readStory_94 5 rfl ?_
      refine g_if_eq (pc := 96) (tgt := 106) X dX12_readStory_96 (by decide) (fun hc => ?_) (fun hc => ?_)
      · have hf := itp hc hf
        refine g_iload_n (pc := 106) X dX12_readStory_106 rfl 3 rfl ?_
        refine g_iload (pc := 107) X dX12_readStory_107 6 rfl ?_
        refine g_iconst (v := (-1 : Int32)) (pc := 109) X dX12_readStory_109 (by decide) ?_
        refine g_ixor (pc := 110) X dX12_readStory_110 ?_
        refine g_iand (pc := 111) X dX12_readStory_111 ?_
        refine g_lv [(0, .ref (ad v0)), (1, .int v1), (2, .int v2), (4, .int v4), (5, .int s0), (6, .int v6_33)] [0, 1, 2, 4, 5, 6] rfl ?_
        exact hL112 _ _ _ _ _ hf
      · have hf := itn hc hf
        refine g_iload_n (pc := 99) X dX12_readStory_99 rfl 3 rfl ?_
        refine g_iload (pc := 100) X dX12_readStory_100 6 rfl ?_
        refine g_ior (pc := 102) X dX12_readStory_102 ?_
        refine g_goto (pc := 103) (tgt := 112) X dX12_readStory_103 (by decide) ?_
        refine g_lv [(0, .ref (ad v0)), (1, .int v1), (2, .int v2), (4, .int v4), (5, .int s0), (6, .int v6_33)] [0, 1, 2, 4, 5, 6] rfl ?_
        exact hL112 _ _ _ _ _ hf
    have hL54 : ∀ (v3 : Int32) (v4 : Int32) (m : Mem), fX12_readStory_54 v0 v1 v2 v3 v4 m = some ob32 → G z wM x 7 0 0 ad 17 m 54 [(0, .ref (ad v0)), (1, .int v1), (2, .int v2), (3, .int v3), (4, .int v4)] [] := by
      intro v3 v4 m hf
      unfold fX12_readStory_54 at hf
      refine g_aload_n (pc := 54) X dX12_readStory_54 rfl 0 rfl ?_
      obtain ⟨hk37, hf⟩ := gp_some hf
      obtain ⟨r36, hq35, hf⟩ := bnd_some hf
      refine g_callVL (pc := 55) (As := []) (rest := []) X mi_X12_word im_X12_word se_X12_word (KMlt hk37 (by decide)) hk37 clX12 ml_X12_173 (cX12_word_ct z ad v0 m r36 hq35) rfl rfl (Nat.le_of_ble_eq_true rfl) ⟨rfl, rfl, by decide, by decide, Nat.le_refl _, Nat.le_refl _⟩ dX12_readStory_55 ?_
      refine g_ldc2 (pc := 58) X dX12_readStory_58 kl_X12_194 ?_
      refine g_lcmp_ne (pc := 61) (tgt := 69) X dX12_readStory_61 dX12_readStory_62 (by decide) (fun hc => ?_) (fun hc => ?_)
      · have hf := itn hc hf
        refine g_iconst (v := (0 : Int32)) (pc := 69) X dX12_readStory_69 (by decide) ?_
        exact hL70 _ _ _ _ hf
      · have hf := itp hc hf
        refine g_iconst (v := (1 : Int32)) (pc := 65) X dX12_readStory_65 (by decide) ?_
        refine g_goto (pc := 66) (tgt := 70) X dX12_readStory_66 (by decide) ?_
        exact hL70 _ _ _ _ hf
    unfold fX12_readStory_32b at hf
    refine g_aload_n (pc := 32) X dX12_readStory_32 rfl 0 rfl ?_
    obtain ⟨hk40, hf⟩ := gp_some hf
    obtain ⟨r39, hq38, hf⟩ := bnd_some hf
    refine g_callVL (pc := 33) (As := []) (rest := []) X mi_X12_word im_X12_word se_X12_word (KMlt hk40 (by decide)) hk40 clX12 ml_X12_173 (cX12_word_ct z ad v0 m r39 hq38) rfl rfl (Nat.le_of_ble_eq_true rfl) ⟨rfl, rfl, by decide, by decide, Nat.le_refl _, Nat.le_refl _⟩ dX12_readStory_33 ?_
    refine g_ldc2 (pc := 36) X dX12_readStory_36 kl_X12_194 ?_
    refine g_lcmp_eq (pc := 39) (tgt := 54) X dX12_readStory_39 dX12_readStory_40 (by decide) (fun hc => ?_) (fun hc => ?_)
    · have hf := itp hc hf
      exact hL54 _ _ _ hf
    · have hf := itn hc hf
      refine g_aload_n (pc := 43) X dX12_readStory_43 rfl 0 rfl ?_
      obtain ⟨r42, hq41, hf⟩ := bnd_some hf
      refine g_callVL (pc := 44) (As := []) (rest := []) X mi_X12_word im_X12_word se_X12_word (KMlt hk40 (by decide)) hk40 clX12 ml_X12_173 (cX12_word_ct z ad v0 m r42 hq41) rfl rfl (Nat.le_of_ble_eq_true rfl) ⟨rfl, rfl, by decide, by decide, Nat.le_refl _, Nat.le_refl _⟩ dX12_readStory_44 ?_
      refine g_ldc2 (pc := 47) X dX12_readStory_47 kl_X12_196 ?_
      refine g_lcmp_ne (pc := 50) (tgt := 138) X dX12_readStory_50 dX12_readStory_51 (by decide) (fun hc => ?_) (fun hc => ?_)
      · have hf := itn hc hf
        have he32 := he32 _ (Option.some.inj hf).symm
        subst he32
        have hf : fX12_readStory_138 v0 v1 v2 v3 v4 m = some m2 := hrest32
        exact hL138 _ _ _ _ _ _ hf
      · have hf := itp hc hf
        exact hL54 _ _ _ hf
  unfold fX12_readStory at hf
  refine g_aload_n (pc := 0) X dX12_readStory_0 rfl 0 rfl ?_
  refine g_iconst (v := (5 : Int32)) (pc := 1) X dX12_readStory_1 (by decide) ?_
  refine g_bipush (v := (6 : Int32)) (pc := 2) X dX12_readStory_2 (by decide) ?_
  obtain ⟨hk45, hf⟩ := gp_some hf
  obtain ⟨m44, hq43, hf⟩ := bnd_some hf
  refine g_callVV (pc := 4) (As := [.int (5 : Int32), .int (6 : Int32)]) (rest := []) X mi_X12_begins im_X12_begins se_X12_begins (KMlt hk45 (by decide)) hk45 clX12 ml_X12_169 (cX12_begins_ct z ad v0 (5 : Int32) (6 : Int32) m m44 hq43) rfl rfl (Nat.le_of_ble_eq_true rfl) ⟨rfl, rfl, by decide, by decide, Nat.le_refl _, Nat.le_refl _⟩ dX12_readStory_4 ?_
  refine g_bipush (v := (60 : Int32)) (pc := 7) X dX12_readStory_7 (by decide) ?_
  refine g_iconst (v := (3 : Int32)) (pc := 9) X dX12_readStory_9 (by decide) ?_
  refine g_aload_n (pc := 10) X dX12_readStory_10 rfl 0 rfl ?_
  obtain ⟨q46, hr47, hf⟩ := bnd_some hf
  refine g_getR (pc := 11) X fl_X12_22 (KMlt hk45 (by decide)) hk45 hr47 dX12_readStory_11 ?_
  refine g_iconst (v := (5 : Int32)) (pc := 14) X dX12_readStory_14 (by decide) ?_
  obtain ⟨hk48, hf⟩ := gp_some hf
  obtain ⟨hi49, hf⟩ := gp_some hf
  refine g_iald (pc := 15) X (KMlt hk48 (by decide)) hk48 hi49 dX12_readStory_15 ?_
  refine g_imul (pc := 16) X dX12_readStory_16 ?_
  refine g_iadd (pc := 17) X dX12_readStory_17 ?_
  obtain ⟨v1_50, e51, hf⟩ := lt1_some hf
  refine g_topi e51 ?_
  refine g_istore_n (lv2 := [(0, .ref (ad v0)), (1, .int v1_50)]) (pc := 18) X dX12_readStory_18 rfl (by decide) [1, 0] rfl ?_
  refine g_aload_n (pc := 19) X dX12_readStory_19 rfl 0 rfl ?_
  refine g_iconst (v := (1 : Int32)) (pc := 20) X dX12_readStory_20 (by decide) ?_
  refine g_bipush (v := (9 : Int32)) (pc := 21) X dX12_readStory_21 (by decide) ?_
  obtain ⟨r53, m54, hq52, hf⟩ := bnd2_some hf
  refine g_callVI (pc := 23) (As := [.int (1 : Int32), .int (9 : Int32)]) (rest := []) X mi_X12_number im_X12_number se_X12_number (KMlt hk45 (by decide)) hk45 clX12 ml_X12_184 (cX12_number_ct z ad v0 (1 : Int32) (9 : Int32) m44 m54 r53 hq52) rfl rfl (Nat.le_of_ble_eq_true rfl) ⟨rfl, rfl, by decide, by decide, Nat.le_refl _, Nat.le_refl _⟩ dX12_readStory_23 ?_
  refine g_istore_n (lv2 := [(0, .ref (ad v0)), (1, .int v1_50), (2, .int r53)]) (pc := 26) X dX12_readStory_26 rfl (by decide) [1, 2, 0] rfl ?_
  refine g_iconst (v := (0 : Int32)) (pc := 27) X dX12_readStory_27 (by decide) ?_
  obtain ⟨v3_55, e56, hf⟩ := lt1_some hf
  refine g_topi e56 ?_
  refine g_istore_n (lv2 := [(0, .ref (ad v0)), (1, .int v1_50), (2, .int r53), (3, .int v3_55)]) (pc := 28) X dX12_readStory_28 rfl (by decide) [1, 2, 3, 0] rfl ?_
  refine g_iconst (v := (0 : Int32)) (pc := 29) X dX12_readStory_29 (by decide) ?_
  obtain ⟨v4_57, e58, hf⟩ := lt1_some hf
  refine g_topi e58 ?_
  refine g_istore (lv2 := [(0, .ref (ad v0)), (1, .int v1_50), (2, .int r53), (3, .int v3_55), (4, .int v4_57)]) (pc := 30) X dX12_readStory_30 (by decide) [1, 2, 3, 4, 0] rfl ?_
  exact hL32 _ _ _ _ _ _ hf

noncomputable def fX12_readShore_106b (v0 : Nat) (m : Mem) : Option ((Mem) ⊕ (Mem)) := gp (KM v0 = 12) (bnd (fX12_word v0 m) (fun r2 => if r2 = (1818324580 : Int64) then (bnd (fX12_readLand v0 m) (fun m5 => some (.inl (m5)))) else (some (.inr (m)))))
noncomputable def fX12_readShore_106 (v0 : Nat) (m : Mem) : Option Mem := bnd (iter (fun s => fX12_readShore_106b v0 s) FU (m)) (fun e => some e)
noncomputable def fX12_readShore_88b (v0 : Nat) (m : Mem) : Option ((Mem) ⊕ (Mem)) := gp (KM v0 = 12) (bnd (fX12_word v0 m) (fun r7 => if r7 = (2003398244 : Int64) then (bnd (fX12_readWind v0 m) (fun m10 => some (.inl (m10)))) else (some (.inr (m)))))
noncomputable def fX12_readShore_88 (v0 : Nat) (m : Mem) : Option Mem := bnd (iter (fun s => fX12_readShore_88b v0 s) FU (m)) (fun e => fX12_readShore_106 v0 e)
noncomputable def fX12_readShore_72 (v0 : Nat) (m : Mem) : Option Mem := gp (KM v0 = 12) (bnd (fX12_word v0 m) (fun r12 => if r12 = (2003398244 : Int64) then (fX12_readShore_88 v0 m) else (bnd (fX12_bad v0 (1 : Int32) m) (fun m15 => fX12_readShore_88 v0 m15))))
noncomputable def fX12_readShore_69 (v0 : Nat) (s0 : Nat) (s1 : Int32) (m : Mem) : Option Mem := gp (KM s0 = 12) (bnd (fX12_must s0 s1 m) (fun m17 => fX12_readShore_72 v0 m17))
noncomputable def fX12_readShore_17 (v0 : Nat) (s0 : Nat) (s1 : Int32) (m : Mem) : Option Mem := gp (KM s0 = 12) (bnd (fX12_must s0 s1 m) (fun m20 => gp (KM v0 = 12) (bnd (m20.2.2 v0 6) (fun q23 => bnd2 (fX12_number v0 (1 : Int32) (16 : Int32) m20) (fun r26 m27 => gp (KM q23 = 14) (gp (inb (6 : Int32) (NM q23) = true) (lt1 (uI m27 q23 (6 : Int32).toNatClampNeg r26) (fun m30 => bnd (m30.2.2 v0 6) (fun q32 => bnd2 (fX12_number v0 (1 : Int32) (8 : Int32) m30) (fun r35 m36 => gp (KM q32 = 14) (gp (inb (7 : Int32) (NM q32) = true) (lt1 (uI m36 q32 (7 : Int32).toNatClampNeg r35) (fun m39 => if (m39.1 v0 17) = 0 then (if (m39.1 v0 14) = (4 : Int32) then (fX12_readShore_69 v0 v0 (1 : Int32) m39) else (fX12_readShore_69 v0 v0 (0 : Int32) m39)) else (fX12_readShore_72 v0 m39))))))))))))))
noncomputable def fX12_readShore (v0 : Nat) (m : Mem) : Option Mem := gp (KM v0 = 12) (bnd (fX12_word v0 m) (fun r42 => if r42 = (7562593 : Int64) then (fX12_readShore_17 v0 v0 (1 : Int32) m) else (fX12_readShore_17 v0 v0 (0 : Int32) m)))
set_option maxHeartbeats 4000000 in
set_option maxRecDepth 100000 in
theorem cX12_readShore_ct (z : Zx) (ad : Nat → Nat) (v0 : Nat) (m m2 : Mem) (hf : fX12_readShore v0 m = some m2) : CtV z wM yX12_readShore cX12_readShore 1 none (Rm 7) ad 17 [.ref (ad v0)] m m2 := by
  refine ct_ofV mi_X12_readShore rfl (Nat.le_of_ble_eq_true rfl) (fun x X hret => ?_)
  refine g_lv [(0, .ref (ad v0))] [0] rfl ?_
  have hL106 : ∀ (v0 : Nat) (m : Mem), fX12_readShore_106 v0 m = some m2 → G z wM x 1 0 0 ad 17 m 106 [(0, .ref (ad v0))] [] := by
    intro v0 m hf
    unfold fX12_readShore_106 at hf
    obtain ⟨e106, hit106, hrest106⟩ := bnd_some hf
    refine iter_ok (Hd := fun (s : (Mem)) => G z wM x 1 0 0 ad 17 s 106 [(0, .ref (ad v0))] []) ?_ FU (m) hit106
    intro m ob106 hf hs106 he106
    have hf : fX12_readShore_106b v0 m = some ob106 := hf
    unfold fX12_readShore_106b at hf
    refine g_aload_n (pc := 106) X dX12_readShore_106 rfl 0 rfl ?_
    obtain ⟨hk3, hf⟩ := gp_some hf
    obtain ⟨r2, hq1, hf⟩ := bnd_some hf
    refine g_callVL (pc := 107) (As := []) (rest := []) X mi_X12_word im_X12_word se_X12_word (KMlt hk3 (by decide)) hk3 clX12 ml_X12_173 (cX12_word_ct z ad v0 m r2 hq1) rfl rfl (Nat.le_of_ble_eq_true rfl) ⟨rfl, rfl, by decide, by decide, Nat.le_refl _, Nat.le_refl _⟩ dX12_readShore_107 ?_
    refine g_ldc2 (pc := 110) X dX12_readShore_110 kl_X12_205 ?_
    refine g_lcmp_ne (pc := 113) (tgt := 124) X dX12_readShore_113 dX12_readShore_114 (by decide) (fun hc => ?_) (fun hc => ?_)
    · have hf := itn hc hf
      have he106 := he106 _ (Option.some.inj hf).symm
      subst he106
      have hf : some m = some m2 := hrest106
      obtain rfl := Option.some.inj hf
      exact hret _ _ dX12_readShore_124
    · have hf := itp hc hf
      refine g_aload_n (pc := 117) X dX12_readShore_117 rfl 0 rfl ?_
      obtain ⟨m5, hq4, hf⟩ := bnd_some hf
      refine g_callVV (pc := 118) (As := []) (rest := []) X mi_X12_readLand im_X12_readLand se_X12_readLand (KMlt hk3 (by decide)) hk3 clX12 ml_X12_207 (cX12_readLand_ct z ad v0 m m5 hq4) rfl rfl (Nat.le_of_ble_eq_true rfl) ⟨rfl, rfl, by decide, by decide, Nat.le_refl _, Nat.le_refl _⟩ dX12_readShore_118 ?_
      refine g_goto (pc := 121) (tgt := 106) X dX12_readShore_121 (by decide) ?_
      exact hs106 (m5) (Option.some.inj hf).symm
  have hL88 : ∀ (v0 : Nat) (m : Mem), fX12_readShore_88 v0 m = some m2 → G z wM x 1 0 0 ad 17 m 88 [(0, .ref (ad v0))] [] := by
    intro v0 m hf
    unfold fX12_readShore_88 at hf
    obtain ⟨e88, hit88, hrest88⟩ := bnd_some hf
    refine iter_ok (Hd := fun (s : (Mem)) => G z wM x 1 0 0 ad 17 s 88 [(0, .ref (ad v0))] []) ?_ FU (m) hit88
    intro m ob88 hf hs88 he88
    have hf : fX12_readShore_88b v0 m = some ob88 := hf
    unfold fX12_readShore_88b at hf
    refine g_aload_n (pc := 88) X dX12_readShore_88 rfl 0 rfl ?_
    obtain ⟨hk8, hf⟩ := gp_some hf
    obtain ⟨r7, hq6, hf⟩ := bnd_some hf
    refine g_callVL (pc := 89) (As := []) (rest := []) X mi_X12_word im_X12_word se_X12_word (KMlt hk8 (by decide)) hk8 clX12 ml_X12_173 (cX12_word_ct z ad v0 m r7 hq6) rfl rfl (Nat.le_of_ble_eq_true rfl) ⟨rfl, rfl, by decide, by decide, Nat.le_refl _, Nat.le_refl _⟩ dX12_readShore_89 ?_
    refine g_ldc2 (pc := 92) X dX12_readShore_92 kl_X12_200 ?_
    refine g_lcmp_ne (pc := 95) (tgt := 106) X dX12_readShore_95 dX12_readShore_96 (by decide) (fun hc => ?_) (fun hc => ?_)
    · have hf := itn hc hf
      have he88 := he88 _ (Option.some.inj hf).symm
      subst he88
      have hf : fX12_readShore_106 v0 m = some m2 := hrest88
      exact hL106 _ _ hf
    · have hf := itp hc hf
      refine g_aload_n (pc := 99) X dX12_readShore_99 rfl 0 rfl ?_
      obtain ⟨m10, hq9, hf⟩ := bnd_some hf
      refine g_callVV (pc := 100) (As := []) (rest := []) X mi_X12_readWind im_X12_readWind se_X12_readWind (KMlt hk8 (by decide)) hk8 clX12 ml_X12_202 (cX12_readWind_ct z ad v0 m m10 hq9) rfl rfl (Nat.le_of_ble_eq_true rfl) ⟨rfl, rfl, by decide, by decide, Nat.le_refl _, Nat.le_refl _⟩ dX12_readShore_100 ?_
      refine g_goto (pc := 103) (tgt := 88) X dX12_readShore_103 (by decide) ?_
      exact hs88 (m10) (Option.some.inj hf).symm
  have hL72 : ∀ (v0 : Nat) (m : Mem), fX12_readShore_72 v0 m = some m2 → G z wM x 1 0 0 ad 17 m 72 [(0, .ref (ad v0))] [] := by
    intro v0 m hf
    unfold fX12_readShore_72 at hf
    refine g_aload_n (pc := 72) X dX12_readShore_72 rfl 0 rfl ?_
    obtain ⟨hk13, hf⟩ := gp_some hf
    obtain ⟨r12, hq11, hf⟩ := bnd_some hf
    refine g_callVL (pc := 73) (As := []) (rest := []) X mi_X12_word im_X12_word se_X12_word (KMlt hk13 (by decide)) hk13 clX12 ml_X12_173 (cX12_word_ct z ad v0 m r12 hq11) rfl rfl (Nat.le_of_ble_eq_true rfl) ⟨rfl, rfl, by decide, by decide, Nat.le_refl _, Nat.le_refl _⟩ dX12_readShore_73 ?_
    refine g_ldc2 (pc := 76) X dX12_readShore_76 kl_X12_200 ?_
    refine g_lcmp_eq (pc := 79) (tgt := 88) X dX12_readShore_79 dX12_readShore_80 (by decide) (fun hc => ?_) (fun hc => ?_)
    · have hf := itp hc hf
      exact hL88 _ _ hf
    · have hf := itn hc hf
      refine g_aload_n (pc := 83) X dX12_readShore_83 rfl 0 rfl ?_
      refine g_iconst (v := (1 : Int32)) (pc := 84) X dX12_readShore_84 (by decide) ?_
      obtain ⟨m15, hq14, hf⟩ := bnd_some hf
      refine g_callVV (pc := 85) (As := [.int (1 : Int32)]) (rest := []) X mi_X12_bad im_X12_bad se_X12_bad (KMlt hk13 (by decide)) hk13 clX12 ml_X12_128 (cX12_bad_ct z ad v0 (1 : Int32) m m15 hq14) rfl rfl (Nat.le_of_ble_eq_true rfl) ⟨rfl, rfl, by decide, by decide, Nat.le_refl _, Nat.le_refl _⟩ dX12_readShore_85 ?_
      exact hL88 _ _ hf
  have hL69 : ∀ (v0 : Nat) (s0 : Nat) (s1 : Int32) (m : Mem), fX12_readShore_69 v0 s0 s1 m = some m2 → G z wM x 1 0 0 ad 17 m 69 [(0, .ref (ad v0))] [.int s1, .ref (ad s0)] := by
    intro v0 s0 s1 m hf
    unfold fX12_readShore_69 at hf
    obtain ⟨hk18, hf⟩ := gp_some hf
    obtain ⟨m17, hq16, hf⟩ := bnd_some hf
    refine g_callVV (pc := 69) (As := [.int s1]) (rest := []) X mi_X12_must im_X12_must se_X12_must (KMlt hk18 (by decide)) hk18 clX12 ml_X12_135 (cX12_must_ct z ad s0 s1 m m17 hq16) rfl rfl (Nat.le_of_ble_eq_true rfl) ⟨rfl, rfl, by decide, by decide, Nat.le_refl _, Nat.le_refl _⟩ dX12_readShore_69 ?_
    exact hL72 _ _ hf
  have hL17 : ∀ (v0 : Nat) (s0 : Nat) (s1 : Int32) (m : Mem), fX12_readShore_17 v0 s0 s1 m = some m2 → G z wM x 1 0 0 ad 17 m 17 [(0, .ref (ad v0))] [.int s1, .ref (ad s0)] := by
    intro v0 s0 s1 m hf
    unfold fX12_readShore_17 at hf
    obtain ⟨hk21, hf⟩ := gp_some hf
    obtain ⟨m20, hq19, hf⟩ := bnd_some hf
    refine g_callVV (pc := 17) (As := [.int s1]) (rest := []) X mi_X12_must im_X12_must se_X12_must (KMlt hk21 (by decide)) hk21 clX12 ml_X12_135 (cX12_must_ct z ad s0 s1 m m20 hq19) rfl rfl (Nat.le_of_ble_eq_true rfl) ⟨rfl, rfl, by decide, by decide, Nat.le_refl _, Nat.le_refl _⟩ dX12_readShore_17 ?_
    refine g_aload_n (pc := 20) X dX12_readShore_20 rfl 0 rfl ?_
    obtain ⟨hk22, hf⟩ := gp_some hf
    obtain ⟨q23, hr24, hf⟩ := bnd_some hf
    refine g_getR (pc := 21) X fl_X12_22 (KMlt hk22 (by decide)) hk22 hr24 dX12_readShore_21 ?_
    refine g_bipush (v := (6 : Int32)) (pc := 24) X dX12_readShore_24 (by decide) ?_
    refine g_aload_n (pc := 26) X dX12_readShore_26 rfl 0 rfl ?_
    refine g_iconst (v := (1 : Int32)) (pc := 27) X dX12_readShore_27 (by decide) ?_
    refine g_bipush (v := (16 : Int32)) (pc := 28) X dX12_readShore_28 (by decide) ?_
    obtain ⟨r26, m27, hq25, hf⟩ := bnd2_some hf
    refine g_callVI (pc := 30) (As := [.int (1 : Int32), .int (16 : Int32)]) (rest := [.int (6 : Int32), .ref (ad q23)]) X mi_X12_number im_X12_number se_X12_number (KMlt hk22 (by decide)) hk22 clX12 ml_X12_184 (cX12_number_ct z ad v0 (1 : Int32) (16 : Int32) m20 m27 r26 hq25) rfl rfl (Nat.le_of_ble_eq_true rfl) ⟨rfl, rfl, by decide, by decide, Nat.le_refl _, Nat.le_refl _⟩ dX12_readShore_30 ?_
    obtain ⟨hk28, hf⟩ := gp_some hf
    obtain ⟨hi29, hf⟩ := gp_some hf
    refine g_iast (pc := 33) X (KMlt hk28 (by decide)) hk28 hi29 dX12_readShore_33 ?_
    obtain ⟨m30, e31, hf⟩ := lt1_some hf
    refine g_mem e31 ?_
    refine g_aload_n (pc := 34) X dX12_readShore_34 rfl 0 rfl ?_
    obtain ⟨q32, hr33, hf⟩ := bnd_some hf
    refine g_getR (pc := 35) X fl_X12_22 (KMlt hk22 (by decide)) hk22 hr33 dX12_readShore_35 ?_
    refine g_bipush (v := (7 : Int32)) (pc := 38) X dX12_readShore_38 (by decide) ?_
    refine g_aload_n (pc := 40) X dX12_readShore_40 rfl 0 rfl ?_
    refine g_iconst (v := (1 : Int32)) (pc := 41) X dX12_readShore_41 (by decide) ?_
    refine g_bipush (v := (8 : Int32)) (pc := 42) X dX12_readShore_42 (by decide) ?_
    obtain ⟨r35, m36, hq34, hf⟩ := bnd2_some hf
    refine g_callVI (pc := 44) (As := [.int (1 : Int32), .int (8 : Int32)]) (rest := [.int (7 : Int32), .ref (ad q32)]) X mi_X12_number im_X12_number se_X12_number (KMlt hk22 (by decide)) hk22 clX12 ml_X12_184 (cX12_number_ct z ad v0 (1 : Int32) (8 : Int32) m30 m36 r35 hq34) rfl rfl (Nat.le_of_ble_eq_true rfl) ⟨rfl, rfl, by decide, by decide, Nat.le_refl _, Nat.le_refl _⟩ dX12_readShore_44 ?_
    obtain ⟨hk37, hf⟩ := gp_some hf
    obtain ⟨hi38, hf⟩ := gp_some hf
    refine g_iast (pc := 47) X (KMlt hk37 (by decide)) hk37 hi38 dX12_readShore_47 ?_
    obtain ⟨m39, e40, hf⟩ := lt1_some hf
    refine g_mem e40 ?_
    refine g_aload_n (pc := 48) X dX12_readShore_48 rfl 0 rfl ?_
    refine g_getI (pc := 49) X fl_X12_122 (KMlt hk22 (by decide)) hk22 dX12_readShore_49 ?_
    refine g_if_ne (pc := 52) (tgt := 72) X dX12_readShore_52 (by decide) (fun hc => ?_) (fun hc => ?_)
    · have hf := itn hc hf
      exact hL72 _ _ hf
    · have hf := itp hc hf
      refine g_aload_n (pc := 55) X dX12_readShore_55 rfl 0 rfl ?_
      refine g_aload_n (pc := 56) X dX12_readShore_56 rfl 0 rfl ?_
      refine g_getI (pc := 57) X fl_X12_110 (KMlt hk22 (by decide)) hk22 dX12_readShore_57 ?_
      refine g_iconst (v := (4 : Int32)) (pc := 60) X dX12_readShore_60 (by decide) ?_
      refine g_icmp_ne (pc := 61) (tgt := 68) X dX12_readShore_61 (by decide) (fun hc => ?_) (fun hc => ?_)
      · have hf := itn hc hf
        refine g_iconst (v := (0 : Int32)) (pc := 68) X dX12_readShore_68 (by decide) ?_
        exact hL69 _ _ _ _ hf
      · have hf := itp hc hf
        refine g_iconst (v := (1 : Int32)) (pc := 64) X dX12_readShore_64 (by decide) ?_
        refine g_goto (pc := 65) (tgt := 69) X dX12_readShore_65 (by decide) ?_
        exact hL69 _ _ _ _ hf
  unfold fX12_readShore at hf
  refine g_aload_n (pc := 0) X dX12_readShore_0 rfl 0 rfl ?_
  refine g_aload_n (pc := 1) X dX12_readShore_1 rfl 0 rfl ?_
  obtain ⟨hk43, hf⟩ := gp_some hf
  obtain ⟨r42, hq41, hf⟩ := bnd_some hf
  refine g_callVL (pc := 2) (As := []) (rest := [.ref (ad v0)]) X mi_X12_word im_X12_word se_X12_word (KMlt hk43 (by decide)) hk43 clX12 ml_X12_173 (cX12_word_ct z ad v0 m r42 hq41) rfl rfl (Nat.le_of_ble_eq_true rfl) ⟨rfl, rfl, by decide, by decide, Nat.le_refl _, Nat.le_refl _⟩ dX12_readShore_2 ?_
  refine g_ldc2 (pc := 5) X dX12_readShore_5 kl_X12_198 ?_
  refine g_lcmp_ne (pc := 8) (tgt := 16) X dX12_readShore_8 dX12_readShore_9 (by decide) (fun hc => ?_) (fun hc => ?_)
  · have hf := itn hc hf
    refine g_iconst (v := (0 : Int32)) (pc := 16) X dX12_readShore_16 (by decide) ?_
    exact hL17 _ _ _ _ hf
  · have hf := itp hc hf
    refine g_iconst (v := (1 : Int32)) (pc := 12) X dX12_readShore_12 (by decide) ?_
    refine g_goto (pc := 13) (tgt := 17) X dX12_readShore_13 (by decide) ?_
    exact hL17 _ _ _ _ hf

