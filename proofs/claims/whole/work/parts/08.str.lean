section
variable {z : Zx} {w : Px} {x : Cx} {nL cs ss : Nat} {ad : Nat → Nat} {n : Nat} {mm : Mem} {pc : Nat} {lv : List (Nat × Value)} {st : List Value} {cc : ByteArray} {own : String} {rm : Room}
theorem g_sval (X : OK z x cc own nL rm) {i index : Nat} (hi : i < 24) (hli : Cond.fieldLink own index "java/lang/String" "value" "[B" ∈ GT) (hd : decode cc pc = .ok (.getfield index, 3)) (kk : G z w x nL cs ss ad n mm (pc + 3) lv (.ref (z.2.2.2.2 i) :: st)) : G z w x nL cs ss ad n mm pc lv (.ref (z.2.2.2.1 i) :: st) := by
  obtain ⟨l, D, cy, aK, aV⟩ := z
  obtain ⟨p, e, R, s, m, args, below, meth, c, Q, ad0, n0⟩ := x
  obtain ⟨hx, hb, hml, hown, hts, hK, hR, hE⟩ := X
  intro H locs ls hP hD hS hl
  obtain ⟨h1, h2, h3, h4, h5, h6, h7, h8, h9⟩ := id hE
  exact vk_getf hx hb (h4.1 i hi).2.2.1 hS hown (hts _ hli) (fun _ h => h) hd (kk H locs ls hP hD hS hl)
theorem g_scod (X : OK z x cc own nL rm) {i index : Nat} (hi : i < 24) (hli : Cond.fieldLink own index "java/lang/String" "coder" "B" ∈ GT) (hd : decode cc pc = .ok (.getfield index, 3)) (kk : G z w x nL cs ss ad n mm (pc + 3) lv (.int 0 :: st)) : G z w x nL cs ss ad n mm pc lv (.ref (z.2.2.2.1 i) :: st) := by
  obtain ⟨l, D, cy, aK, aV⟩ := z
  obtain ⟨p, e, R, s, m, args, below, meth, c, Q, ad0, n0⟩ := x
  obtain ⟨hx, hb, hml, hown, hts, hK, hR, hE⟩ := X
  intro H locs ls hP hD hS hl
  obtain ⟨h1, h2, h3, h4, h5, h6, h7, h8, h9⟩ := id hE
  exact vk_getf hx hb (h4.1 i hi).2.1 hS hown (hts _ hli) (fun _ h => h) hd (kk H locs ls hP hD hS hl)
theorem g_stlen (X : OK z x cc own nL rm) {i : Nat} (hi : i < 24) (hd : decode cc pc = .ok (.arraylength, 1)) (kk : G z w x nL cs ss ad n mm (pc + 1) lv (.int (Int32.ofNat (lenS.getD i 0)) :: st)) : G z w x nL cs ss ad n mm pc lv (.ref (z.2.2.2.2 i) :: st) := by
  obtain ⟨l, D, cy, aK, aV⟩ := z
  obtain ⟨p, e, R, s, m, args, below, meth, c, Q, ad0, n0⟩ := x
  obtain ⟨hx, hb, hml, hown, hts, hK, hR, hE⟩ := X
  intro H locs ls hP hD hS hl
  obtain ⟨h1, h2, h3, h4, h5, h6, h7, h8, h9⟩ := id hE
  exact va_tlen hx hb (h4.1 i hi).2.2.2 hS rfl hd (kk H locs ls hP hD hS hl)
theorem g_stbald (X : OK z x cc own nL rm) {i : Nat} {k : Int32} (hi : i < 24) (hk : inb k (lenS.getD i 0) = true) (hd : decode cc pc = .ok (.baload, 1)) (kk : G z w x nL cs ss ad n mm (pc + 1) lv (.int ((bytS.getD i []).getD k.toNatClampNeg 0) :: st)) : G z w x nL cs ss ad n mm pc lv (.int k :: .ref (z.2.2.2.2 i) :: st) := by
  obtain ⟨l, D, cy, aK, aV⟩ := z
  obtain ⟨p, e, R, s, m, args, below, meth, c, Q, ad0, n0⟩ := x
  obtain ⟨hx, hb, hml, hown, hts, hK, hR, hE⟩ := X
  intro H locs ls hP hD hS hl
  obtain ⟨h1, h2, h3, h4, h5, h6, h7, h8, h9⟩ := id hE
  exact va_tb hx hb (h4.1 i hi).2.2.2 hS (inb_in hk) rfl hd (kk H locs ls hP hD hS hl)
theorem g_cstr (X : OK z x cc own nL rm) {index : Nat} (hli : Cond.fieldLink own index "java/lang/String" "COMPACT_STRINGS" "Z" ∈ GT) (hd : decode cc pc = .ok (.getstatic index, 3)) (kk : G z w x nL cs ss ad n mm (pc + 3) lv (.int 1 :: st)) : G z w x nL cs ss ad n mm pc lv st := by
  obtain ⟨l, D, cy, aK, aV⟩ := z
  obtain ⟨p, e, R, s, m, args, below, meth, c, Q, ad0, n0⟩ := x
  obtain ⟨hx, hb, hml, hown, hts, hK, hR, hE⟩ := X
  intro H locs ls hP hD hS hl
  obtain ⟨h1, h2, h3, h4, h5, h6, h7, h8, h9⟩ := id hE
  exact va_gets hx hb h6 hS hown (hts _ hli) (fun _ h => h) hd (kk H locs ls hP hD hS hl)
theorem g_sio (X : OK z x cc own nL rm) {index : Nat} (hli : Cond.fieldLink own index "jdk/internal/util/Preconditions" "SIOOBE_FORMATTER" "Ljava/util/function/BiFunction;" ∈ GT) (hd : decode cc pc = .ok (.getstatic index, 3)) (kk : ∀ v : Value, (v = .null ∨ ∃ t, v = .ref t) → G z w x nL cs ss ad n mm (pc + 3) lv (v :: st)) : G z w x nL cs ss ad n mm pc lv st := by
  obtain ⟨l, D, cy, aK, aV⟩ := z
  obtain ⟨p, e, R, s, m, args, below, meth, c, Q, ad0, n0⟩ := x
  obtain ⟨hx, hb, hml, hown, hts, hK, hR, hE⟩ := X
  intro H locs ls hP hD hS hl
  obtain ⟨h1, h2, h3, h4, h5, h6, h7, h8, h9⟩ := id hE
  rcases h7 with h7 | ⟨t, h7⟩
  · exact va_gets hx hb h7 hS hown (hts _ hli) (fun _ h => h) hd (kk _ (Or.inl rfl) H locs ls hP hD hS hl)
  · exact va_gets hx hb h7 hS hown (hts _ hli) (fun _ h => h) hd (kk _ (Or.inr ⟨t, rfl⟩) H locs ls hP hD hS hl)
theorem g_callStr (X : OK z x cc own nL rm) {y : MethodName} {bytes : ByteArray} {maxL na index i : Nat} {ret : Option FieldType} {rm2 : Room} {As rest : List Value} {mm2 : Mem} {r : Int32} (M : Mi y bytes maxL ret na) (hyC : y.cls = "java/lang/String") (hin : Cond.instanceMethod y ∈ GT) (hse : Cond.selects "java/lang/String" y y ∈ GT) (hi : i < 24) (hli : Cond.methodLink own index y ∈ GT) (hc : CtI z w y bytes maxL ret rm2 ad n (.ref (z.2.2.2.1 i) :: As) mm mm2 r) (hna : As.length = na) (hst : st = As.reverse ++ .ref (z.2.2.2.1 i) :: rest) (hcat : (rest.map fun v => v.category).sum ≤ 8) (hrm : rm2.cells = 0 ∧ rm2.slots = 0 ∧ rm2.frames + 1 ≤ rm.frames ∧ 8 + (maxL + 11) + rm2.locals ≤ rm.locals ∧ cs ≤ rm.cells ∧ ss ≤ rm.slots) (hd : decode cc pc = .ok (.invokevirtual index, 3)) (kk : G z w x nL cs ss ad n mm2 (pc + 3) lv (.int r :: rest)) : G z w x nL cs ss ad n mm pc lv st := by
  obtain ⟨l, D, cy, aK, aV⟩ := z
  obtain ⟨p, e, R, s, m, args, below, meth, c, Q, ad0, n0⟩ := x
  obtain ⟨hx, hb, hml, hown, hts, hK, hR, hE⟩ := X
  intro H locs ls hP hD hS hl
  obtain ⟨h1, h2, h3, h4, h5, h6, h7, h8, h9⟩ := id hE
  subst hR
  subst hst
  have hup : ∀ q, Ad ad n H.size q → Ad ad0 n0 s.heap.size q := ad_up (fun q h => Or.inr h) hD hS
  refine va_calli (va_runV (C := "java/lang/String") (As := As) (rest := rest) (bytes := bytes) (maxL := maxL) (ret := ret) (n := na) ⟨hx, hb, hml, hown, hts⟩ (hc H.size) ⟨callB_of na hts (gt_in M.1) rfl hrm.1 hrm.2.1 (hts _ M.2.1) (hts _ hli) ⟨M.2.2.1, M.2.2.2.1, M.2.2.2.2.1⟩ ⟨hrm.2.2.1, hrm.2.2.2.1⟩, hts _ hin, hts _ hse⟩ ⟨WdP.blind, vk_recv h4 hi hS, fun U hU hW => ⟨rfl, by rw [hU], by rw [hU]; exact hP, va_K.moved hW.alike hK, hD.weaken (fun _ _ _ _ => trivial), hE.mv hS hW hU hup⟩⟩ rfl hna hl.1 rfl (lv_room hcat) hd ⟨hrm.2.2.2.2.1, hrm.2.2.2.2.2⟩) hS (fun q _ h => hup q h) hup (fun r2 u t2 H1 locs1 ht hvm hw hB hz1 hk1 hS1 => ?_)
  obtain ⟨hP1, hK1, hD1⟩ := hB
  rw [ht] at hP1
  obtain ⟨rfl, rfl⟩ := hw
  exact kk H1 locs1 ls hP1 (hD1.weaken (fun _ q _ h => hup q.1 h)) hS1 hl
end
theorem mi_J0_length_8abf5 : Mi yJ0_length_8abf5 cJ0_length_8abf5 1 (some .int) 0 := ⟨gt_mem (i := 582) (by decide +kernel) (by decide +kernel), gt_mem (i := 99) (by decide +kernel) (by decide +kernel), by decide +kernel, by decide +kernel, by decide +kernel, by decide +kernel⟩
theorem mi_J0_coder_7d493 : Mi yJ0_coder_7d493 cJ0_coder_7d493 1 (some .byte) 0 := ⟨gt_mem (i := 586) (by decide +kernel) (by decide +kernel), gt_mem (i := 99) (by decide +kernel) (by decide +kernel), by decide +kernel, by decide +kernel, by decide +kernel, by decide +kernel⟩
theorem mi_J0_isLatin1_aae02 : Mi yJ0_isLatin1_aae02 cJ0_isLatin1_aae02 1 (some .boolean) 0 := ⟨gt_mem (i := 596) (by decide +kernel) (by decide +kernel), gt_mem (i := 99) (by decide +kernel) (by decide +kernel), by decide +kernel, by decide +kernel, by decide +kernel, by decide +kernel⟩
theorem mi_J0_charAt_5068e : Mi yJ0_charAt_5068e cJ0_charAt_5068e 2 (some .char) 1 := ⟨gt_mem (i := 592) (by decide +kernel) (by decide +kernel), gt_mem (i := 99) (by decide +kernel) (by decide +kernel), by decide +kernel, by decide +kernel, by decide +kernel, by decide +kernel⟩
theorem mi_J1_charAt_3b067 : Mi yJ1_charAt_3b067 cJ1_charAt_3b067 2 (some .char) 2 := ⟨gt_mem (i := 599) (by decide +kernel) (by decide +kernel), gt_mem (i := 100) (by decide +kernel) (by decide +kernel), by decide +kernel, by decide +kernel, by decide +kernel, by decide +kernel⟩
theorem mi_J0_checkIndex_df160 : Mi yJ0_checkIndex_df160 cJ0_checkIndex_df160 2 none 2 := ⟨gt_mem (i := 602) (by decide +kernel) (by decide +kernel), gt_mem (i := 99) (by decide +kernel) (by decide +kernel), by decide +kernel, by decide +kernel, by decide +kernel, by decide +kernel⟩
theorem mi_J3_checkIndex_8e157 : Mi yJ3_checkIndex_8e157 cJ3_checkIndex_8e157 3 (some .int) 3 := ⟨gt_mem (i := 607) (by decide +kernel) (by decide +kernel), gt_mem (i := 101) (by decide +kernel) (by decide +kernel), by decide +kernel, by decide +kernel, by decide +kernel, by decide +kernel⟩
set_option maxHeartbeats 4000000 in
theorem ct_coder (z : Zx) (w : Px) (ad : Nat → Nat) (n i : Nat) (m : Mem) (hi : i < 24) : CtI z w yJ0_coder_7d493 cJ0_coder_7d493 1 (some .byte) (Rm 2) ad n [.ref (z.2.2.2.1 i)] m m 0 := by
  refine ct_ofI (own := RJ0) mi_J0_coder_7d493 rfl (Nat.le_of_ble_eq_true rfl) (fun x X hret => ?_)
  refine g_lv [(0, .ref (z.2.2.2.1 i))] [0] rfl ?_
  refine g_cstr (pc := 0) X (gt_mem (i := 587) (by decide +kernel) (by decide +kernel)) dJ0_coder_7d493_0 ?_
  refine g_if_eq (pc := 3) (tgt := 13) X dJ0_coder_7d493_3 (by decide) (fun hc => absurd hc (by decide)) (fun hc => ?_)
  refine g_aload_n (pc := 6) X dJ0_coder_7d493_6 rfl 0 rfl ?_
  refine g_scod (pc := 7) X hi (gt_mem (i := 1703) (by decide +kernel) (by decide +kernel)) dJ0_coder_7d493_7 ?_
  refine g_goto (pc := 10) (tgt := 14) X dJ0_coder_7d493_10 (by decide) ?_
  exact hret _ _ (by decide) dJ0_coder_7d493_14
set_option maxHeartbeats 4000000 in
theorem ct_isLatin1 (z : Zx) (w : Px) (ad : Nat → Nat) (n i : Nat) (m : Mem) (hi : i < 24) : CtI z w yJ0_isLatin1_aae02 cJ0_isLatin1_aae02 1 (some .boolean) (Rm 2) ad n [.ref (z.2.2.2.1 i)] m m 1 := by
  refine ct_ofI (own := RJ0) mi_J0_isLatin1_aae02 rfl (Nat.le_of_ble_eq_true rfl) (fun x X hret => ?_)
  refine g_lv [(0, .ref (z.2.2.2.1 i))] [0] rfl ?_
  refine g_cstr (pc := 0) X (gt_mem (i := 587) (by decide +kernel) (by decide +kernel)) dJ0_isLatin1_aae02_0 ?_
  refine g_if_eq (pc := 3) (tgt := 17) X dJ0_isLatin1_aae02_3 (by decide) (fun hc => absurd hc (by decide)) (fun hc => ?_)
  refine g_aload_n (pc := 6) X dJ0_isLatin1_aae02_6 rfl 0 rfl ?_
  refine g_scod (pc := 7) X hi (gt_mem (i := 1703) (by decide +kernel) (by decide +kernel)) dJ0_isLatin1_aae02_7 ?_
  refine g_if_ne (pc := 10) (tgt := 17) X dJ0_isLatin1_aae02_10 (by decide) (fun hc => absurd rfl hc) (fun hc => ?_)
  refine g_iconst (v := (1 : Int32)) (pc := 13) X dJ0_isLatin1_aae02_13 (by decide) ?_
  refine g_goto (pc := 14) (tgt := 18) X dJ0_isLatin1_aae02_14 (by decide) ?_
  exact hret _ _ (by decide) dJ0_isLatin1_aae02_18
theorem str_len : ∀ i, i < 24 → Int32.ofNat (lenS.getD i 0) >>> ((0 : Int32) &&& 31) = Int32.ofNat (lenS.getD i 0) := by decide +kernel
theorem str_byt : ∀ i, i < 24 → ∀ k, k < lenS.getD i 0 → ((((bytS.getD i []).getD k 0) &&& 255).toUInt32 % 65536).toInt32 = (bytS.getD i []).getD k 0 ∧ narrow .char (.int ((bytS.getD i []).getD k 0)) = .int ((bytS.getD i []).getD k 0) := by decide +kernel
theorem inb_lt {i : Int32} {n : Nat} (h : inb i n = true) : i.toNatClampNeg < n ∧ ¬ i < 0 := by
  simp only [inb, Bool.and_eq_true, Bool.not_eq_true', decide_eq_false_iff_not, decide_eq_true_eq] at h
  exact ⟨h.2, h.1⟩
theorem str_ltL : ∀ i, i < 24 → lenS.getD i 0 < 2 ^ 31 := by decide +kernel
theorem inb_lt2 {i : Int32} {n : Nat} (h : inb i n = true) (hn : n < 2 ^ 31) : i < Int32.ofNat n := by
  obtain ⟨h1, h2⟩ := inb_lt h
  rw [Int32.lt_iff_toInt_lt]
  have e1 : (Int32.ofNat n).toInt = n := nI_toInt hn
  have e2 : 0 ≤ i.toInt := by
    have := Int32.not_lt.mp h2
    simpa using Int32.le_iff_toInt_le.mp this
  have e3 : (i.toNatClampNeg : Int) = i.toInt := by
    show ((i.toInt.toNat : Nat) : Int) = i.toInt
    omega
  omega
set_option maxHeartbeats 4000000 in
theorem ct_length (z : Zx) (w : Px) (ad : Nat → Nat) (n i : Nat) (m : Mem) (hi : i < 24) : CtI z w yJ0_length_8abf5 cJ0_length_8abf5 1 (some .int) (Rm 6) ad n [.ref (z.2.2.2.1 i)] m m (Int32.ofNat (lenS.getD i 0)) := by
  refine ct_ofI (own := RJ0) mi_J0_length_8abf5 rfl (Nat.le_of_ble_eq_true rfl) (fun x X hret => ?_)
  refine g_lv [(0, .ref (z.2.2.2.1 i))] [0] rfl ?_
  refine g_aload_n (pc := 0) X dJ0_length_8abf5_0 rfl 0 rfl ?_
  refine g_sval (pc := 1) X hi (gt_mem (i := 1702) (by decide +kernel) (by decide +kernel)) dJ0_length_8abf5_1 ?_
  refine g_stlen (pc := 4) X hi dJ0_length_8abf5_4 ?_
  refine g_aload_n (pc := 5) X dJ0_length_8abf5_5 rfl 0 rfl ?_
  refine g_callStr (pc := 6) (As := []) (rest := [.int (Int32.ofNat (lenS.getD i 0))]) X mi_J0_coder_7d493 rfl (gt_mem (i := 584) (by decide +kernel) (by decide +kernel)) (gt_mem (i := 585) (by decide +kernel) (by decide +kernel)) hi (gt_mem (i := 583) (by decide +kernel) (by decide +kernel)) (ct_coder z w ad n i m hi) rfl rfl (Nat.le_of_ble_eq_true rfl) ⟨rfl, rfl, by decide, by decide, Nat.le_refl _, Nat.le_refl _⟩ dJ0_length_8abf5_6 ?_
  refine g_ishr (pc := 9) X dJ0_length_8abf5_9 ?_
  rw [str_len i hi]
  exact hret _ _ rfl dJ0_length_8abf5_10
set_option maxHeartbeats 4000000 in
theorem ct_check3 (z : Zx) (w : Px) (ad : Nat → Nat) (n : Nat) (m : Mem) (a b : Int32) (v : Value) (h0 : ¬ a < 0) (h1 : a < b) (hv : v = .null ∨ ∃ t, v = .ref t) : CtI z w yJ3_checkIndex_8e157 cJ3_checkIndex_8e157 3 (some .int) (Rm 2) ad n [.int a, .int b, v] m m a := by
  rcases hv with rfl | ⟨t, rfl⟩
  all_goals
    refine ct_ofI (own := RJ3) mi_J3_checkIndex_8e157 rfl (Nat.le_of_ble_eq_true rfl) (fun x X hret => ?_)
    refine g_lv [(0, .int a), (1, .int b)] [0, 1] rfl ?_
    refine g_iload_n (pc := 0) X dJ3_checkIndex_8e157_0 rfl 0 rfl ?_
    refine g_if_lt (pc := 1) (tgt := 9) X dJ3_checkIndex_8e157_1 (by decide) (fun hc => absurd hc h0) (fun hc => ?_)
    refine g_iload_n (pc := 4) X dJ3_checkIndex_8e157_4 rfl 0 rfl ?_
    refine g_iload_n (pc := 5) X dJ3_checkIndex_8e157_5 rfl 1 rfl ?_
    refine g_icmp_lt (pc := 6) (tgt := 16) X dJ3_checkIndex_8e157_6 (by decide) (fun hc => ?_) (fun hc => absurd h1 hc)
    refine g_iload_n (pc := 16) X dJ3_checkIndex_8e157_16 rfl 0 rfl ?_
    exact hret _ _ rfl dJ3_checkIndex_8e157_17
set_option maxHeartbeats 4000000 in
theorem ct_check2 (z : Zx) (w : Px) (ad : Nat → Nat) (n : Nat) (m : Mem) (a b : Int32) (h0 : ¬ a < 0) (h1 : a < b) : CtV z w yJ0_checkIndex_df160 cJ0_checkIndex_df160 2 none (Rm 3) ad n [.int a, .int b] m m := by
  refine ct_ofV (own := RJ0) mi_J0_checkIndex_df160 rfl (Nat.le_of_ble_eq_true rfl) (fun x X hret => ?_)
  refine g_lv [(0, .int a), (1, .int b)] [0, 1] rfl ?_
  refine g_iload_n (pc := 0) X dJ0_checkIndex_df160_0 rfl 0 rfl ?_
  refine g_iload_n (pc := 1) X dJ0_checkIndex_df160_1 rfl 1 rfl ?_
  refine g_sio (pc := 2) X (gt_mem (i := 603) (by decide +kernel) (by decide +kernel)) dJ0_checkIndex_df160_2 (fun v hv => ?_)
  refine g_callSI (pc := 5) (As := [.int a, .int b, v]) (rest := []) X mi_J3_checkIndex_8e157 (gt_mem (i := 606) (by decide +kernel) (by decide +kernel)) (gt_mem (i := 605) (by decide +kernel) (by decide +kernel)) (ct_check3 z w ad n m a b v h0 h1 hv) rfl rfl (Nat.le_of_ble_eq_true rfl) ⟨rfl, rfl, by decide, by decide, Nat.le_refl _, Nat.le_refl _⟩ dJ0_checkIndex_df160_5 ?_
  refine g_pop (pc := 8) X dJ0_checkIndex_df160_8 rfl ?_
  exact hret _ _ dJ0_checkIndex_df160_9
set_option maxHeartbeats 4000000 in
theorem ct_charAt1 (z : Zx) (w : Px) (ad : Nat → Nat) (n i : Nat) (k : Int32) (m : Mem) (hi : i < 24) (hk : inb k (lenS.getD i 0) = true) : CtI z w yJ1_charAt_3b067 cJ1_charAt_3b067 2 (some .char) (Rm 4) ad n [.ref (z.2.2.2.2 i), .int k] m m ((bytS.getD i []).getD k.toNatClampNeg 0) := by
  refine ct_ofI (own := RJ1) mi_J1_charAt_3b067 rfl (Nat.le_of_ble_eq_true rfl) (fun x X hret => ?_)
  refine g_lv [(0, .ref (z.2.2.2.2 i)), (1, .int k)] [0, 1] rfl ?_
  refine g_iload_n (pc := 0) X dJ1_charAt_3b067_0 rfl 1 rfl ?_
  refine g_aload_n (pc := 1) X dJ1_charAt_3b067_1 rfl 0 rfl ?_
  refine g_stlen (pc := 2) X hi dJ1_charAt_3b067_2 ?_
  refine g_callSV (pc := 3) (As := [.int k, .int (Int32.ofNat (lenS.getD i 0))]) (rest := []) X mi_J0_checkIndex_df160 (gt_mem (i := 601) (by decide +kernel) (by decide +kernel)) (gt_mem (i := 600) (by decide +kernel) (by decide +kernel)) (ct_check2 z w ad n m k _ (inb_lt hk).2 (inb_lt2 hk (str_ltL i hi))) rfl rfl (Nat.le_of_ble_eq_true rfl) ⟨rfl, rfl, by decide, by decide, Nat.le_refl _, Nat.le_refl _⟩ dJ1_charAt_3b067_3 ?_
  refine g_aload_n (pc := 6) X dJ1_charAt_3b067_6 rfl 0 rfl ?_
  refine g_iload_n (pc := 7) X dJ1_charAt_3b067_7 rfl 1 rfl ?_
  refine g_stbald (pc := 8) X hi hk dJ1_charAt_3b067_8 ?_
  refine g_sipush (v := (255 : Int32)) (pc := 9) X dJ1_charAt_3b067_9 (by decide) ?_
  refine g_iand (pc := 12) X dJ1_charAt_3b067_12 ?_
  refine g_i2c (pc := 13) X dJ1_charAt_3b067_13 ?_
  rw [(str_byt i hi _ (inb_lt hk).1).1]
  exact hret _ _ (str_byt i hi _ (inb_lt hk).1).2 dJ1_charAt_3b067_14
set_option maxHeartbeats 4000000 in
theorem ct_charAt0 (z : Zx) (w : Px) (ad : Nat → Nat) (n i : Nat) (k : Int32) (m : Mem) (hi : i < 24) (hk : inb k (lenS.getD i 0) = true) : CtI z w yJ0_charAt_5068e cJ0_charAt_5068e 2 (some .char) (Rm 6) ad n [.ref (z.2.2.2.1 i), .int k] m m ((bytS.getD i []).getD k.toNatClampNeg 0) := by
  refine ct_ofI (own := RJ0) mi_J0_charAt_5068e rfl (Nat.le_of_ble_eq_true rfl) (fun x X hret => ?_)
  refine g_lv [(0, .ref (z.2.2.2.1 i)), (1, .int k)] [0, 1] rfl ?_
  refine g_aload_n (pc := 0) X dJ0_charAt_5068e_0 rfl 0 rfl ?_
  refine g_callStr (pc := 1) (As := []) (rest := []) X mi_J0_isLatin1_aae02 rfl (gt_mem (i := 594) (by decide +kernel) (by decide +kernel)) (gt_mem (i := 595) (by decide +kernel) (by decide +kernel)) hi (gt_mem (i := 593) (by decide +kernel) (by decide +kernel)) (ct_isLatin1 z w ad n i m hi) rfl rfl (Nat.le_of_ble_eq_true rfl) ⟨rfl, rfl, by decide, by decide, Nat.le_refl _, Nat.le_refl _⟩ dJ0_charAt_5068e_1 ?_
  refine g_if_eq (pc := 4) (tgt := 16) X dJ0_charAt_5068e_4 (by decide) (fun hc => absurd hc (by decide)) (fun hc => ?_)
  refine g_aload_n (pc := 7) X dJ0_charAt_5068e_7 rfl 0 rfl ?_
  refine g_sval (pc := 8) X hi (gt_mem (i := 1702) (by decide +kernel) (by decide +kernel)) dJ0_charAt_5068e_8 ?_
  refine g_iload_n (pc := 11) X dJ0_charAt_5068e_11 rfl 1 rfl ?_
  refine g_callSI (pc := 12) (As := [.ref (z.2.2.2.2 i), .int k]) (rest := []) X mi_J1_charAt_3b067 (gt_mem (i := 598) (by decide +kernel) (by decide +kernel)) (gt_mem (i := 597) (by decide +kernel) (by decide +kernel)) (ct_charAt1 z w ad n i k m hi hk) rfl rfl (Nat.le_of_ble_eq_true rfl) ⟨rfl, rfl, by decide, by decide, Nat.le_refl _, Nat.le_refl _⟩ dJ0_charAt_5068e_12 ?_
  exact hret _ _ (str_byt i hi _ (inb_lt hk).1).2 dJ0_charAt_5068e_15
section
variable {z : Zx} {w : Px} {x : Cx} {nL : Nat} {ad : Nat → Nat} {n : Nat} {mm : Mem} {pc : Nat} {lv : List (Nat × Value)} {st : List Value} {cc : ByteArray} {rm : Room}
theorem g_strlen_8 (X : OK z x cc RX8 nL rm) {i : Nat} (hi : i < 24) (hf : 7 ≤ rm.frames ∧ 309 ≤ rm.locals) (hcat : (st.map fun v => v.category).sum ≤ 8) (hd : decode cc pc = .ok (.invokevirtual 51, 3)) (kk : G z w x nL 0 0 ad n mm (pc + 3) lv (.int (Int32.ofNat (lenS.getD i 0)) :: st)) : G z w x nL 0 0 ad n mm pc lv (.ref (z.2.2.2.1 i) :: st) :=
  g_callStr (As := []) (rest := st) X mi_J0_length_8abf5 rfl (gt_mem (i := 580) (by decide +kernel) (by decide +kernel)) (gt_mem (i := 581) (by decide +kernel) (by decide +kernel)) hi (gt_mem (i := 579) (by decide +kernel) (by decide +kernel)) (ct_length z w ad n i mm hi) rfl rfl hcat ⟨rfl, rfl, hf.1, by have := hf.2; show 8 + (1 + 11) + 48 * 6 ≤ _; omega, Nat.zero_le _, Nat.zero_le _⟩ hd kk
theorem g_strch_8 (X : OK z x cc RX8 nL rm) {i : Nat} {k : Int32} (hi : i < 24) (hk : inb k (lenS.getD i 0) = true) (hf : 7 ≤ rm.frames ∧ 309 ≤ rm.locals) (hcat : (st.map fun v => v.category).sum ≤ 8) (hd : decode cc pc = .ok (.invokevirtual 56, 3)) (kk : G z w x nL 0 0 ad n mm (pc + 3) lv (.int ((bytS.getD i []).getD k.toNatClampNeg 0) :: st)) : G z w x nL 0 0 ad n mm pc lv (.int k :: .ref (z.2.2.2.1 i) :: st) :=
  g_callStr (As := [.int k]) (rest := st) X mi_J0_charAt_5068e rfl (gt_mem (i := 590) (by decide +kernel) (by decide +kernel)) (gt_mem (i := 591) (by decide +kernel) (by decide +kernel)) hi (gt_mem (i := 589) (by decide +kernel) (by decide +kernel)) (ct_charAt0 z w ad n i k mm hi hk) rfl rfl hcat ⟨rfl, rfl, hf.1, by have := hf.2; show 8 + (2 + 11) + 48 * 6 ≤ _; omega, Nat.zero_le _, Nat.zero_le _⟩ hd kk
end
