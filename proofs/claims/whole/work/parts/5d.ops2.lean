theorem iw_nI {v : Int32} {hi : Int32} {n : Nat} (h : ¬ iw v 0 hi = 0) (hh : hi.toInt = n) : ∃ k, k ≤ n ∧ v = nI k := by
  obtain ⟨h1, h2⟩ := iw_ne0 h
  exact nI_of2 hh (Int32.not_lt.mpr h1) h2
theorem WR.hull {cI cI2 : Nat → Nat → Int32} {b : Nat} {sea now now2 : Nat → Int32} {there : Int32} (h : WR cI b sea now there) (h1 : ∀ a, b ≤ a → a ≤ b + 14 → a ≠ b + 5 → cI2 a = cI a) (h2 : cI2 (b + 5) 0 = now2 7 ∧ cI2 (b + 5) 1 = sea 9 ∧ cI2 (b + 5) 2 = sea 11 ∧ cI2 (b + 5) 3 = now2 0 ∧ cI2 (b + 5) 4 = 16 * now2 2 + now2 1 ∧ cI2 (b + 5) 5 = now2 3 ∧ cI2 (b + 5) 6 = now2 4 ∧ cI2 (b + 5) 7 = now2 5 ∧ cI2 (b + 5) 8 = sea 10) : WR cI2 b sea now2 there := by
  unfold WR at h ⊢
  rw [h1 b (by omega) (by omega) (by omega), h1 (b + 1) (by omega) (by omega) (by omega), h1 (b + 2) (by omega) (by omega) (by omega), h1 (b + 3) (by omega) (by omega) (by omega), h1 (b + 4) (by omega) (by omega) (by omega), h1 (b + 6) (by omega) (by omega) (by omega), h1 (b + 7) (by omega) (by omega) (by omega), h1 (b + 8) (by omega) (by omega) (by omega), h1 (b + 9) (by omega) (by omega) (by omega), h1 (b + 10) (by omega) (by omega) (by omega), h1 (b + 11) (by omega) (by omega) (by omega), h1 (b + 12) (by omega) (by omega) (by omega), h1 (b + 13) (by omega) (by omega) (by omega), h1 (b + 14) (by omega) (by omega) (by omega)]
  exact ⟨h.1, h.2.1, h.2.2.1, h.2.2.2.1, h2, h.2.2.2.2.2⟩
def MfreeW (mI mI2 : Nat → Nat → Int32) : Prop := (mI2 1 = mI 1 ∧ mI2 2 = mI 2 ∧ mI2 3 = mI 3 ∧ mI2 7 = mI 7 ∧ mI2 13 = mI 13 ∧ mI2 14 = mI 14 ∧ mI2 15 = mI 15 ∧ mI2 16 = mI 16) ∧ mI2 0 1 = mI 0 1 ∧ mI2 0 10 = mI 0 10 ∧ mI2 0 11 = mI 0 11 ∧ mI2 0 30 = mI 0 30
/-- the standing world alone has changed -/
theorem rel_world {mc mm mc2 mm2 : Mem} {w s : Nat} {d : Bool} (a1 : RMok mm) (a2 : RCok mc w s d) (a3 : WS w s) (a4 : RowsR mc.1 mm.1) (a5 : TapeR mc.1 mm.1) (a6 : MiscR mc.1 mm.1) (a9 : ∀ k, k < 2 → ImgR mc.1 mm.1 k) (a10 : TraceR mc.1 mm.1) (h1 : mc2.2.2 = mc.2.2) (h2 : mm2.2.2 = mm.2.2) (h3 : ∀ a, ¬ (w ≤ a ∧ a ≤ w + 14) → mc2.1 a = mc.1 a) (h4 : MfreeW mm.1 mm2.1) (h5 : WR mc2.1 w (mm2.1 4) (mm2.1 6) (mm2.1 0 7)) (h6 : Sok (mm2.1 4) (mm2.1 6) (mm2.1 0 7)) (h7 : mm.1 0 7 = 1 → mm2.1 0 7 = 1) : Rel mc2 mm2 := by
  obtain ⟨⟨e1, e2, e3, e7, e13, e14, e15, e16⟩, f1, f10, f11, f30⟩ := h4
  have hw : w = 15 ∨ w = 30 := by rcases a3 with ⟨h, -⟩ | ⟨h, -⟩ <;> omega
  have o : ∀ a, (a < 15 ∨ 45 ≤ a) → mc2.1 a = mc.1 a := fun a ha => h3 a (by omega)
  refine ⟨fun k hk => by rw [h2]; exact a1 k hk, w, s, d, fun a ha k hk => by rw [h1]; exact a2 a ha k hk, a3, a4.c (fun a q _ => o a (by omega)) e1 e2 e3, a5.c (by rw [o 2 (by omega)]) (o 3 (by omega)) f10 e7, a6.c (by rw [o 0 (by omega)]) (by rw [o 0 (by omega)]) f11 f1, h5, h6, fun k hk => (a9 k hk).c (fun a q _ => o a (by omega)) (by rw [e13]) e14 e15 h7, a10.c (by rw [o 13 (by omega)]) (o 14 (by omega)) f30 e16⟩
theorem op8 : Op8 Rel := by
  intro mc mm h v1
  obtain ⟨hM, w, s, d, hC, hws, hRows, hTape, hMisc, hW, hS, hImg, hTr⟩ := id h
  simp only [fX11_head, fX12_head, isWithin_e, isHead_e, bnd_s, lt1_e, km_s, kc_s, rc_s hC, rc_w hC hws.w, kc_w hws.w, rm_s hM, th_1, eq_self, gp_tt, clL, inL, hW.1]
  by_cases h1 : mm.1 0 7 = 0
  · exact ⟨_, _, _, if_pos h1, if_pos h1, h.thrown⟩
  simp only [if_neg h1]
  by_cases h2 : iw v1 0 7 = 0
  · exact ⟨_, _, _, if_pos h2, if_pos h2, h.thrown⟩
  simp only [if_neg h2]
  obtain ⟨k, hk, rfl⟩ := iw_nI h2 (n := 7) rfl
  refine ⟨_, _, _, rfl, by rw [hW.2.2.2.2.1.1], ?_⟩
  refine rel_world hM hC hws hRows hTape hMisc hImg hTr rfl rfl (fun a ha => uI_o (by omega)) ⟨⟨rfl, rfl, rfl, rfl, rfl, rfl, rfl, rfl⟩, rfl, rfl, rfl, rfl⟩ ?_ ?_ (fun q => q)
  · refine hW.hull (fun a _ _ ha => uI_o ha) ?_
    obtain ⟨-, -, -, -, ⟨g0, g1, g2, g3, g4, g5, g6, g7, g8⟩, -⟩ := hW
    simp [uI_1, g1, g2, g3, g4, g5, g6, g7, g8]
  · obtain ⟨s1, s2, s3, s4, s5, s6, s7⟩ := hS
    exact ⟨s1, s2, ⟨k, by omega, rfl⟩, s4, s5, s6, s7⟩
theorem sea_nI {sea : Nat → Int32} (h : SeaB sea) {j : Nat} (hj : j < 206) : sea j = nI (sv sea j) ∧ sv sea j ≤ sbL.getD j 0 := by
  obtain ⟨k, hk, e⟩ := h j hj
  have hb : ∀ j, j < 206 → sbL.getD j 0 ≤ 1023 := by decide +kernel
  have := hb j hj
  have e2 : sv sea j = k := by unfold sv; rw [e, nI_clamp (by omega)]
  rw [e2]
  exact ⟨e, hk⟩
theorem isTold_e (a b : Int32) : fX11_isTold a b = some (if iw a 0 200 = 0 then 0 else if iw b 0 50 = 0 then 0 else 1) := by
  simp only [fX11_isTold, isWithin_e, bnd_s]
  split
  · rfl
  · split <;> rfl
theorem isRod_e (a b : Int32) : fX12_isRod a b = some (if iw a 0 200 = 0 then 0 else if iw b 0 50 = 0 then 0 else 1) := by
  simp only [fX12_isRod, in_0_200, in_0_50, bnd_s]
  split
  · rfl
  · split <;> rfl
def hld (deep v : Int32) : Int32 := if v < 0 then 0 else if deep < v then deep else v
theorem held_c {m : Mem} {b : Nat} (hb : WI b) (v : Int32) (hd : 0 ≤ m.1 (b + 5) 2) : fX4_held (b + 5) v m = some (hld (m.1 (b + 5) 2) v) := by
  simp only [fX4_held, kc_w hb, eq_self, gp_tt, hld]
  generalize m.1 (b + 5) 2 = dp at hd ⊢
  congr 1
  simp only [Int32.lt_iff_toInt_lt, Int32.le_iff_toInt_le] at *
  by_cases h1 : v.toInt < dp.toInt
  · rw [if_pos h1]
    by_cases h2 : v.toInt < (0 : Int32).toInt
    · rw [if_pos h2, if_neg (by omega)]
    · rw [if_neg h2, if_neg (show ¬ dp.toInt < v.toInt by omega)]
      by_cases h3 : (0 : Int32).toInt < v.toInt
      · rw [if_pos h3]
      · rw [if_neg h3]
        apply Int32.toInt_inj.mp
        omega
  · rw [if_neg h1]
    by_cases h2 : v.toInt < (0 : Int32).toInt
    · omega
    · rw [if_neg h2]
      by_cases h3 : (0 : Int32).toInt < dp.toInt
      · rw [if_pos h3]
        by_cases h4 : dp.toInt < v.toInt
        · rw [if_pos h4]
        · rw [if_neg h4]
          apply Int32.toInt_inj.mp
          omega
      · rw [if_neg h3]
        by_cases h4 : dp.toInt < v.toInt
        · rw [if_pos h4]
          apply Int32.toInt_inj.mp
          omega
        · rw [if_neg h4]
          apply Int32.toInt_inj.mp
          omega
theorem held_m {m : Mem} (hM : RMok m) (v : Int32) : fX12_held 0 v m = some (hld (m.1 4 11) v) := by
  simp only [fX12_held, km_s, rm_s hM, bnd_s, eq_self, gp_tt, clL, inL, hld]
  by_cases h1 : v < 0
  · rw [if_pos h1, if_neg (Int32.not_le.mpr h1)]
  · rw [if_neg h1, if_pos (Int32.not_lt.mp h1)]
    by_cases h2 : m.1 4 11 < v
    · rw [if_pos h2, if_neg (Int32.not_le.mpr h2)]
    · rw [if_neg h2, if_pos (Int32.not_lt.mp h2)]
theorem RMok.th {m : Mem} (h : RMok m) : RMok (uI m 0 0 0) := h
theorem sea_0le {sea : Nat → Int32} (h : SeaB sea) {j : Nat} (hj : j < 206) : 0 ≤ sea j := by
  obtain ⟨e, hk⟩ := sea_nI h hj
  have hb : ∀ j, j < 206 → sbL.getD j 0 ≤ 1023 := by decide +kernel
  have := hb j hj
  rw [e]
  exact nI_pos' (by omega)
theorem rod_c {m : Mem} {b : Nat} (hb : WI b) (v s what : Int32) (hd : 0 ≤ m.1 (b + 5) 2) : fX4_waterByRod (b + 5) v s what m = some (if what = 0 then hld (m.1 (b + 5) 2) (v - s) else hld (m.1 (b + 5) 2) (v + s)) := by
  simp only [fX4_waterByRod, fX4_waterByRod_14, kc_w hb, eq_self, gp_tt, held_c hb _ hd, bnd_s]
  split <;> rfl
theorem op18 : Op18 Rel := by
  intro mc mm h v1 v2 v3
  obtain ⟨hM, w, s, d, hC, hws, hRows, hTape, hMisc, hW, hS, hImg, hTr⟩ := id h
  have hd : 0 ≤ mc.1 (w + 5) 2 := by rw [hW.2.2.2.2.1.2.2.1]; exact sea_0le hS.2.1 (by decide)
  simp only [fX11_seemed, fX12_seemed, fX12_seemed_48, isWithin_e, in_0_1, isTold_e, isRod_e, bnd_s, lt1_e, km_s, kc_s, rc_s hC, rc_w hC hws.w, kc_w hws.w, rm_s hM, th_1, eq_self, gp_tt, clL, inL, hW.1, rod_c hws.w _ _ _ hd, held_m hM.th, hW.2.2.2.2.1.2.2.1]
  by_cases h1 : mm.1 0 7 = 0
  · exact ⟨_, _, if_pos h1, if_pos h1, h.thrown⟩
  simp only [if_neg h1]
  by_cases h2 : (if iw v1 0 200 = 0 then (0 : Int32) else if iw v2 0 50 = 0 then 0 else 1) = 0
  · exact ⟨_, _, if_pos h2, if_pos h2, h.thrown⟩
  simp only [if_neg h2]
  by_cases h3 : iw v3 0 1 = 0
  · exact ⟨_, _, if_pos h3, if_pos h3, h.thrown⟩
  simp only [if_neg h3]
  by_cases h4 : v3 = 0
  · simp only [if_pos h4]
    exact ⟨_, _, rfl, rfl, h.thrown⟩
  · simp only [if_neg h4]
    exact ⟨_, _, rfl, rfl, h.thrown⟩
theorem op19 : Op19 Rel := by
  intro mc mm h v1
  obtain ⟨hM, w, s, d, hC, hws, hRows, hTape, hMisc, hW, hS, hImg, hTr⟩ := id h
  simp only [fX11_deep, fX12_deep, fX4_hoursToDeep, isWithin_e, in_0_200, bnd_s, lt1_e, km_s, kc_s, rc_s hC, rc_w hC hws.w, kc_w hws.w, rm_s hM, th_1, eq_self, gp_tt, clL, inL, hW.1, hW.2.2.2.2.1.2.2.1, hW.2.2.2.2.1.2.1]
  by_cases h1 : mm.1 0 7 = 0
  · exact ⟨_, _, if_pos h1, if_pos h1, h.thrown⟩
  simp only [if_neg h1]
  by_cases h2 : iw v1 0 200 = 0
  · exact ⟨_, _, if_pos h2, if_pos h2, h.thrown⟩
  simp only [if_neg h2]
  by_cases h3 : v1 < mm.1 4 11
  · simp only [if_pos h3]
    by_cases h4 : mm.1 4 9 = 0
    · have h5 : ¬ (0 : Int32) < mm.1 4 9 := by rw [h4]; decide
      simp only [if_neg h5, if_pos h4, bnd_s]
      exact ⟨_, _, rfl, rfl, h.thrown⟩
    · have h5 : (0 : Int32) < mm.1 4 9 := by
        have := sea_0le hS.2.1 (j := 9) (by decide)
        rw [Int32.lt_iff_toInt_lt]
        rw [Int32.le_iff_toInt_le] at this
        have h6 : ¬ (mm.1 4 9).toInt = (0 : Int32).toInt := fun q => h4 (Int32.toInt_inj.mp q)
        omega
      simp only [if_pos h5, if_neg h4, gp_pos h4, bnd_s]
      exact ⟨_, _, rfl, rfl, h.thrown⟩
  · simp only [if_neg h3, bnd_s]
    exact ⟨_, _, rfl, rfl, h.thrown⟩
theorem op20 : Op20 Rel := by
  intro mc mm h v1 v2 v3 v4
  obtain ⟨hM, w, s, d, hC, hws, hRows, hTape, hMisc, hW, hS, hImg, hTr⟩ := id h
  have hd : 0 ≤ mc.1 (w + 5) 2 := by rw [hW.2.2.2.2.1.2.2.1]; exact sea_0le hS.2.1 (by decide)
  have fin : ∀ z : Int32, (if (0 : Int32) < z then z else 0).toInt64 = if 0 ≤ z then z.toInt64 else 0 := by
    intro z
    by_cases h1 : (0 : Int32) < z
    · rw [if_pos h1, if_pos (Int32.le_of_lt h1)]
    · rw [if_neg h1]
      by_cases h2 : 0 ≤ z
      · rw [if_pos h2]
        have : z = 0 := Int32.le_antisymm (Int32.not_lt.mp h1) h2
        rw [this]
      · rw [if_neg h2]; rfl
  simp only [fX11_was, fX12_was, fX12_was_66, isWithin_e, in_0_1, in_0_99, isTold_e, isRod_e, bnd_s, lt1_e, km_s, kc_s, rc_s hC, rc_w hC hws.w, kc_w hws.w, rm_s hM, th_1, eq_self, gp_tt, clL, inL, hW.1, rod_c hws.w _ _ _ hd, held_m hM.th, hW.2.2.2.2.1.2.2.1, hW.2.2.2.2.1.2.1]
  by_cases h1 : mm.1 0 7 = 0
  · exact ⟨_, _, if_pos h1, if_pos h1, h.thrown⟩
  simp only [if_neg h1]
  by_cases h2 : (if iw v1 0 200 = 0 then (0 : Int32) else if iw v2 0 50 = 0 then 0 else 1) = 0
  · exact ⟨_, _, if_pos h2, if_pos h2, h.thrown⟩
  simp only [if_neg h2]
  by_cases h3 : iw v3 0 99 = 0
  · exact ⟨_, _, if_pos h3, if_pos h3, h.thrown⟩
  simp only [if_neg h3]
  by_cases h4 : iw v4 0 1 = 0
  · exact ⟨_, _, if_pos h4, if_pos h4, h.thrown⟩
  simp only [if_neg h4]
  rw [Int32.mul_comm (mm.1 4 9) v3]
  by_cases h5 : v4 = 0
  · simp only [if_pos h5, fin]
    by_cases h6 : 0 ≤ hld (mm.1 4 11) (v1 - v2) - v3 * mm.1 4 9
    · exact ⟨_, _, by rw [if_pos h6], if_pos h6, h.thrown⟩
    · exact ⟨_, _, by rw [if_neg h6], if_neg h6, h.thrown⟩
  · simp only [if_neg h5, fin]
    by_cases h6 : 0 ≤ hld (mm.1 4 11) (v1 + v2) - v3 * mm.1 4 9
    · exact ⟨_, _, by rw [if_pos h6], if_pos h6, h.thrown⟩
    · exact ⟨_, _, by rw [if_neg h6], if_neg h6, h.thrown⟩
