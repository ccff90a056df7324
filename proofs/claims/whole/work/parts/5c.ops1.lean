theorem gp_tt {β : Type} {k : Option β} {i : Decidable True} : @gp β True i k = k := if_pos trivial
theorem clL : (0 : Int32).toNatClampNeg = 0 ∧ (1 : Int32).toNatClampNeg = 1 ∧ (2 : Int32).toNatClampNeg = 2 ∧ (3 : Int32).toNatClampNeg = 3 ∧ (4 : Int32).toNatClampNeg = 4 ∧ (5 : Int32).toNatClampNeg = 5 ∧ (6 : Int32).toNatClampNeg = 6 ∧ (7 : Int32).toNatClampNeg = 7 ∧ (8 : Int32).toNatClampNeg = 8 ∧ (9 : Int32).toNatClampNeg = 9 ∧ (10 : Int32).toNatClampNeg = 10 ∧ (11 : Int32).toNatClampNeg = 11 := by decide
theorem inL : inb 0 206 = true ∧ inb 1 206 = true ∧ inb 2 206 = true ∧ inb 3 206 = true ∧ inb 4 206 = true ∧ inb 5 206 = true ∧ inb 6 206 = true ∧ inb 7 206 = true ∧ inb 8 206 = true ∧ inb 9 206 = true ∧ inb 10 206 = true ∧ inb 11 206 = true ∧ inb 0 8 = true ∧ inb 1 8 = true ∧ inb 2 8 = true ∧ inb 3 8 = true ∧ inb 4 8 = true ∧ inb 5 8 = true ∧ inb 6 8 = true ∧ inb 7 8 = true := by decide
/-- of the reference's memory only 'thrown' was cleared -/
theorem th_1 (mm : Mem) : (uI mm 0 0 0).1 4 = mm.1 4 ∧ (uI mm 0 0 0).1 6 = mm.1 6 ∧ (uI mm 0 0 0).1 1 = mm.1 1 ∧ (uI mm 0 0 0).1 2 = mm.1 2 ∧ (uI mm 0 0 0).1 3 = mm.1 3 ∧ (uI mm 0 0 0).1 7 = mm.1 7 ∧ (uI mm 0 0 0).1 13 = mm.1 13 ∧ (uI mm 0 0 0).1 14 = mm.1 14 ∧ (uI mm 0 0 0).1 15 = mm.1 15 ∧ (uI mm 0 0 0).1 16 = mm.1 16 ∧ (uI mm 0 0 0).1 0 1 = mm.1 0 1 ∧ (uI mm 0 0 0).1 0 7 = mm.1 0 7 ∧ (uI mm 0 0 0).1 0 10 = mm.1 0 10 ∧ (uI mm 0 0 0).1 0 11 = mm.1 0 11 ∧ (uI mm 0 0 0).1 0 30 = mm.1 0 30 ∧ (uI mm 0 0 0).2 = mm.2 := ⟨rfl, rfl, rfl, rfl, rfl, rfl, rfl, rfl, rfl, rfl, rfl, rfl, rfl, rfl, rfl, rfl⟩
theorem op6 : Op6 Rel := by
  intro mc mm h
  obtain ⟨hM, w, s, d, hC, hws, hRows, hTape, hMisc, hW, hS, hImg, hTr⟩ := id h
  refine ⟨mc.1 0 8, uI mm 0 0 0, rfl, ?_, h.thrown⟩
  rw [hMisc.1]
  rfl
theorem op38 : Op38 Rel := by
  intro mc mm h
  obtain ⟨hM, w, s, d, hC, hws, hRows, hTape, hMisc, hW, hS, hImg, hTr⟩ := id h
  refine ⟨mc.1 0 9, uI mm 0 0 0, rfl, ?_, h.thrown⟩
  rw [hMisc.2]
  rfl
theorem iw_ne0 {v lo hi : Int32} (h : ¬ iw v lo hi = 0) : lo ≤ v ∧ v ≤ hi := by
  rw [iw_0] at h
  exact ⟨Int32.not_lt.mp (fun q => h (Or.inl q)), Int32.not_lt.mp (fun q => h (Or.inr q))⟩
theorem op17 : Op17 Rel := by
  intro mc mm h v1 v2 v3
  simp only [fX11_thought, fX12_thought, isWithin_e, in_m999_999, in_m99_99, in_1_60, bnd_s, lt1_e, km_s, eq_self, gp_tt]
  by_cases h1 : iw v1 (-999) 999 = 0
  · exact ⟨_, _, if_pos h1, if_pos h1, h.thrown⟩
  by_cases h2 : iw v2 (-99) 99 = 0
  · exact ⟨_, _, (if_neg h1).trans (if_pos h2), (if_neg h1).trans (if_pos h2), h.thrown⟩
  by_cases h3 : iw v3 1 60 = 0
  · exact ⟨_, _, (if_neg h1).trans ((if_neg h2).trans (if_pos h3)), (if_neg h1).trans ((if_neg h2).trans (if_pos h3)), h.thrown⟩
  have h4 : ¬ v3 = 0 := by
    intro q
    have := (iw_ne0 h3).1
    rw [q] at this
    exact absurd this (by decide)
  exact ⟨_, _, (if_neg h1).trans ((if_neg h2).trans ((if_neg h3).trans (gp_pos h4))), (if_neg h1).trans ((if_neg h2).trans ((if_neg h3).trans (gp_pos h4))), h.thrown⟩
theorem op21 : Op21 Rel := by
  intro mc mm h v1 v2 v3 v4 v5
  simp only [fX11_bang, fX12_bang, fX11_bang_124, fX11_bang_123, fX12_bang_125, isWithin_e, in_0_99, in_0_50, in_1_999, in_0_999, in_0_2, in_30_190, bnd_s, lt1_e, km_s, eq_self, gp_tt]
  by_cases h1 : iw v1 0 99 = 0
  · exact ⟨_, _, if_pos h1, if_pos h1, h.thrown⟩
  rw [if_neg h1, if_neg h1]
  by_cases h2 : iw v2 0 50 = 0
  · exact ⟨_, _, if_pos h2, if_pos h2, h.thrown⟩
  rw [if_neg h2, if_neg h2]
  by_cases h3 : iw v3 1 999 = 0
  · exact ⟨_, _, if_pos h3, if_pos h3, h.thrown⟩
  rw [if_neg h3, if_neg h3]
  by_cases h5 : iw v4 0 999 = 0
  · exact ⟨_, _, if_pos h5, if_pos h5, h.thrown⟩
  rw [if_neg h5, if_neg h5]
  by_cases h6 : iw v5 0 2 = 0
  · exact ⟨_, _, if_pos h6, if_pos h6, h.thrown⟩
  rw [if_neg h6, if_neg h6]
  have h4 : ¬ v3 = 0 := by
    intro q
    have := (iw_ne0 h3).1
    rw [q] at this
    exact absurd this (by decide)
  rw [gp_pos h4, gp_pos h4]
  by_cases h7 : v5 = 0
  · exact ⟨_, _, if_pos h7, if_pos h7, h.thrown⟩
  rw [if_neg h7, if_neg h7]
  by_cases h8 : iw (v1 * v2 * 10 / v3) 30 190 = 0
  · simp only [if_pos h8, if_true]
    by_cases h9 : v5 = 1
    · exact ⟨_, _, if_pos h9, rfl, h.thrown⟩
    · exact ⟨_, _, if_neg h9, rfl, h.thrown⟩
  · simp only [if_neg h8]
    by_cases h9 : v5 = 1
    · exact ⟨_, _, if_pos h9, if_pos h9, h.thrown⟩
    · simp only [if_neg h9, if_true]
      by_cases h10 : v4 < v1 * v2
      · exact ⟨_, _, if_pos h10, if_pos h10, h.thrown⟩
      · exact ⟨_, _, (if_neg h10).trans (if_neg (by decide)), if_neg h10, h.thrown⟩
