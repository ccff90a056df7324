theorem at16 : ∀ y, y < 8 → ∀ x, x < 16 → ((16 : Int32) * nI y + nI x) - ((16 : Int32) * nI y + nI x) / 16 * 16 = nI x ∧ ((16 : Int32) * nI y + nI x) / 16 = nI y := by decide +kernel
theorem op11 : Op11 Rel := by
  intro mc mm h v1
  obtain ⟨hM, w, s, d, hC, hws, hRows, hTape, hMisc, hW, hS, hImg, hTr⟩ := id h
  obtain ⟨u0, u1, u2, u3, u4, u5, u6, u7, u8⟩ := hW.2.2.2.2.1
  simp only [fX11_ship, fX12_ship, fX4_isSunk, in_0_6, bnd_s, lt1_e, km_s, kc_s, rc_s hC, rc_w hC hws.w, kc_w hws.w, rm_s hM, th_1, eq_self, gp_tt, clL, inL, u0, u1, u2, u3, u4, u5, u6, u7, u8, gp_pos (show ¬ (16 : Int32) = 0 by decide)]
  by_cases h0 : mm.1 6 0 = 0
  · exact ⟨_, _, if_pos h0, if_pos h0, h.thrown⟩
  simp only [if_neg h0]
  have a0 : mm.1 6 0 = 1 := by
    rcases hS.2.2.2.1 with q | q
    · exact absurd q.1 h0
    · exact q
  obtain ⟨-, x, y, v, hx, hy, hv, g1, g2, g3, g5, g6⟩ := hS.2.2.2.2.1 a0
  obtain ⟨-, b6⟩ := sea_nI hS.2.1 (j := 6) (by decide)
  obtain ⟨-, b7⟩ := sea_nI hS.2.1 (j := 7) (by decide)
  obtain ⟨e11, b11⟩ := sea_nI hS.2.1 (j := 11) (by decide)
  have b6 : sv (mm.1 4) 6 ≤ 16 := b6
  have b7 : sv (mm.1 4) 7 ≤ 8 := b7
  have b11 : sv (mm.1 4) 11 ≤ 200 := b11
  obtain ⟨q1, q2⟩ := at16 y (by omega) x (by omega)
  by_cases h1 : iw v1 0 6 = 0
  · have q : ∀ z : Int32, iw z 0 6 ≠ 0 → v1 ≠ z := fun z hz e => hz (e ▸ h1)
    rw [if_neg (q 0 (by decide)), if_neg (q 1 (by decide)), if_neg (q 2 (by decide)), if_neg (q 3 (by decide)), if_neg (q 4 (by decide)), if_neg (q 5 (by decide)), if_neg (q 6 (by decide)), if_pos h1]
    exact ⟨_, _, rfl, rfl, h.thrown⟩
  rw [if_neg h1]
  obtain ⟨c, hc, rfl⟩ := iw_nI h1 (n := 6) rfl
  rcases (by omega : c = 0 ∨ c = 1 ∨ c = 2 ∨ c = 3 ∨ c = 4 ∨ c = 5 ∨ c = 6) with rfl | rfl | rfl | rfl | rfl | rfl | rfl
  · rw [if_pos (by decide), g1, g2, q1]
    refine ⟨_, _, rfl, ?_, h.thrown⟩
    rw [gp_pos (by decide), show ((1 : Int32) + nI 0).toNatClampNeg = 1 by decide, g1]
  · rw [if_neg (by decide), if_pos (by decide), g1, g2, q2]
    refine ⟨_, _, rfl, ?_, h.thrown⟩
    rw [gp_pos (by decide), show ((1 : Int32) + nI 1).toNatClampNeg = 2 by decide, g2]
  · rw [if_neg (by decide), if_neg (by decide), if_pos (by decide)]
    refine ⟨_, _, rfl, ?_, h.thrown⟩
    rw [gp_pos (by decide), show ((1 : Int32) + nI 2).toNatClampNeg = 3 by decide]
  · rw [if_neg (by decide), if_neg (by decide), if_neg (by decide), if_pos (by decide)]
    refine ⟨_, _, rfl, ?_, h.thrown⟩
    rw [gp_pos (by decide), show ((1 : Int32) + nI 3).toNatClampNeg = 4 by decide]
  · rw [if_neg (by decide), if_neg (by decide), if_neg (by decide), if_neg (by decide), if_pos (by decide)]
    rcases g5 with g5 | g5
    · rw [g5, if_pos rfl]
      refine ⟨_, _, rfl, ?_, h.thrown⟩
      rw [gp_pos (by decide), show ((1 : Int32) + nI 4).toNatClampNeg = 5 by decide, g5]
      rfl
    · rw [g5, if_neg (by decide)]
      refine ⟨_, _, rfl, ?_, h.thrown⟩
      rw [gp_pos (by decide), show ((1 : Int32) + nI 4).toNatClampNeg = 5 by decide, g5]
      rfl
  · rw [if_neg (by decide), if_neg (by decide), if_neg (by decide), if_neg (by decide), if_neg (by decide), if_pos (by decide), g3, e11]
    rw [gp_pos (by decide), show ((1 : Int32) + nI 5).toNatClampNeg = 6 by decide, g6]
    by_cases q : v = sv (mm.1 4) 11
    · rw [if_neg (show ¬ nI v < nI (sv (mm.1 4) 11) by rw [q]; exact Int32.lt_irrefl), bnd_s, if_neg (by decide), if_pos q]
      exact ⟨_, _, rfl, rfl, h.thrown⟩
    · rw [if_pos (show nI v < nI (sv (mm.1 4) 11) from Int32.not_le.mp (nI_ge (by omega) (by omega))), bnd_s, if_pos rfl, if_neg q]
      exact ⟨_, _, rfl, rfl, h.thrown⟩
  · rw [if_neg (by decide), if_neg (by decide), if_neg (by decide), if_neg (by decide), if_neg (by decide), if_neg (by decide), if_pos (by decide)]
    refine ⟨_, _, rfl, ?_, h.thrown⟩
    rw [gp_pos (by decide), show ((1 : Int32) + nI 6).toNatClampNeg = 7 by decide]
