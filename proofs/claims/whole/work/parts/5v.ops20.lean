theorem ltz : ((0 : Int32) < 0) = False ∧ ((8 : Int32) < 0) = False ∧ ((4 : Int32) < 0) = False ∧ ((10 : Int32) < 0) = False ∧ ((6 : Int32) < 0) = False := ⟨eq_false (by decide), eq_false (by decide), eq_false (by decide), eq_false (by decide), eq_false (by decide)⟩
theorem cpy0 {f g : Nat → Int32} {n k : Nat} (h : k < n) : va_cpy f g 0 0 n k = f k := by
  rw [pk_cpy_in (Nat.zero_le k) (by omega), Nat.zero_add, Nat.sub_zero]
theorem bec9 {m : Mem} {b c w s : Nat} {d : Bool} (hC : RCok m w s d) (hb : WI b) (hc : WI c) (hbc : c + 14 < b ∨ b + 14 < c) : ∃ m2, fX9_become (b + 1) (c + 1) m = some m2 ∧ m2.2 = m.2 ∧ (∀ a, a ≠ b + 1 → a ≠ b + 2 → a ≠ b + 3 → a ≠ b + 4 → m2.1 a = m.1 a) ∧ m2.1 (b + 1) 3 = m.1 (c + 1) 3 ∧ m2.1 (b + 1) 4 = m.1 (c + 1) 4 ∧ m2.1 (b + 1) 5 = m.1 (c + 1) 5 ∧ m2.1 (b + 1) 6 = m.1 (c + 1) 6 ∧ (∀ k, k < 8 → m2.1 (b + 2) k = m.1 (c + 2) k) ∧ (∀ k, k < 4 → m2.1 (b + 3) k = m.1 (c + 3) k) ∧ (∀ k, k < 4 → m2.1 (b + 4) k = m.1 (c + 4) k) := by
  simp only [fX9_become, kc_w hb, kc_w hc, nc_w hb, nc_w hc, rc_w hC hb, rc_w hC hc, uI_2, uX_2, eq_self, gp_tt, bnd_s, lt1_e, ltz, not_false_eq_true, clL, Nat.zero_add, Nat.le_refl]
  refine ⟨_, rfl, rfl, fun a h1 h2 h3 h4 => ?_, ?_, ?_, ?_, ?_, fun k hk => ?_, fun k hk => ?_, fun k hk => ?_⟩
  · rw [uX_1, if_neg h4, uX_1, if_neg h3, uX_1, if_neg h2, uI_o h1, uI_o h1, uI_o h1, uI_o h1]
  · rw [uX_1, if_neg (by omega), uX_1, if_neg (by omega), uX_1, if_neg (by omega), uI_1, if_neg (by omega), uI_1, if_neg (by omega), uI_1, if_neg (by omega), uI_1, if_pos ⟨rfl, rfl⟩]
  · rw [uX_1, if_neg (by omega), uX_1, if_neg (by omega), uX_1, if_neg (by omega), uI_1, if_neg (by omega), uI_1, if_neg (by omega), uI_1, if_pos ⟨rfl, rfl⟩, uI_o (by omega)]
  · rw [uX_1, if_neg (by omega), uX_1, if_neg (by omega), uX_1, if_neg (by omega), uI_1, if_neg (by omega), uI_1, if_pos ⟨rfl, rfl⟩, uI_o (by omega), uI_o (by omega)]
  · rw [uX_1, if_neg (by omega), uX_1, if_neg (by omega), uX_1, if_neg (by omega), uI_1, if_pos ⟨rfl, rfl⟩, uI_o (by omega), uI_o (by omega), uI_o (by omega)]
  · rw [uX_1, if_neg (by omega), uX_1, if_neg (by omega), uX_1, if_pos rfl, cpy0 hk, uI_o (by omega), uI_o (by omega), uI_o (by omega), uI_o (by omega)]
  · rw [uX_1, if_neg (by omega), uX_1, if_pos rfl, cpy0 hk, uX_1, if_neg (by omega), uI_o (by omega), uI_o (by omega), uI_o (by omega), uI_o (by omega)]
  · rw [uX_1, if_pos rfl, cpy0 hk, uX_1, if_neg (by omega), uX_1, if_neg (by omega), uI_o (by omega), uI_o (by omega), uI_o (by omega), uI_o (by omega)]
theorem bec4 {m : Mem} {b c : Nat} (hb : WI b) (hc : WI c) (hbc : c + 14 < b ∨ b + 14 < c) (z3 : zb (m.1 (c + 5) 3) = true) (z7 : zb (m.1 (c + 5) 7) = true) : ∃ m2, fX4_become (b + 5) (c + 5) m = some m2 ∧ m2.2 = m.2 ∧ (∀ a, a ≠ b + 5 → m2.1 a = m.1 a) ∧ (∀ k, k < 9 → m2.1 (b + 5) k = m.1 (c + 5) k) := by
  have o : c + 5 ≠ b + 5 := by omega
  simp only [fX4_become, fX4_build, fX4_launch, kc_w hb, kc_w hc, eq_self, gp_tt, bnd_s, lt1_e, uI_o o, z3, z7, gp_pos (show zb (1 : Int32) = true by decide), gp_pos (show zb (0 : Int32) = true by decide)]
  refine ⟨_, rfl, rfl, fun a h1 => ?_, fun k hk => ?_⟩
  · rw [uI_o h1, uI_o h1, uI_o h1, uI_o h1, uI_o h1, uI_o h1, uI_o h1, uI_o h1, uI_o h1, uI_o h1, uI_o h1, uI_o h1, uI_o h1, uI_o h1, uI_o h1]
  · rcases (by omega : k = 0 ∨ k = 1 ∨ k = 2 ∨ k = 3 ∨ k = 4 ∨ k = 5 ∨ k = 6 ∨ k = 7 ∨ k = 8) with rfl | rfl | rfl | rfl | rfl | rfl | rfl | rfl | rfl <;> simp [uI_1]
theorem bec2 {m : Mem} {b c w s : Nat} {d : Bool} (hC : RCok m w s d) (hb : WI b) (hc : WI c) (hbc : c + 14 < b ∨ b + 14 < c) : ∃ m2, fX2_become (b + 6) (c + 6) m = some m2 ∧ m2.2 = m.2 ∧ (∀ a, a ≠ b + 6 → a ≠ b + 7 → a ≠ b + 8 → m2.1 a = m.1 a) ∧ m2.1 (b + 6) 2 = m.1 (c + 6) 2 ∧ (∀ k, k < 10 → m2.1 (b + 7) k = m.1 (c + 7) k) ∧ (∀ k, k < 10 → m2.1 (b + 8) k = m.1 (c + 8) k) := by
  simp only [fX2_become, kc_w hb, kc_w hc, nc_w hb, nc_w hc, rc_w hC hb, rc_w hC hc, uI_2, uX_2, eq_self, gp_tt, bnd_s, lt1_e, ltz, not_false_eq_true, clL, Nat.zero_add, Nat.le_refl]
  refine ⟨_, rfl, rfl, fun a h1 h2 h3 => ?_, ?_, fun k hk => ?_, fun k hk => ?_⟩
  · rw [uX_1, if_neg h3, uX_1, if_neg h2, uI_o h1]
  · rw [uX_1, if_neg (by omega), uX_1, if_neg (by omega), uI_1, if_pos ⟨rfl, rfl⟩]
  · rw [uX_1, if_neg (by omega), uX_1, if_pos rfl, cpy0 hk, uI_o (by omega)]
  · rw [uX_1, if_pos rfl, cpy0 hk, uX_1, if_neg (by omega), uI_o (by omega)]
theorem bec1 {m : Mem} {b c w s : Nat} {d : Bool} (hC : RCok m w s d) (hb : WI b) (hc : WI c) (hbc : c + 14 < b ∨ b + 14 < c) : ∃ m2, fX1_become (b + 9) (c + 9) m = some m2 ∧ m2.2 = m.2 ∧ (∀ a, a ≠ b + 9 → a ≠ b + 10 → a ≠ b + 11 → a ≠ b + 12 → a ≠ b + 13 → a ≠ b + 14 → m2.1 a = m.1 a) ∧ m2.1 (b + 9) 5 = m.1 (c + 9) 5 ∧ m2.1 (b + 9) 6 = m.1 (c + 9) 6 ∧ (∀ k, k < 10 → m2.1 (b + 10) k = m.1 (c + 10) k) ∧ (∀ k, k < 10 → m2.1 (b + 11) k = m.1 (c + 11) k) ∧ (∀ k, k < 6 → m2.1 (b + 12) k = m.1 (c + 12) k) ∧ (∀ k, k < 6 → m2.1 (b + 13) k = m.1 (c + 13) k) ∧ (∀ k, k < 6 → m2.1 (b + 14) k = m.1 (c + 14) k) := by
  simp only [fX1_become, kc_w hb, kc_w hc, nc_w hb, nc_w hc, rc_w hC hb, rc_w hC hc, uI_2, uX_2, eq_self, gp_tt, bnd_s, lt1_e, ltz, not_false_eq_true, clL, Nat.zero_add, Nat.le_refl]
  refine ⟨_, rfl, rfl, fun a h1 h2 h3 h4 h5 h6 => ?_, ?_, ?_, fun k hk => ?_, fun k hk => ?_, fun k hk => ?_, fun k hk => ?_, fun k hk => ?_⟩
  · rw [uX_1, if_neg h6, uX_1, if_neg h5, uX_1, if_neg h4, uX_1, if_neg h3, uX_1, if_neg h2, uI_o h1, uI_o h1]
  · rw [uX_1, if_neg (by omega), uX_1, if_neg (by omega), uX_1, if_neg (by omega), uX_1, if_neg (by omega), uX_1, if_neg (by omega), uI_1, if_neg (by omega), uI_1, if_pos ⟨rfl, rfl⟩]
  · rw [uX_1, if_neg (by omega), uX_1, if_neg (by omega), uX_1, if_neg (by omega), uX_1, if_neg (by omega), uX_1, if_neg (by omega), uI_1, if_pos ⟨rfl, rfl⟩, uI_o (by omega)]
  · rw [uX_1, if_neg (by omega), uX_1, if_neg (by omega), uX_1, if_neg (by omega), uX_1, if_neg (by omega), uX_1, if_pos rfl, cpy0 hk, uI_o (by omega), uI_o (by omega)]
  · rw [uX_1, if_neg (by omega), uX_1, if_neg (by omega), uX_1, if_neg (by omega), uX_1, if_pos rfl, cpy0 hk, uX_1, if_neg (by omega), uI_o (by omega), uI_o (by omega)]
  · rw [uX_1, if_neg (by omega), uX_1, if_neg (by omega), uX_1, if_pos rfl, cpy0 hk, uX_1, if_neg (by omega), uX_1, if_neg (by omega), uI_o (by omega), uI_o (by omega)]
  · rw [uX_1, if_neg (by omega), uX_1, if_pos rfl, cpy0 hk, uX_1, if_neg (by omega), uX_1, if_neg (by omega), uX_1, if_neg (by omega), uI_o (by omega), uI_o (by omega)]
  · rw [uX_1, if_pos rfl, cpy0 hk, uX_1, if_neg (by omega), uX_1, if_neg (by omega), uX_1, if_neg (by omega), uX_1, if_neg (by omega), uI_o (by omega), uI_o (by omega)]
/-- a world becomes as another one is -/
theorem become_w {m : Mem} {b c w s : Nat} {d : Bool} {sea now : Nat → Int32} {there : Int32} (hC : RCok m w s d) (hb : WI b) (hc : WI c) (hbc : c + 14 < b ∨ b + 14 < c) (hW : WR m.1 c sea now there) (hS : Sok sea now there) : ∃ m2, fX10_become b c m = some m2 ∧ m2.2 = m.2 ∧ (∀ a, ¬ (b ≤ a ∧ a ≤ b + 14) → m2.1 a = m.1 a) ∧ WR m2.1 b sea now there := by
  obtain ⟨w1, ⟨w2, w3, w4, w5⟩, w6, w7, ⟨u0, u1, u2, u3, u4, u5, u6, u7, u8⟩, w8, w9, ⟨w10, w11⟩, w12, w13⟩ := hW
  have b0 : sv sea 0 ≤ 4 := (sea_nI hS.2.1 (j := 0) (by decide)).2
  have b3 : sv sea 3 ≤ 10 := (sea_nI hS.2.1 (j := 3) (by decide)).2
  have b4 : sv sea 4 ≤ 10 := (sea_nI hS.2.1 (j := 4) (by decide)).2
  have b5 : sv sea 5 ≤ 6 := (sea_nI hS.2.1 (j := 5) (by decide)).2
  have zt : zb there = true := by rcases hS.1 with q | q <;> rw [q] <;> rfl
  have zn : zb (now 0) = true ∧ zb (now 5) = true := by
    rcases hS.2.2.2.1 with q | q
    · rw [q.1, q.2]; exact ⟨rfl, rfl⟩
    · obtain ⟨-, x, y, v, -, -, -, -, -, -, g5, -⟩ := hS.2.2.2.2.1 q
      rw [q]
      rcases g5 with g | g <;> rw [g] <;> exact ⟨rfl, rfl⟩
  have rw0 : ∀ m' : Mem, m'.2 = m.2 → RCok m' w s d := fun m' e a ha k hk => by rw [e]; exact hC a ha k hk
  obtain ⟨m1, e1, s1, o1, p3, p4, p5, p6, p7, p8, p9⟩ := bec9 (rw0 (uI m b 4 (m.1 c 4)) rfl) hb hc hbc
  have r1 := s1.trans (uI_2 m b 4 (m.1 c 4))
  have f1 : m1.1 (c + 5) = m.1 (c + 5) := by rw [o1 _ (by omega) (by omega) (by omega) (by omega), uI_o (by omega)]
  obtain ⟨m2, e2, s2, o2, q1⟩ := bec4 (m := m1) hb hc hbc (by rw [f1, u3]; exact zn.1) (by rw [f1, u7]; exact zn.2)
  have r2 := s2.trans r1
  obtain ⟨m3, e3, s3, o3, q2, q3, q4⟩ := bec2 (m := m2) (rw0 m2 r2) hb hc hbc
  have r3 := s3.trans r2
  obtain ⟨m4, e4, s4, o4, q5, q6, q7, q8, q9, q10, q11⟩ := bec1 (m := m3) (rw0 m3 r3) hb hc hbc
  have r4 := s4.trans r3
  refine ⟨m4, ?_, r4, fun a ha => ?_, ?_⟩
  · simp only [fX10_become, kc_w hb, kc_w hc, eq_self, gp_tt, lt1_e, w1, zt, uI_2, rc_w hC hb, rc_w hC hc, bnd_s]
    rw [w1] at e1
    simp only [e1, bnd_s, rc_w (rw0 m1 r1) hb, rc_w (rw0 m1 r1) hc, e2, rc_w (rw0 m2 r2) hb, rc_w (rw0 m2 r2) hc, kc_w hb, eq_self, gp_tt, e3, rc_w (rw0 m3 r3) hb, rc_w (rw0 m3 r3) hc, e4]
  · rw [o4 a (by omega) (by omega) (by omega) (by omega) (by omega) (by omega), o3 a (by omega) (by omega) (by omega), o2 a (by omega), o1 a (by omega) (by omega) (by omega) (by omega), uI_o (by omega)]
  · -- what each row of the block holds now
    have c4 : ∀ x, b ≤ x → x ≤ b + 8 → m4.1 x = m3.1 x := fun x h1 h2 => o4 x (by omega) (by omega) (by omega) (by omega) (by omega) (by omega)
    have c3 : ∀ x, b ≤ x → x ≤ b + 5 → m3.1 x = m2.1 x := fun x h1 h2 => o3 x (by omega) (by omega) (by omega)
    have c2 : ∀ x, b ≤ x → x ≤ b + 4 → m2.1 x = m1.1 x := fun x h1 h2 => o2 x (by omega)
    have d3 : ∀ x, (x < b ∨ b + 8 < x) → m3.1 x = m.1 x := fun x hx => by rw [o3 x (by omega) (by omega) (by omega), o2 x (by omega), o1 x (by omega) (by omega) (by omega) (by omega), uI_o (by omega)]
    have d2 : ∀ x, (x < b ∨ b + 5 < x) → m2.1 x = m.1 x := fun x hx => by rw [o2 x (by omega), o1 x (by omega) (by omega) (by omega) (by omega), uI_o (by omega)]
    have t : ∀ x, x ≤ 4 → m4.1 (b + x) = m1.1 (b + x) := fun x hx => by rw [c4 _ (by omega) (by omega), c3 _ (by omega) (by omega), c2 _ (by omega) (by omega)]
    have t0 : m4.1 b = m1.1 b := t 0 (by decide)
    have i1 : ∀ x, x ≤ 14 → 1 ≤ x → (uI m b 4 (m.1 c 4)).1 (c + x) = m.1 (c + x) := fun x h1 h2 => uI_o (by omega)
    unfold WR
    rw [t0, t 1 (by decide), t 2 (by decide), t 3 (by decide), t 4 (by decide), c4 (b + 5) (by omega) (by omega), c3 (b + 5) (by omega) (by omega), c4 (b + 6) (by omega) (by omega), c4 (b + 7) (by omega) (by omega), c4 (b + 8) (by omega) (by omega)]
    rw [i1 1 (by decide) (by decide)] at p3 p4 p5 p6
    refine ⟨?_, ⟨by rw [p3, w2], by rw [p4, w3], by rw [p5, w4], by rw [p6, w5]⟩, fun j hj => ?_, fun y hy => ?_, ⟨?_, ?_, ?_, ?_, ?_, ?_, ?_, ?_, ?_⟩, ?_, fun j hj => ?_, ⟨?_, ?_⟩, fun j hj => ?_, fun j hj => ?_⟩
    · rw [o1 b (by omega) (by omega) (by omega) (by omega), uI_1, if_pos ⟨rfl, rfl⟩, w1]
    · rw [p8 j (by omega), p9 j (by omega), i1 3 (by decide) (by decide), i1 4 (by decide) (by decide)]; exact w6 j hj
    · rw [p7 y hy, i1 2 (by decide) (by decide)]; exact w7 y hy
    · rw [q1 0 (by decide), f1, u0]
    · rw [q1 1 (by decide), f1, u1]
    · rw [q1 2 (by decide), f1, u2]
    · rw [q1 3 (by decide), f1, u3]
    · rw [q1 4 (by decide), f1, u4]
    · rw [q1 5 (by decide), f1, u5]
    · rw [q1 6 (by decide), f1, u6]
    · rw [q1 7 (by decide), f1, u7]
    · rw [q1 8 (by decide), f1, u8]
    · rw [q2, d2 _ (by omega), w8]
    · rw [q3 j (by omega), q4 j (by omega), d2 _ (by omega), d2 _ (by omega)]; exact w9 j hj
    · rw [q5, d3 _ (by omega), w10]
    · rw [q6, d3 _ (by omega), w11]
    · rw [q7 j (by omega), q8 j (by omega), d3 _ (by omega), d3 _ (by omega)]; exact w12 j hj
    · rw [q9 j (by omega), q10 j (by omega), q11 j (by omega), d3 _ (by omega), d3 _ (by omega), d3 _ (by omega)]; exact w13 j hj
theorem a206 (r k : Nat) : (206 : Int32) * nI r + nI k = nI (206 * r + k) := by rw [show (206 : Int32) = nI 206 from rfl, pk_mul, nI_add]
theorem a8 (r k : Nat) : (8 : Int32) * nI r + nI k = nI (8 * r + k) := by rw [show (8 : Int32) = nI 8 from rfl, pk_mul, nI_add]
theorem image_m {m : Mem} {k : Nat} (hM : RMok m) (hk : k < 2) : fX12_image_32 0 (nI k) 0 m = some (1, uI (wi (wi m 14 (206 * k) (m.1 4) 206) 15 (8 * k) (m.1 6) 8) 13 k 1) := by
  unfold fX12_image_32
  rw [show ((0 : Int32), m) = (fun j => (nI j, wi m 14 (206 * k) (m.1 4) j)) 0 from rfl, iter_traj (fun j => (nI j, wi m 14 (206 * k) (m.1 4) j)) 206 (wi m 14 (206 * k) (m.1 4) 206) (by omega) ?_ ?_, bnd_s]
  · generalize hm1 : wi m 14 (206 * k) (m.1 4) 206 = m1
    have e6 : m1.1 6 = m.1 6 := by rw [← hm1, wi_o 206 (by decide)]
    have hM1 : RMok m1 := fun x hx => by rw [← hm1, wi_2]; exact hM x hx
    unfold fX12_image_63 fX12_image_65
    rw [lt1_e, show ((0 : Int32), m1) = (fun j => (nI j, wi m1 15 (8 * k) (m.1 6) j)) 0 from rfl, iter_traj (fun j => (nI j, wi m1 15 (8 * k) (m.1 6) j)) 8 (wi m1 15 (8 * k) (m.1 6) 8) (by omega) ?_ ?_, bnd_s]
    · have z : (wi m1 15 (8 * k) (m.1 6) 8).2.2 0 26 = some 13 := by rw [wi_2]; exact hM1 26 (by decide)
      simp only [fX12_image_94, km_s, z, eq_self, gp_tt, bnd_s, lt1_e, inb_nI hk (by decide), nI_clamp (show k < 2 ^ 31 by omega)]
      rfl
    · intro j hj
      have z : (wi m1 15 (8 * k) (m.1 6) j).2.2 0 28 = some 15 := by rw [wi_2]; exact hM1 28 (by decide)
      have z2 : (wi m1 15 (8 * k) (m.1 6) j).2.2 0 8 = some 6 := by rw [wi_2]; exact hM1 8 (by decide)
      have z3 : (wi m1 15 (8 * k) (m.1 6) j).1 6 = m.1 6 := by rw [wi_o j (by decide), e6]
      simp only [fX12_image_65b, km_s, z, z2, z3, eq_self, gp_tt, bnd_s, lt1_e, if_neg (show ¬ (8 : Int32) ≤ nI j from nI_ge (b := 8) hj (by decide)), a8, inb_nI (show 8 * k + j < 16 by omega) (by decide), nI_clamp (show 8 * k + j < 2 ^ 31 by omega), inb_nI hj (by decide), nI_clamp (show j < 2 ^ 31 by omega), nI_1, wi_s]
    · simp only [fX12_image_65b, if_pos (show (8 : Int32) ≤ nI 8 by decide)]
  · intro j hj
    have z : (wi m 14 (206 * k) (m.1 4) j).2.2 0 27 = some 14 := by rw [wi_2]; exact hM 27 (by decide)
    have z2 : (wi m 14 (206 * k) (m.1 4) j).2.2 0 5 = some 4 := by rw [wi_2]; exact hM 5 (by decide)
    have z3 : (wi m 14 (206 * k) (m.1 4) j).1 4 = m.1 4 := by rw [wi_o j (by decide)]
    simp only [fX12_image_32b, km_s, z, z2, z3, eq_self, gp_tt, bnd_s, lt1_e, if_neg (show ¬ (206 : Int32) ≤ nI j from nI_ge (b := 206) hj (by decide)), a206, inb_nI (show 206 * k + j < 412 by omega) (by decide), nI_clamp (show 206 * k + j < 2 ^ 31 by omega), inb_nI hj (by decide), nI_clamp (show j < 2 ^ 31 by omega), nI_1, wi_s]
  · simp only [fX12_image_32b, if_pos (show (206 : Int32) ≤ nI 206 by decide)]
theorem restore_m {m : Mem} {k : Nat} (hM : RMok m) (hk : k < 2) : fX12_restore_34 0 (nI k) 0 m = some (1, wi (wi m 4 0 (fun i => m.1 14 (206 * k + i)) 206) 6 0 (fun i => m.1 15 (8 * k + i)) 8) := by
  unfold fX12_restore_34
  generalize hf : (fun i => m.1 14 (206 * k + i)) = f
  generalize hg : (fun i => m.1 15 (8 * k + i)) = g
  have ef : ∀ i, m.1 14 (206 * k + i) = f i := fun i => by rw [← hf]
  have eg : ∀ i, m.1 15 (8 * k + i) = g i := fun i => by rw [← hg]
  rw [show ((0 : Int32), m) = (fun j => (nI j, wi m 4 0 f j)) 0 from rfl, iter_traj (fun j => (nI j, wi m 4 0 f j)) 206 (wi m 4 0 f 206) (by omega) ?_ ?_, bnd_s]
  · generalize hm1 : wi m 4 0 f 206 = m1
    have e6 : m1.1 15 = m.1 15 := by rw [← hm1, wi_o 206 (by decide)]
    have hM1 : RMok m1 := fun x hx => by rw [← hm1, wi_2]; exact hM x hx
    unfold fX12_restore_65 fX12_restore_67
    rw [lt1_e, show ((0 : Int32), m1) = (fun j => (nI j, wi m1 6 0 g j)) 0 from rfl, iter_traj (fun j => (nI j, wi m1 6 0 g j)) 8 (wi m1 6 0 g 8) (by omega) ?_ ?_, bnd_s]
    · intro j hj
      have z : (wi m1 6 0 g j).2.2 0 28 = some 15 := by rw [wi_2]; exact hM1 28 (by decide)
      have z2 : (wi m1 6 0 g j).2.2 0 8 = some 6 := by rw [wi_2]; exact hM1 8 (by decide)
      have z3 : (wi m1 6 0 g j).1 15 = m.1 15 := by rw [wi_o j (by decide), e6]
      simp only [fX12_restore_67b, km_s, z, z2, z3, eq_self, gp_tt, bnd_s, lt1_e, if_neg (show ¬ (8 : Int32) ≤ nI j from nI_ge (b := 8) hj (by decide)), a8, inb_nI (show 8 * k + j < 16 by omega) (by decide), nI_clamp (show 8 * k + j < 2 ^ 31 by omega), inb_nI hj (by decide), nI_clamp (show j < 2 ^ 31 by omega), nI_1, wi_s, eg, Nat.zero_add]
    · simp only [fX12_restore_67b, if_pos (show (8 : Int32) ≤ nI 8 by decide)]
  · intro j hj
    have z : (wi m 4 0 f j).2.2 0 27 = some 14 := by rw [wi_2]; exact hM 27 (by decide)
    have z2 : (wi m 4 0 f j).2.2 0 5 = some 4 := by rw [wi_2]; exact hM 5 (by decide)
    have z3 : (wi m 4 0 f j).1 14 = m.1 14 := by rw [wi_o j (by decide)]
    simp only [fX12_restore_34b, km_s, z, z2, z3, eq_self, gp_tt, bnd_s, lt1_e, if_neg (show ¬ (206 : Int32) ≤ nI j from nI_ge (b := 206) hj (by decide)), a206, inb_nI (show 206 * k + j < 412 by omega) (by decide), nI_clamp (show 206 * k + j < 2 ^ 31 by omega), inb_nI hj (by decide), nI_clamp (show j < 2 ^ 31 by omega), nI_1, wi_s, ef, Nat.zero_add]
  · simp only [fX12_restore_34b, if_pos (show (206 : Int32) ≤ nI 206 by decide)]
/-- a sea is spoken of up to its 206 numbers, a ship up to its 8 -/
theorem sv_e {f g : Nat → Int32} {j : Nat} (h : f j = g j) : sv f j = sv g j := by unfold sv; rw [h]
theorem so_e {f g : Nat → Int32} (h : ∀ j, j < 206 → f j = g j) : ∀ n, n ≤ 4 → so f n = so g n := by
  intro n
  induction n with
  | zero => intro _; rfl
  | succ n ih => intro hn; rw [so_s, so_s, ih (by omega), sv_e (h (13 + 2 * n) (by omega))]
theorem lr_e {f g : Nat → Int32} (h : ∀ j, j < 206 → f j = g j) {y : Nat} (hy : y < 8) : ∀ n, n ≤ 16 → lr f y n = lr g y n := by
  intro n
  induction n with
  | zero => intro _; rfl
  | succ n ih => intro hn; rw [lr_s, lr_s, ih (by omega), h (78 + 16 * y + n) (by omega)]
theorem WR.ext {cI : Nat → Nat → Int32} {b : Nat} {f g p q : Nat → Int32} {there : Int32} (hB : SeaB f) (h : WR cI b f p there) (hf : ∀ j, j < 206 → g j = f j) (hp : ∀ j, j < 8 → q j = p j) : WR cI b g q there := by
  have b0 : sv f 0 ≤ 4 := (sea_nI hB (j := 0) (by decide)).2
  have b3 : sv f 3 ≤ 10 := (sea_nI hB (j := 3) (by decide)).2
  have b4 : sv f 4 ≤ 10 := (sea_nI hB (j := 4) (by decide)).2
  have b5 : sv f 5 ≤ 6 := (sea_nI hB (j := 5) (by decide)).2
  obtain ⟨w1, w2, w6, w7, w8, w8', w9, w10, w12, w13⟩ := h
  unfold WR
  rw [sv_e (hf 0 (by decide)), sv_e (hf 3 (by decide)), sv_e (hf 4 (by decide)), sv_e (hf 5 (by decide)), so_e hf _ b0, hf 6 (by decide), hf 7 (by decide), hf 0 (by decide), hf 9 (by decide), hf 10 (by decide), hf 11 (by decide), hf 3 (by decide), hf 4 (by decide), hf 5 (by decide), hp 7 (by decide), hp 0 (by decide), hp 1 (by decide), hp 2 (by decide), hp 3 (by decide), hp 4 (by decide), hp 5 (by decide)]
  refine ⟨w1, w2, fun j hj => ?_, fun y hy => ?_, w8, w8', fun j hj => ?_, w10, fun j hj => ?_, fun j hj => ?_⟩
  · rw [hf _ (by omega), hf _ (by omega)]; exact w6 j hj
  · rw [lr_e hf hy 16 (by decide)]; exact w7 y hy
  · rw [hf _ (by omega), hf _ (by omega)]; exact w9 j hj
  · rw [hf _ (by omega), hf _ (by omega)]; exact w12 j hj
  · rw [hf _ (by omega), hf _ (by omega), hf _ (by omega)]; exact w13 j hj
theorem Sok.ext {f g p q : Nat → Int32} {there : Int32} (h : Sok f p there) (hf : ∀ j, j < 206 → g j = f j) (hp : ∀ j, j < 8 → q j = p j) : Sok g q there := by
  obtain ⟨s1, s2, s3, s4, s5, s6, s7⟩ := h
  have b0 : sv f 0 ≤ 4 := (sea_nI s2 (j := 0) (by decide)).2
  have b3 : sv f 3 ≤ 10 := (sea_nI s2 (j := 3) (by decide)).2
  have b4 : sv f 4 ≤ 10 := (sea_nI s2 (j := 4) (by decide)).2
  have b5 : sv f 5 ≤ 6 := (sea_nI s2 (j := 5) (by decide)).2
  refine ⟨s1, fun j hj => by rw [hf j hj]; exact s2 j hj, by rw [hp 7 (by decide)]; exact s3, by rw [hp 0 (by decide), hp 5 (by decide)]; exact s4, ?_, ?_, fun q j hj => by rw [hf j hj]; exact s7 q j hj⟩
  · rw [hp 0 (by decide), hp 1 (by decide), hp 2 (by decide), hp 3 (by decide), hp 5 (by decide), hp 6 (by decide), sv_e (hf 6 (by decide)), sv_e (hf 7 (by decide)), sv_e (hf 11 (by decide))]
    exact s5
  · intro q
    obtain ⟨t1, t2, t3, t4, t5, t6, t7, t8, t9⟩ := s6 q
    rw [sv_e (hf 6 (by decide)), sv_e (hf 7 (by decide)), sv_e (hf 0 (by decide)), sv_e (hf 11 (by decide)), sv_e (hf 4 (by decide)), sv_e (hf 5 (by decide)), sv_e (hf 3 (by decide))]
    refine ⟨t1, t2, t3, t4, fun j hj => ?_, fun j hj => ?_, fun j hj => ?_, fun j hj => ?_, fun x y hx hy => ?_⟩
    · rw [sv_e (hf _ (by omega))]; exact t5 j hj
    · rw [sv_e (hf _ (by omega))]; exact t6 j hj
    · rw [sv_e (hf (60 + 3 * j) (by omega)), sv_e (hf (61 + 3 * j) (by omega)), sv_e (hf (62 + 3 * j) (by omega))]; exact t7 j hj
    · rw [sv_e (hf (20 + 2 * j) (by omega)), sv_e (hf (21 + 2 * j) (by omega))]; exact t8 j hj
    · rw [hf _ (by omega)]; exact t9 x y hx hy
theorem img_ref {m : Mem} {w s k : Nat} {d : Bool} (hC : RCok m w s d) (hk : k < 2) : m.2.2 6 k = some (61 + 15 * k) ∧ WI (61 + 15 * k) := by
  rcases (by omega : k = 0 ∨ k = 1) with rfl | rfl
  · exact ⟨(rc_s hC).2.2.2.2.2.2.2.2.2.2.2.1, Or.inr (Or.inr (Or.inl rfl))⟩
  · exact ⟨(rc_s hC).2.2.2.2.2.2.2.2.2.2.2.2.1, Or.inr (Or.inr (Or.inr rfl))⟩
theorem op31 : Op31 Rel := by
  intro mc mm h v1
  obtain ⟨hM, w, s, d, hC, hws, hRows, hTape, hMisc, hW, hS, hImg, hTr⟩ := id h
  simp only [fX11_image, fX12_image, isWithin_e, in_0_1, bnd_s, lt1_e, km_s, kc_s, rc_s hC, kc_w hws.w, th_1, eq_self, gp_tt, hW.1]
  by_cases h1 : iw v1 0 1 = 0
  · exact ⟨_, _, _, if_pos h1, if_pos h1, h.thrown⟩
  simp only [if_neg h1]
  obtain ⟨k, hk, rfl⟩ := iw_nI h1 (n := 1) rfl
  have hk : k < 2 := by omega
  by_cases h2 : mm.1 0 7 = 0
  · exact ⟨_, _, _, if_pos h2, if_pos h2, h.thrown⟩
  simp only [if_neg h2]
  have there : mm.1 0 7 = 1 := by
    rcases hS.1 with q | q
    · exact absurd q h2
    · exact q
  obtain ⟨i1, i2⟩ := img_ref hC hk
  have hw : w = 15 ∨ w = 30 := by rcases hws with ⟨q, -⟩ | ⟨q, -⟩ <;> omega
  obtain ⟨m2, e1, e2, e3, e4⟩ := become_w hC i2 hws.w (by omega) hW hS
  simp only [inb_nI hk (by decide), nI_clamp (show k < 2 ^ 31 by omega), i1, kc_w i2, eq_self, gp_tt, bnd_s, e1]
  rw [image_m (m := uI mm 0 0 0) hM hk]
  refine ⟨_, _, _, rfl, rfl, ?_⟩
  have o : ∀ a, a < 61 → m2.1 a = mc.1 a := fun a ha => e3 a (by omega)
  generalize hm3 : uI (wi (wi (uI mm 0 0 0) 14 (206 * k) ((uI mm 0 0 0).1 4) 206) 15 (8 * k) ((uI mm 0 0 0).1 6) 8) 13 k 1 = m3
  have u : ∀ a, a ≠ 13 → a ≠ 14 → a ≠ 15 → m3.1 a = (uI mm 0 0 0).1 a := fun a h1 h2 h3 => by rw [← hm3, uI_o h1, wi_o 8 h3, wi_o 206 h2]
  have u0 : ∀ x, x ≠ 0 → m3.1 0 x = mm.1 0 x := fun x hx => by rw [u 0 (by decide) (by decide) (by decide), uI_1, if_neg (fun q => hx q.2)]
  have u1 : ∀ a, a ≠ 0 → a ≠ 13 → a ≠ 14 → a ≠ 15 → m3.1 a = mm.1 a := fun a h0 h1 h2 h3 => by rw [u a h1 h2 h3, uI_o h0]
  have u2 : m3.2 = mm.2 := by rw [← hm3, uI_2, wi_2, wi_2, uI_2]
  refine ⟨fun x hx => by rw [u2]; exact hM x hx, w, s, d, fun a ha x hx => by rw [e2]; exact hC a ha x hx, hws, hRows.c (fun a _ q => o a (by omega)) (u1 1 (by decide) (by decide) (by decide) (by decide)) (u1 2 (by decide) (by decide) (by decide) (by decide)) (u1 3 (by decide) (by decide) (by decide) (by decide)), hTape.c (by rw [o 2 (by decide)]) (o 3 (by decide)) (u0 10 (by decide)) (u1 7 (by decide) (by decide) (by decide) (by decide)), hMisc.c (by rw [o 0 (by decide)]) (by rw [o 0 (by decide)]) (u0 11 (by decide)) (u0 1 (by decide)), ?_, ?_, fun j hj => ?_, hTr.c (by rw [o 13 (by decide)]) (o 14 (by decide)) (u0 30 (by decide)) (u1 16 (by decide) (by decide) (by decide) (by decide))⟩
  · rw [u1 4 (by decide) (by decide) (by decide) (by decide), u1 6 (by decide) (by decide) (by decide) (by decide), u0 7 (by decide)]
    exact hW.c (fun a _ q => o a (by omega))
  · rw [u1 4 (by decide) (by decide) (by decide) (by decide), u1 6 (by decide) (by decide) (by decide) (by decide), u0 7 (by decide)]
    exact hS
  · by_cases c : j = k
    · subst c
      rw [there] at e4 hS
      have k1 : ∀ x, x < 206 → m3.1 14 (206 * j + x) = mm.1 4 x := fun x hx => by
        rw [← hm3, uI_o (by decide), wi_o 8 (by decide), wi_in 206 hx]; rfl
      have k2 : ∀ x, x < 8 → m3.1 15 (8 * j + x) = mm.1 6 x := fun x hx => by
        rw [← hm3, uI_o (by decide), wi_in 8 hx]; rfl
      refine Or.inr ⟨by rw [← hm3, uI_1, if_pos ⟨rfl, rfl⟩], by rw [u0 7 (by decide)]; exact there, WR.ext hS.2.1 e4 k1 k2, Sok.ext hS k1 k2⟩
    · have k0 : m3.1 13 j = mm.1 13 j := by
        rw [← hm3, uI_1, if_neg (fun q => c q.2), wi_o 8 (by decide), wi_o 206 (by decide)]; rfl
      have k1 : ∀ x, x < 206 → m3.1 14 (206 * j + x) = mm.1 14 (206 * j + x) := fun x hx => by
        rw [← hm3, uI_o (by decide), wi_o 8 (by decide), wi_out 206 (by omega)]; rfl
      have k2 : ∀ x, x < 8 → m3.1 15 (8 * j + x) = mm.1 15 (8 * j + x) := fun x hx => by
        rw [← hm3, uI_o (by decide), wi_out 8 (by omega), wi_o 206 (by decide)]; rfl
      have k3 : ∀ a, 61 + 15 * j ≤ a → a ≤ 75 + 15 * j → m2.1 a = mc.1 a := fun a h1 h2 => e3 a (by omega)
      rcases hImg j hj with ⟨g1, g2⟩ | ⟨g1, g0, g2, g3⟩
      · exact Or.inl ⟨by rw [k0]; exact g1, by rw [k3 _ (by omega) (by omega)]; exact g2⟩
      · refine Or.inr ⟨by rw [k0]; exact g1, by rw [u0 7 (by decide)]; exact g0, WR.ext g3.2.1 (g2.c (fun a h1 h2 => k3 a h1 (by omega))) k1 k2, Sok.ext g3 k1 k2⟩
theorem op32 : Op32 Rel := by
  intro mc mm h v1
  obtain ⟨hM, w, s, d, hC, hws, hRows, hTape, hMisc, hW, hS, hImg, hTr⟩ := id h
  simp only [fX11_restore, fX12_restore, isWithin_e, in_0_1, bnd_s, lt1_e, km_s, kc_s, rc_s hC, kc_w hws.w, rm_s hM, th_1, eq_self, gp_tt]
  by_cases h1 : iw v1 0 1 = 0
  · exact ⟨_, _, _, if_pos h1, if_pos h1, h.thrown⟩
  simp only [if_neg h1]
  obtain ⟨k, hk, rfl⟩ := iw_nI h1 (n := 1) rfl
  have hk : k < 2 := by omega
  obtain ⟨i1, i2⟩ := img_ref hC hk
  have hw : w = 15 ∨ w = 30 := by rcases hws with ⟨q, -⟩ | ⟨q, -⟩ <;> omega
  simp only [inb_nI hk (by decide), nI_clamp (show k < 2 ^ 31 by omega), i1, kc_w i2, eq_self, gp_tt, bnd_s]
  rcases hImg k hk with ⟨g1, g2⟩ | ⟨g1, g0, g2, g3⟩
  · exact ⟨_, _, _, if_pos g2, if_pos g1, h.thrown⟩
  rw [if_neg (show ¬ mc.1 (61 + 15 * k) 4 = 0 by rw [g2.1]; decide), if_neg (show ¬ mm.1 13 k = 0 by rw [g1]; decide)]
  obtain ⟨m2, e1, e2, e3, e4⟩ := become_w hC hws.w i2 (by omega) g2 g3
  rw [e1, bnd_s, restore_m (m := uI mm 0 0 0) hM hk]
  refine ⟨_, _, _, rfl, rfl, ?_⟩
  generalize hm3 : wi (wi (uI mm 0 0 0) 4 0 (fun i => (uI mm 0 0 0).1 14 (206 * k + i)) 206) 6 0 (fun i => (uI mm 0 0 0).1 15 (8 * k + i)) 8 = m3
  have u : ∀ a, a ≠ 4 → a ≠ 6 → m3.1 a = (uI mm 0 0 0).1 a := fun a h1 h2 => by rw [← hm3, wi_o 8 h2, wi_o 206 h1]
  have u0 : ∀ x, x ≠ 0 → m3.1 0 x = mm.1 0 x := fun x hx => by rw [u 0 (by decide) (by decide), uI_1, if_neg (fun q => hx q.2)]
  have u1 : ∀ a, a ≠ 0 → a ≠ 4 → a ≠ 6 → m3.1 a = mm.1 a := fun a h0 h1 h2 => by rw [u a h1 h2, uI_o h0]
  have k1 : ∀ x, x < 206 → m3.1 4 x = mm.1 14 (206 * k + x) := fun x hx => by
    have := wi_in (m := uI mm 0 0 0) (q := 4) (o := 0) (f := fun i => (uI mm 0 0 0).1 14 (206 * k + i)) 206 hx
    rw [Nat.zero_add] at this
    rw [← hm3, wi_o 8 (by decide), this]; rfl
  have k2 : ∀ x, x < 8 → m3.1 6 x = mm.1 15 (8 * k + x) := fun x hx => by
    have := wi_in (m := wi (uI mm 0 0 0) 4 0 (fun i => (uI mm 0 0 0).1 14 (206 * k + i)) 206) (q := 6) (o := 0) (f := fun i => (uI mm 0 0 0).1 15 (8 * k + i)) 8 hx
    rw [Nat.zero_add] at this
    rw [← hm3, this]; rfl
  have t1 : m3.1 0 7 = 1 := by rw [u0 7 (by decide)]; exact g0
  refine rel_world hM hC hws hRows hTape hMisc hImg hTr (by rw [e2]) (by rw [← hm3, wi_2, wi_2]; rfl) (fun a ha => e3 a ha) ⟨⟨u1 1 (by decide) (by decide) (by decide), u1 2 (by decide) (by decide) (by decide), u1 3 (by decide) (by decide) (by decide), u1 7 (by decide) (by decide) (by decide), u1 13 (by decide) (by decide) (by decide), u1 14 (by decide) (by decide) (by decide), u1 15 (by decide) (by decide) (by decide), u1 16 (by decide) (by decide) (by decide)⟩, u0 1 (by decide), u0 10 (by decide), u0 11 (by decide), u0 30 (by decide)⟩ ?_ ?_ (fun _ => t1)
  · rw [t1]; exact WR.ext g3.2.1 e4 k1 k2
  · rw [t1]; exact Sok.ext g3 k1 k2
