/-- where a way leads from a cell -/
def gt (W H c : Int32) (y : Nat) : Int32 := if ins (c - c / 16 * 16 + eastF.getD y 0) (c / 16 + southF.getD y 0) W H = 0 then c else 16 * (c / 16 + southF.getD y 0) + (c - c / 16 * 16 + eastF.getD y 0)
theorem wind_b : ∀ k, k < 4 → sbL.getD (12 + 2 * k) 0 ≤ 7 ∧ sbL.getD (13 + 2 * k) 0 ≤ 9 := by decide +kernel
theorem wind_v {sea : Nat → Int32} (hB : SeaB sea) {k : Nat} (hk : k < sv sea 0) : k < 4 ∧ sea (12 + 2 * k) = nI (sv sea (12 + 2 * k)) ∧ sv sea (12 + 2 * k) ≤ 7 ∧ sea (13 + 2 * k) = nI (sv sea (13 + 2 * k)) ∧ sv sea (13 + 2 * k) ≤ 9 := by
  have b0 : sv sea 0 ≤ 4 := (sea_nI hB (j := 0) (by decide)).2
  obtain ⟨e1, l1⟩ := sea_nI hB (j := 12 + 2 * k) (by omega)
  obtain ⟨e2, l2⟩ := sea_nI hB (j := 13 + 2 * k) (by omega)
  have := wind_b k (by omega)
  exact ⟨by omega, e1, by omega, e2, by omega⟩
theorem behind_c {m : Mem} {b w s k h : Nat} {d : Bool} {sea now : Nat → Int32} {there : Int32} (hC : RCok m w s d) (hb : WI b) (hW : WR m.1 b sea now there) (hB : SeaB sea) (hk : k < sv sea 0) (hh : h < 8) (c : Int32) : fX9_cellBehind (b + 1) c (nI k) (nI h) m = some (gt (sea 6) (sea 7) c ((sv sea (12 + 2 * k) + h) % 8)) := by
  obtain ⟨k4, e1, l1, -, -⟩ := wind_v hB hk
  have e7 : (nI (sv sea (12 + 2 * k)) + nI h) &&& 7 = nI ((sv sea (12 + 2 * k) + h) % 8) := by
    rw [nI_add, pk_andN (by omega) 3 (by decide)]
  generalize hw : (sv sea (12 + 2 * k) + h) % 8 = W at e7 ⊢
  have hW8 : W < 8 := by omega
  simp only [fX9_cellBehind, isWithin_e, bnd_s, if_neg (show ¬ iw (nI k) 0 3 = 0 from iw_in (n := 4) k4 (by decide)), kc_w hb, rc_w hC hb, nc_w hb, eq_self, gp_tt, inb_nI k4 (by decide), nI_clamp (show k < 2 ^ 31 by omega), lt1_e, (hW.2.2.1 k hk).1, e1, e7, gp_pos (show ¬ (16 : Int32) = 0 by decide), inb_nI hW8 (by decide), nI_clamp (show W < 2 ^ 31 by omega), inside_c hb, hW.2.1.1, hW.2.1.2.1]
  unfold gt
  by_cases q : ins (c - c / 16 * 16 + eastF.getD W 0) (c / 16 + southF.getD W 0) (sea 6) (sea 7) = 0
  · rw [if_pos q, if_pos q]
  · rw [if_neg q, if_neg q, Int32.add_comm]
theorem wayBy_m {m : Mem} {k h : Nat} (hM : RMok m) (hB : SeaB (m.1 4)) (hk : k < sv (m.1 4) 0) (hh : h < 8) : fX12_wayBy 0 (nI k) (nI h) m = some (nI ((sv (m.1 4) (12 + 2 * k) + h) % 8)) := by
  obtain ⟨k4, e1, l1, -, -⟩ := wind_v hB hk
  have e : (12 : Int32) + (2 : Int32) * nI k = nI (12 + 2 * k) := by
    rw [show (12 : Int32) = nI 12 from rfl, show (2 : Int32) = nI 2 from rfl, pk_mul, nI_add]
  simp only [fX12_wayBy, km_s, rm_s hM, eq_self, gp_tt, bnd_s, e, inb_nI (show 12 + 2 * k < 206 by omega) (by decide), nI_clamp (show 12 + 2 * k < 2 ^ 31 by omega), gp_pos (show ¬ (8 : Int32) = 0 by decide)]
  rw [e1, nI_add]
  exact congrArg some (pk_rem (d := 8) (by omega) (by decide) (by decide))
theorem gw_1 : ∀ W, W < 8 → ((nI W - nI W / 4 * 4 = (0 : Int32)) ↔ W % 4 = 0) ∧ (((4 : Int32) ≤ nI W) ↔ 4 ≤ W) ∧ ((nI W - nI W / 4 * 4 = (2 : Int32)) ↔ W % 4 = 2) ∧ ((iw (nI W) 3 5 = 0) ↔ (W < 3 ∨ 5 < W)) := by decide +kernel
theorem gw_2 : ∀ W, W < 8 → eastF.getD W 0 = (if W % 4 = 0 then 0 else if 4 ≤ W then -1 else 1) ∧ southF.getD W 0 = (if W % 4 = 2 then 0 else if W < 3 ∨ 5 < W then -1 else 1) := by decide +kernel
theorem goneTo_w {m : Mem} (c : Int32) (W : Nat) (hW : W < 8) : fX12_goneTo 0 c (nI W) m = fX12_goneTo_51 0 c (eastF.getD W 0) (southF.getD W 0) m := by
  obtain ⟨f1, f2, f3, f4⟩ := gw_1 W hW
  obtain ⟨g1, g2⟩ := gw_2 W hW
  have n4 : ¬ (4 : Int32) = 0 := by decide
  have s20 : ∀ e, fX12_goneTo_20 0 c (nI W) e m = fX12_goneTo_51 0 c e (southF.getD W 0) m := by
    intro e
    rw [g2]
    unfold fX12_goneTo_20
    rw [gp_pos n4, in_3_5, bnd_s]
    by_cases q : W % 4 = 2
    · rw [if_pos (f3.mpr q), if_pos q]
    · rw [if_neg (fun x => q (f3.mp x)), if_neg q]
      by_cases q2 : W < 3 ∨ 5 < W
      · rw [if_pos (f4.mpr q2), if_pos q2]
      · rw [if_neg (fun x => q2 (f4.mp x)), if_neg q2]
  unfold fX12_goneTo
  rw [gp_pos n4, s20, s20, s20, g1]
  by_cases q : W % 4 = 0
  · rw [if_pos (f1.mpr q), if_pos q]
  · rw [if_neg (fun x => q (f1.mp x)), if_neg q]
    by_cases q2 : 4 ≤ W
    · rw [if_pos (f2.mpr q2), if_pos q2]
    · rw [if_neg (fun x => q2 (f2.mp x)), if_neg q2]
theorem gone_m {m : Mem} {W : Nat} (hM : RMok m) (hW : W < 8) (c : Int32) : fX12_goneTo 0 c (nI W) m = some (gt (m.1 4 6) (m.1 4 7) c W) := by
  rw [goneTo_w c W hW]
  simp only [fX12_goneTo_51, gp_pos (show ¬ (16 : Int32) = 0 by decide), lt1_e, km_s, eq_self, gp_tt, cell_m hM, bnd_s]
  unfold gt
  by_cases q : ins (c - c / 16 * 16 + eastF.getD W 0) (c / 16 + southF.getD W 0) (m.1 4 6) (m.1 4 7) = 0
  · rw [if_pos q, if_pos q]
  · rw [if_neg q, if_neg q]
theorem gt_to {sea : Nat → Int32} (hB : SeaB sea) {k : Nat} (hk : k < 128) (W : Nat) : ∃ t, t < 128 ∧ gt (sea 6) (sea 7) (nI k) W = nI t ∧ ((k % 16 < sv sea 6 ∧ k / 16 < sv sea 7) → (t % 16 < sv sea 6 ∧ t / 16 < sv sea 7)) := by
  obtain ⟨e6, b6⟩ := sea_nI hB (j := 6) (by decide)
  obtain ⟨e7, b7⟩ := sea_nI hB (j := 7) (by decide)
  have b6 : sv sea 6 ≤ 16 := b6
  have b7 : sv sea 7 ≤ 8 := b7
  unfold gt
  rw [e6, e7]
  by_cases q : ins (nI k - nI k / 16 * 16 + eastF.getD W 0) (nI k / 16 + southF.getD W 0) (nI (sv sea 6)) (nI (sv sea 7)) = 0
  · rw [if_pos q]
    exact ⟨k, hk, rfl, fun h => h⟩
  · rw [if_neg q]
    obtain ⟨x, y, hx, hy, ex, ey⟩ := ins_n b6 b7 q
    rw [ex, ey]
    refine ⟨16 * y + x, by omega, (a16 y x).symm, fun _ => ⟨by omega, by omega⟩⟩
/-- what of a ship stays true, hour by hour -/
def SH (sea now : Nat → Int32) : Prop := now 0 = 1 ∧ (∃ h, h < 8 ∧ now 7 = nI h) ∧ ∃ x y v, x < sv sea 6 ∧ y < sv sea 7 ∧ v ≤ sv sea 11 ∧ now 1 = nI x ∧ now 2 = nI y ∧ now 3 = nI v ∧ (now 5 = 0 ∨ now 5 = 1) ∧ now 6 = (if v = sv sea 11 then 1 else 0)
theorem hld_nI {D v l p : Nat} (hD : D ≤ 200) (hv : v ≤ 200) (hl : l ≤ 20) (hp : p ≤ 40) : hld (nI D) (nI v + nI l - nI p) = nI (min D (v + l - p)) := by
  unfold hld
  rw [nI_add]
  rcases Nat.lt_or_ge (v + l) p with q | q
  · rw [if_pos (pk_sneg (by omega) q), show min D (v + l - p) = 0 by omega]
    rfl
  · rw [pk_sub q, if_neg (nI_pos (by omega))]
    by_cases c : D < v + l - p
    · rw [if_pos (nI_lt c (by omega)), show min D (v + l - p) = D by omega]
    · rw [if_neg (nI_nlt (by omega) (by omega)), show min D (v + l - p) = v + l - p by omega]
theorem ship_b {sea : Nat → Int32} (hB : SeaB sea) : sea 9 = nI (sv sea 9) ∧ sv sea 9 ≤ 20 ∧ sea 10 = nI (sv sea 10) ∧ sv sea 10 ≤ 40 ∧ sea 11 = nI (sv sea 11) ∧ sv sea 11 ≤ 200 := by
  obtain ⟨e9, b9⟩ := sea_nI hB (j := 9) (by decide)
  obtain ⟨e10, b10⟩ := sea_nI hB (j := 10) (by decide)
  obtain ⟨e11, b11⟩ := sea_nI hB (j := 11) (by decide)
  exact ⟨e9, b9, e10, b10, e11, b11⟩
/-- an hour's water -/
theorem water_c {m : Mem} {b v : Nat} {sea : Nat → Int32} (hB : SeaB sea) (hb : WI b) (vm : Nat) (hvm : vm < 2) (hv : v ≤ 200) (h1 : m.1 (b + 5) 1 = sea 9) (h2 : m.1 (b + 5) 2 = sea 11) (h5 : m.1 (b + 5) 5 = nI v) (h8 : m.1 (b + 5) 8 = sea 10) : fX4_passHour_54 (b + 5) (nI vm) m = some (uI m (b + 5) 5 (nI (min (sv sea 11) (v + sv sea 9 - vm * sv sea 10)))) := by
  obtain ⟨e9, b9, e10, b10, e11, b11⟩ := ship_b hB
  have hd : (0 : Int32) ≤ m.1 (b + 5) 2 := by rw [h2]; exact sea_0le hB (by decide)
  simp only [fX4_passHour_54, fX4_passHour_77, kc_w hb, eq_self, gp_tt, held_c hb _ hd, bnd_s, lt1_e, h1, h2, h5, h8]
  rw [e9, e10, e11]
  rcases (by omega : vm = 0 ∨ vm = 1) with rfl | rfl
  · rw [if_pos (show nI 0 = 0 by decide), Nat.zero_mul]
    have := hld_nI b11 hv b9 (show 0 ≤ 40 by decide)
    rw [show (0 : Int32) = nI 0 from rfl, this]
  · rw [if_neg (show ¬ nI 1 = 0 by decide), Nat.one_mul, hld_nI b11 hv b9 b10]
theorem water_m {m : Mem} {v : Nat} (hM : RMok m) (hB : SeaB (m.1 4)) (vm : Nat) (hvm : vm < 2) (hv : v < sv (m.1 4) 11) (h3 : m.1 6 3 = nI v) (h6 : m.1 6 6 = 0) : fX12_oneHour_89 0 (nI vm) m = some (uI (uI (uI m 6 3 (nI (min (sv (m.1 4) 11) (v + sv (m.1 4) 9 - vm * sv (m.1 4) 10)))) 6 6 (if min (sv (m.1 4) 11) (v + sv (m.1 4) 9 - vm * sv (m.1 4) 10) = sv (m.1 4) 11 then 1 else 0)) 6 4 (m.1 6 4 + 1)) := by
  obtain ⟨e9, b9, e10, b10, e11, b11⟩ := ship_b hB
  have key : ∀ z : Int32, fX12_oneHour_128 0 (nI v + m.1 4 9) z m = fX12_oneHour_165 0 6 3 (hld (m.1 4 11) (nI v + m.1 4 9 - z)) m := by
    intro z
    simp only [fX12_oneHour_128, km_s, rm_s hM, eq_self, gp_tt, bnd_s, lt1_e, clL, inL]
    unfold hld
    by_cases q : (0 : Int32) ≤ nI v + m.1 4 9 - z
    · rw [if_pos q, if_neg (Int32.not_lt.mpr q)]
      by_cases q2 : nI v + m.1 4 9 - z ≤ m.1 4 11
      · rw [if_pos q2, if_neg (Int32.not_lt.mpr q2)]
      · rw [if_neg q2, if_pos (Int32.not_le.mp q2)]
    · rw [if_neg q, if_pos (Int32.not_le.mp q)]
  have fin : ∀ x : Nat, x ≤ 200 → fX12_oneHour_165 0 6 3 (nI x) m = some (uI (uI (uI m 6 3 (nI x)) 6 6 (if x = sv (m.1 4) 11 then 1 else 0)) 6 4 (m.1 6 4 + 1)) := by
    intro x hx
    have z1 : (uI m 6 3 (nI x)).1 6 3 = nI x := by rw [uI_1, if_pos ⟨rfl, rfl⟩]
    have z2 : (uI m 6 3 (nI x)).1 4 = m.1 4 := uI_o (by decide)
    have z3 : ∀ y, (uI (uI m 6 3 (nI x)) 6 6 y).1 6 4 = m.1 6 4 := fun y => by rw [uI_1, if_neg (by decide), uI_1, if_neg (by decide)]
    simp only [fX12_oneHour_165, fX12_oneHour_193, fX12_oneHour_194, km_s, rm_s hM, uI_2, eq_self, gp_tt, bnd_s, lt1_e, clL, inL, z1, z2, z3]
    rw [e11]
    by_cases q : x = sv (m.1 4) 11
    · rw [if_pos (by rw [q]), if_pos q]
    · rw [if_neg (fun e => q (nI_inj1 (by omega) (by omega) e)), if_neg q]
  simp only [fX12_oneHour_89, km_s, rm_s hM, eq_self, gp_tt, bnd_s, clL, inL, h3, h6, if_true, key]
  rw [e9, e10, e11]
  rcases (by omega : vm = 0 ∨ vm = 1) with rfl | rfl
  · rw [if_pos (show nI 0 = 0 by decide), Nat.zero_mul]
    have := hld_nI b11 (show v ≤ 200 by omega) b9 (show 0 ≤ 40 by decide)
    rw [show (0 : Int32) = nI 0 from rfl, this, fin _ (by omega)]
    rfl
  · rw [if_neg (show ¬ nI 1 = 0 by decide), Nat.one_mul, hld_nI b11 (by omega) b9 b10, fin _ (by omega)]
/-- an hour: both go the same way -/
theorem hour_eq {mc mm : Mem} {b w s k vm : Nat} {d : Bool} {there : Int32} (hC : RCok mc w s d) (hM : RMok mm) (hb : WI b) (hB : SeaB (mm.1 4)) (hW : WR mc.1 b (mm.1 4) (mm.1 6) there) (hS : SH (mm.1 4) (mm.1 6)) (hk : k < sv (mm.1 4) 0) (hvm : vm < 2) : ∃ mc2 mm2, fX4_passHour (b + 5) (b + 1) (nI k) (nI vm) mc = some mc2 ∧ fX12_oneHour 0 (nI k) (nI vm) mm = some mm2 ∧ mc2.2 = mc.2 ∧ mm2.2 = mm.2 ∧ (∀ a, a ≠ b + 5 → mc2.1 a = mc.1 a) ∧ (∀ a, a ≠ 6 → mm2.1 a = mm.1 a) ∧ WR mc2.1 b (mm2.1 4) (mm2.1 6) there ∧ SH (mm2.1 4) (mm2.1 6) := by
  obtain ⟨n0, ⟨h, hh, n7⟩, x, y, v, hx, hy, hv, n1, n2, n3, n5, n6⟩ := hS
  obtain ⟨e9, b9, e10, b10, e11, b11⟩ := ship_b hB
  obtain ⟨u0, u1, u2, u3, u4, u5, u6, u7, u8⟩ := hW.2.2.2.2.1
  obtain ⟨e6, b6⟩ := sea_nI hB (j := 6) (by decide)
  obtain ⟨e7, b7⟩ := sea_nI hB (j := 7) (by decide)
  have b6 : sv (mm.1 4) 6 ≤ 16 := b6
  have b7 : sv (mm.1 4) 7 ≤ 8 := b7
  have cl : (16 : Int32) * mm.1 6 2 + mm.1 6 1 = nI (16 * y + x) := by rw [n1, n2, a16]
  -- from memories to what is wanted of them
  have fin : ∀ (mc2 mm2 : Mem), mc2.2 = mc.2 → mm2.2 = mm.2 → (∀ a, a ≠ b + 5 → mc2.1 a = mc.1 a) → (∀ a, a ≠ 6 → mm2.1 a = mm.1 a) → mc2.1 (b + 5) 0 = nI h → mc2.1 (b + 5) 1 = mm.1 4 9 → mc2.1 (b + 5) 2 = mm.1 4 11 → mc2.1 (b + 5) 3 = 1 → mc2.1 (b + 5) 8 = mm.1 4 10 → mm2.1 6 7 = nI h → mm2.1 6 0 = 1 → mc2.1 (b + 5) 6 = mm2.1 6 4 → (∃ x y v, x < sv (mm.1 4) 6 ∧ y < sv (mm.1 4) 7 ∧ v ≤ sv (mm.1 4) 11 ∧ mm2.1 6 1 = nI x ∧ mm2.1 6 2 = nI y ∧ mm2.1 6 3 = nI v ∧ (mm2.1 6 5 = 0 ∨ mm2.1 6 5 = 1) ∧ mm2.1 6 6 = (if v = sv (mm.1 4) 11 then 1 else 0) ∧ mc2.1 (b + 5) 4 = nI (16 * y + x) ∧ mc2.1 (b + 5) 5 = nI v ∧ mc2.1 (b + 5) 7 = mm2.1 6 5) → mc2.2 = mc.2 ∧ mm2.2 = mm.2 ∧ (∀ a, a ≠ b + 5 → mc2.1 a = mc.1 a) ∧ (∀ a, a ≠ 6 → mm2.1 a = mm.1 a) ∧ WR mc2.1 b (mm2.1 4) (mm2.1 6) there ∧ SH (mm2.1 4) (mm2.1 6) := by
    intro mc2 mm2 g1 g2 g3 g4 f0 f1 f2 f3 f8 f7 f00 f6 ⟨x', y', v', hx', hy', hv', p1, p2, p3, p5, p6, p7, p8, p9⟩
    have s4 : mm2.1 4 = mm.1 4 := g4 4 (by decide)
    refine ⟨g1, g2, g3, g4, ?_, ?_⟩
    · rw [s4]
      refine hW.hull (fun a _ _ ha => g3 a ha) ⟨by rw [f0, f7], f1, f2, by rw [f3, f00], by rw [p7, p1, p2, a16], by rw [p8, p3], f6, p9, f8⟩
    · rw [s4]
      exact ⟨f00, ⟨h, hh, f7⟩, x', y', v', hx', hy', hv', p1, p2, p3, p5, p6⟩
  unfold fX4_passHour
  rw [gp_pos (kc_w hb).2.2.2.2.2.1, lt1_e]
  generalize hm9 : uI mc (b + 5) 6 (mc.1 (b + 5) 6 + 1) = m9
  have o9 : ∀ a, a ≠ b + 5 → m9.1 a = mc.1 a := fun a ha => by rw [← hm9]; exact uI_o ha
  have r9 : m9.2 = mc.2 := by rw [← hm9]; rfl
  have hC9 : RCok m9 w s d := fun a ha x hx => by rw [r9]; exact hC a ha x hx
  have v9 : ∀ x, x ≠ 6 → m9.1 (b + 5) x = mc.1 (b + 5) x := fun x hx => by rw [← hm9, uI_1, if_neg (fun q => hx q.2)]
  have v96 : m9.1 (b + 5) 6 = mm.1 6 4 + 1 := by rw [← hm9, uI_1, if_pos ⟨rfl, rfl⟩, u6]
  have w9 : ∀ n2 : Nat → Int32, (m9.1 (b + 5) 0 = n2 7 ∧ m9.1 (b + 5) 1 = mm.1 4 9 ∧ m9.1 (b + 5) 2 = mm.1 4 11 ∧ m9.1 (b + 5) 3 = n2 0 ∧ m9.1 (b + 5) 4 = 16 * n2 2 + n2 1 ∧ m9.1 (b + 5) 5 = n2 3 ∧ m9.1 (b + 5) 6 = n2 4 ∧ m9.1 (b + 5) 7 = n2 5 ∧ m9.1 (b + 5) 8 = mm.1 4 10) → WR m9.1 b (mm.1 4) n2 there := fun n2 q => hW.hull (fun a _ _ ha => o9 a ha) q
  have sk : fX4_isSunk (b + 5) m9 = some (if v = sv (mm.1 4) 11 then 1 else 0) := by
    unfold fX4_isSunk
    rw [gp_pos (kc_w hb).2.2.2.2.2.1, v9 5 (by decide), v9 2 (by decide), u5, u2, n3, e11]
    by_cases q : v = sv (mm.1 4) 11
    · rw [if_neg (nI_nlt (by omega) (by omega)), if_pos q]
    · rw [if_pos (nI_lt (by omega) (by omega)), if_neg q]
  rw [sk, bnd_s]
  have i5 : (5 : Int32).toNatClampNeg = 5 := rfl
  by_cases hsk : v = sv (mm.1 4) 11
  · -- sunk
    rw [if_pos hsk, if_neg (by decide)]
    rw [if_pos hsk] at n6
    have c0 : ¬ mm.1 6 5 + 1 = 0 := by
      rcases n5 with q | q <;> rw [q] <;> decide
    have em : fX12_oneHour 0 (nI k) (nI vm) mm = some (uI mm 6 4 (mm.1 6 4 + 1)) := by
      simp only [fX12_oneHour, fX12_oneHour_89, fX12_oneHour_194, km_s, rm_s hM, eq_self, gp_tt, bnd_s, lt1_e, clL, inL, if_neg c0, n6, if_neg (show ¬ (1 : Int32) = 0 by decide)]
    refine ⟨_, _, rfl, em, fin _ _ r9 rfl o9 (fun a ha => uI_o ha) ?_ ?_ ?_ ?_ ?_ ?_ ?_ ?_ ⟨x, y, v, hx, hy, hv, ?_, ?_, ?_, ?_, ?_, ?_, ?_, ?_⟩⟩
    · rw [v9 0 (by decide), u0, n7]
    · rw [v9 1 (by decide), u1]
    · rw [v9 2 (by decide), u2]
    · rw [v9 3 (by decide), u3, n0]
    · rw [v9 8 (by decide), u8]
    · exact n7
    · exact n0
    · rw [v96]; rfl
    · exact n1
    · exact n2
    · exact n3
    · exact n5
    · rw [if_pos hsk]; exact n6
    · rw [v9 4 (by decide), u4, cl]
    · rw [v9 5 (by decide), u5, n3]
    · rw [v9 7 (by decide), u7]; rfl
  have hv2 : v < sv (mm.1 4) 11 := by omega
  rw [if_neg hsk, if_pos rfl, v9 7 (by decide), u7]
  rw [if_neg hsk] at n6
  rcases n5 with n5 | n5
  · -- she goes
    rw [if_pos n5, gp_pos (kc_w hb).2.1]
    have hw9 := w9 (fun j => if j = 4 then mm.1 6 4 + 1 else mm.1 6 j) ⟨by rw [v9 0 (by decide), u0]; rfl, by rw [v9 1 (by decide), u1], by rw [v9 2 (by decide), u2], by rw [v9 3 (by decide), u3]; rfl, by rw [v9 4 (by decide), u4]; rfl, by rw [v9 5 (by decide), u5]; rfl, v96, by rw [v9 7 (by decide), u7]; rfl, by rw [v9 8 (by decide), u8]⟩
    rw [v9 0 (by decide), v9 4 (by decide), u0, u4, n7, cl, behind_c hC9 hb hw9 hB hk hh, bnd_s, lt1_e]
    obtain ⟨t, ht, et, it⟩ := gt_to hB (k := 16 * y + x) (by omega) ((sv (mm.1 4) (12 + 2 * k) + h) % 8)
    obtain ⟨tx, ty⟩ := it ⟨by omega, by omega⟩
    rw [et]
    have tt : t = 16 * (t / 16) + t % 16 := by omega
    generalize hm16 : uI m9 (b + 5) 4 (nI t) = m16
    have r16 : m16.2 = mc.2 := by rw [← hm16]; exact r9
    have hC16 : RCok m16 w s d := fun a ha x hx => by rw [r16]; exact hC a ha x hx
    have l16 : fX9_isLand (b + 1) (m16.1 (b + 5) 4) m16 = some (ld (mm.1 4) t) := by
      have e4 : m16.1 (b + 5) 4 = nI t := by rw [← hm16, uI_1, if_pos ⟨rfl, rfl⟩]
      rw [e4, tt]
      refine land_c (now := fun j => if j = 4 then mm.1 6 4 + 1 else if j = 1 then nI (t % 16) else if j = 2 then nI (t / 16) else mm.1 6 j) (there := there) hC16 hb (hW.hull (fun a _ _ ha => by rw [← hm16, uI_o ha, o9 a ha]) ?_) hB (x := t % 16) (y := t / 16) tx ty
      have z : ∀ x, x ≠ 4 → m16.1 (b + 5) x = m9.1 (b + 5) x := fun x hx => by rw [← hm16, uI_1, if_neg (fun q => hx q.2)]
      refine ⟨?_, ?_, ?_, ?_, ?_, ?_, ?_, ?_, ?_⟩
      · rw [z 0 (by decide), v9 0 (by decide), u0]; rfl
      · rw [z 1 (by decide), v9 1 (by decide), u1]
      · rw [z 2 (by decide), v9 2 (by decide), u2]
      · rw [z 3 (by decide), v9 3 (by decide), u3]; rfl
      · rw [e4]; exact (congrArg nI tt).trans (a16 _ _)
      · rw [z 5 (by decide), v9 5 (by decide), u5]; rfl
      · rw [z 6 (by decide), v96]; rfl
      · rw [z 7 (by decide), v9 7 (by decide), u7]; rfl
      · rw [z 8 (by decide), v9 8 (by decide), u8]
    rw [l16, bnd_s]
    have zl : zb (ld (mm.1 4) t) = true := by unfold ld; split <;> rfl
    rw [gp_pos zl, lt1_e]
    generalize hm21 : uI m16 (b + 5) 7 (ld (mm.1 4) t) = m21
    have z21 : ∀ x, x ≠ 4 → x ≠ 7 → m21.1 (b + 5) x = m9.1 (b + 5) x := fun x hx hy => by rw [← hm21, uI_1, if_neg (fun q => hy q.2), ← hm16, uI_1, if_neg (fun q => hx q.2)]
    rw [water_c hB hb vm hvm (v := v) (by omega) (by rw [z21 1 (by decide) (by decide), v9 1 (by decide), u1]) (by rw [z21 2 (by decide) (by decide), v9 2 (by decide), u2]) (by rw [z21 5 (by decide) (by decide), v9 5 (by decide), u5, n3]) (by rw [z21 8 (by decide) (by decide), v9 8 (by decide), u8])]
    generalize hv' : min (sv (mm.1 4) 11) (v + sv (mm.1 4) 9 - vm * sv (mm.1 4) 10) = v'
    -- the reference
    obtain ⟨q1, q2⟩ := at16n (y := t / 16) (x := t % 16) (by omega) (by omega)
    rw [← tt] at q1 q2
    rw [q2] at q1
    have c0 : mm.1 6 5 + mm.1 6 6 = 0 := by rw [n5, n6]; decide
    generalize hn : uI (uI (uI mm 6 1 (nI (t % 16))) 6 2 (nI (t / 16))) 6 5 (ld (mm.1 4) t) = n3'
    have em : fX12_oneHour 0 (nI k) (nI vm) mm = fX12_oneHour_89 0 (nI vm) n3' := by
      have el := land_m (m := uI (uI mm 6 1 (nI (t % 16))) 6 2 (nI (t / 16))) (a := t) hM ht
      rw [show (uI (uI mm 6 1 (nI (t % 16))) 6 2 (nI (t / 16))).1 4 = mm.1 4 from rfl] at el
      simp only [fX12_oneHour, fX12_oneHour_88, km_s, rm_s hM, eq_self, gp_tt, bnd_s, lt1_e, clL, inL, c0, if_true, cl, n7, wayBy_m hM hB hk hh, gone_m hM (show (sv (mm.1 4) (12 + 2 * k) + h) % 8 < 8 by omega), et, gp_pos (show ¬ (16 : Int32) = 0 by decide), q1, q2, uI_2, el]
      rw [← hn]
      have hl : ld (mm.1 4) t = 0 ∨ ld (mm.1 4) t = 1 := by unfold ld; split <;> simp
      rcases hl with q | q
      · rw [q, if_pos rfl]
      · rw [q, if_neg (by decide)]
    have s4 : n3'.1 4 = mm.1 4 := by rw [← hn]; rfl
    have wm := water_m (m := n3') (v := v) (by rw [← hn]; exact hM) (by rw [s4]; exact hB) vm hvm (by rw [s4]; exact hv2) (by rw [← hn]; exact n3) (by rw [← hn]; exact n6)
    rw [s4, hv'] at wm
    refine ⟨_, _, rfl, em.trans wm, fin _ _ (by rw [uI_2, ← hm21]; exact r16) (by rw [uI_2, uI_2, uI_2, ← hn]; rfl) (fun a ha => by rw [uI_o ha, ← hm21, uI_o ha, ← hm16, uI_o ha, o9 a ha]) (fun a ha => by rw [uI_o ha, uI_o ha, uI_o ha, ← hn, uI_o ha, uI_o ha, uI_o ha]) ?_ ?_ ?_ ?_ ?_ ?_ ?_ ?_ ⟨t % 16, t / 16, v', tx, ty, by omega, ?_, ?_, ?_, ?_, ?_, ?_, ?_, ?_⟩⟩
    · rw [uI_1, if_neg (by simp), z21 0 (by decide) (by decide), v9 0 (by decide), u0, n7]
    · rw [uI_1, if_neg (by simp), z21 1 (by decide) (by decide), v9 1 (by decide), u1]
    · rw [uI_1, if_neg (by simp), z21 2 (by decide) (by decide), v9 2 (by decide), u2]
    · rw [uI_1, if_neg (by simp), z21 3 (by decide) (by decide), v9 3 (by decide), u3, n0]
    · rw [uI_1, if_neg (by simp), z21 8 (by decide) (by decide), v9 8 (by decide), u8]
    · rw [← hn]; exact n7
    · rw [← hn]; exact n0
    · rw [uI_1, if_neg (by simp), z21 6 (by decide) (by decide), v96, ← hn]; rfl
    · rw [← hn]; rfl
    · rw [← hn]; rfl
    · rfl
    · rw [← hn]
      show ld (mm.1 4) t = 0 ∨ ld (mm.1 4) t = 1
      unfold ld
      split <;> simp
    · rfl
    · rw [uI_1, if_neg (by simp), ← hm21, uI_1, if_neg (by simp), ← hm16, uI_1, if_pos ⟨rfl, rfl⟩, ← tt]
    · rw [uI_1, if_pos ⟨rfl, rfl⟩]
    · rw [uI_1, if_neg (by simp), ← hm21, uI_1, if_pos ⟨rfl, rfl⟩, ← hn]; rfl
  · -- stranded: she stays, the water comes on
    rw [if_neg (show ¬ mm.1 6 5 = 0 by rw [n5]; decide)]
    rw [water_c hB hb vm hvm (v := v) (by omega) (by rw [v9 1 (by decide), u1]) (by rw [v9 2 (by decide), u2]) (by rw [v9 5 (by decide), u5, n3]) (by rw [v9 8 (by decide), u8])]
    generalize hv' : min (sv (mm.1 4) 11) (v + sv (mm.1 4) 9 - vm * sv (mm.1 4) 10) = v'
    have c0 : ¬ mm.1 6 5 + mm.1 6 6 = 0 := by rw [n5, n6]; decide
    have em : fX12_oneHour 0 (nI k) (nI vm) mm = fX12_oneHour_89 0 (nI vm) mm := by
      simp only [fX12_oneHour, km_s, rm_s hM, eq_self, gp_tt, bnd_s, clL, inL, if_neg c0]
    have wm := water_m (m := mm) (v := v) hM hB vm hvm hv2 n3 n6
    rw [hv'] at wm
    refine ⟨_, _, rfl, em.trans wm, fin _ _ (by rw [uI_2]; exact r9) (by rw [uI_2, uI_2, uI_2]) (fun a ha => by rw [uI_o ha, o9 a ha]) (fun a ha => by rw [uI_o ha, uI_o ha, uI_o ha]) ?_ ?_ ?_ ?_ ?_ ?_ ?_ ?_ ⟨x, y, v', hx, hy, by omega, ?_, ?_, ?_, ?_, ?_, ?_, ?_, ?_⟩⟩
    · rw [uI_1, if_neg (by simp), v9 0 (by decide), u0, n7]
    · rw [uI_1, if_neg (by simp), v9 1 (by decide), u1]
    · rw [uI_1, if_neg (by simp), v9 2 (by decide), u2]
    · rw [uI_1, if_neg (by simp), v9 3 (by decide), u3, n0]
    · rw [uI_1, if_neg (by simp), v9 8 (by decide), u8]
    · exact n7
    · exact n0
    · rw [uI_1, if_neg (by simp), v96]; rfl
    · exact n1
    · exact n2
    · rfl
    · exact Or.inr n5
    · rfl
    · rw [uI_1, if_neg (by simp), v9 4 (by decide), u4, cl]
    · rw [uI_1, if_pos ⟨rfl, rfl⟩]
    · rw [uI_1, if_neg (by simp), v9 7 (by decide), u7]; rfl
