theorem lr_s (sea : Nat → Int32) (y n : Nat) : lr sea y (n + 1) = lr sea y n + (if sea (78 + 16 * y + n) = 1 then 2 ^ n else 0) := rfl
theorem lr_lt (sea : Nat → Int32) (y n : Nat) : lr sea y n < 2 ^ n := by
  induction n with
  | zero => exact (by decide : 0 < 2 ^ 0)
  | succ n ih =>
    rw [lr_s, Nat.pow_succ]
    split <;> omega
theorem lr_bit (sea : Nat → Int32) (y : Nat) : ∀ n x, x < n → bit (lr sea y n) x = decide (sea (78 + 16 * y + x) = 1) := by
  intro n
  induction n with
  | zero => intro x hx; omega
  | succ n ih =>
    intro x hx
    rw [lr_s, bit_tb]
    by_cases e : x = n
    · subst e
      by_cases q : sea (78 + 16 * y + x) = 1
      · rw [if_pos q, Nat.add_comm, Nat.testBit_two_pow_add_eq, Nat.testBit_lt_two_pow (lr_lt sea y x), decide_eq_true q]
        rfl
      · rw [if_neg q, Nat.add_zero, Nat.testBit_lt_two_pow (lr_lt sea y x), decide_eq_false q]
    · have i := ih x (by omega)
      rw [bit_tb] at i
      split
      · rw [Nat.add_comm, Nat.testBit_two_pow_add_gt (by omega)]; exact i
      · rw [Nat.add_zero]; exact i
/-- inside the map -/
def ins (v1 v2 W H : Int32) : Int32 := if iw v1 0 (W - 1) = 0 then 0 else if iw v2 0 (H - 1) = 0 then 0 else 1
theorem inside_c {m : Mem} {b : Nat} (hb : WI b) (v1 v2 : Int32) : fX9_isInside (b + 1) v1 v2 m = some (ins v1 v2 (m.1 (b + 1) 3) (m.1 (b + 1) 4)) := by
  simp only [fX9_isInside, kc_w hb, eq_self, gp_tt, isWithin_e, bnd_s]
  unfold ins
  split
  · rfl
  · split <;> rfl
theorem cell_m {m : Mem} (hM : RMok m) (v1 v2 : Int32) : fX12_isCell 0 v1 v2 m = some (ins v1 v2 (m.1 4 6) (m.1 4 7)) := by
  simp only [fX12_isCell, km_s, rm_s hM, eq_self, gp_tt, inL, clL, in_lo0, bnd_s]
  unfold ins
  split
  · rfl
  · split <;> rfl
theorem ins_n {v1 v2 : Int32} {W H : Nat} (hW : W ≤ 16) (hH : H ≤ 8) (h : ¬ ins v1 v2 (nI W) (nI H) = 0) : ∃ x y, x < W ∧ y < H ∧ v1 = nI x ∧ v2 = nI y := by
  unfold ins at h
  by_cases q : iw v1 0 (nI W - 1) = 0
  · rw [if_pos q] at h; exact absurd rfl h
  · rw [if_neg q] at h
    by_cases q2 : iw v2 0 (nI H - 1) = 0
    · rw [if_pos q2] at h; exact absurd rfl h
    · obtain ⟨x, hx, e1⟩ := iw_lt (by omega) q
      obtain ⟨y, hy, e2⟩ := iw_lt (by omega) q2
      exact ⟨x, y, hx, hy, e1, e2⟩
theorem iw_in {k n : Nat} (hk : k < n) (hn : n < 2 ^ 31) : ¬ iw (nI k) 0 (nI n - 1) = 0 := by
  obtain ⟨j, rfl⟩ : ∃ j, n = j + 1 := ⟨n - 1, by omega⟩
  rw [iw_0, nI_m1]
  intro q
  rcases q with q | q
  · exact absurd (nI_le (a := 0) (b := k) (by omega) (by omega)) (Int32.not_le.mpr q)
  · exact absurd (nI_le (a := k) (b := j) (by omega) (by omega)) (Int32.not_le.mpr q)
theorem ins_1 {x y W H : Nat} (hx : x < W) (hy : y < H) (hW : W ≤ 16) (hH : H ≤ 8) : ins (nI x) (nI y) (nI W) (nI H) = 1 := by
  unfold ins
  rw [if_neg (iw_in hx (by omega)), if_neg (iw_in hy (by omega))]
theorem a16 (y x : Nat) : nI (16 * y + x) = (16 : Int32) * nI y + nI x := by rw [show (16 : Int32) = nI 16 from rfl, pk_mul, nI_add]
theorem at16n {y x : Nat} (hy : y < 8) (hx : x < 16) : nI (16 * y + x) - nI (16 * y + x) / 16 * 16 = nI x ∧ nI (16 * y + x) / 16 = nI y := by
  rw [a16]
  exact at16 y hy x hx
def ld (sea : Nat → Int32) (a : Nat) : Int32 := if sea (78 + a) = 1 then 1 else 0
theorem land_c {m : Mem} {b w s x y : Nat} {d : Bool} {sea now : Nat → Int32} {there : Int32} (hC : RCok m w s d) (hb : WI b) (hW : WR m.1 b sea now there) (hB : SeaB sea) (hx : x < sv sea 6) (hy : y < sv sea 7) : fX9_isLand (b + 1) (nI (16 * y + x)) m = some (ld sea (16 * y + x)) := by
  obtain ⟨e6, b6⟩ := sea_nI hB (j := 6) (by decide)
  obtain ⟨e7, b7⟩ := sea_nI hB (j := 7) (by decide)
  have b6 : sv sea 6 ≤ 16 := b6
  have b7 : sv sea 7 ≤ 8 := b7
  obtain ⟨q1, q2⟩ := at16n (y := y) (x := x) (by omega) (by omega)
  rw [q2] at q1
  have lt := lr_lt sea y 16
  simp only [fX9_isLand, fX9_isCell, kc_w hb, nc_w hb, rc_w hC hb, eq_self, gp_tt, isWithin_e, inside_c hb, bnd_s, gp_pos (show ¬ (16 : Int32) = 0 by decide), q1, q2, if_neg (show ¬ iw (nI (16 * y + x)) 0 127 = 0 from iw_in (n := 128) (by omega) (by decide)), hW.2.1.1, hW.2.1.2.1, e6, e7, ins_1 hx hy b6 b7, if_neg (show ¬ (1 : Int32) = 0 by decide), inb_nI (show y < 8 by omega) (by decide), nI_clamp (show y < 2 ^ 31 by omega), hW.2.2.2.1 y (by omega), isIn_e, bt_nI (show lr sea y 16 < 2 ^ 31 by omega) (show x < 31 by omega), lr_bit sea y 16 x (by omega)]
  unfold ld
  rw [← Nat.add_assoc]
  by_cases q : sea (78 + 16 * y + x) = 1
  · simp only [decide_eq_true q, if_pos q, if_true, if_neg (show ¬ (1 : Int32) = 0 by decide)]
  · simp only [decide_eq_false q, if_neg q, if_true, if_neg (show ¬ false = true by decide)]
theorem land_m {m : Mem} {a : Nat} (hM : RMok m) (ha : a < 128) : fX12_isLand 0 (nI a) m = some (ld (m.1 4) a) := by
  simp only [fX12_isLand, km_s, rm_s hM, eq_self, gp_tt, bnd_s, show (78 : Int32) + nI a = nI (78 + a) from by rw [← nI_add]; rfl, inb_nI (show 78 + a < 206 by omega) (by decide), nI_clamp (show 78 + a < 2 ^ 31 by omega)]
  unfold ld
  split <;> rfl
theorem op7 : Op7 Rel := by
  intro mc mm h v1 v2 v3
  obtain ⟨hM, w, s, d, hC, hws, hRows, hTape, hMisc, hW, hS, hImg, hTr⟩ := id h
  obtain ⟨e6, b6⟩ := sea_nI hS.2.1 (j := 6) (by decide)
  obtain ⟨e7, b7⟩ := sea_nI hS.2.1 (j := 7) (by decide)
  obtain ⟨e11, b11⟩ := sea_nI hS.2.1 (j := 11) (by decide)
  have b6 : sv (mm.1 4) 6 ≤ 16 := b6
  have b7 : sv (mm.1 4) 7 ≤ 8 := b7
  have b11 : sv (mm.1 4) 11 ≤ 200 := b11
  simp only [fX11_put, fX12_put, fX12_isWater, fX4_launch, isWithin_e, in_lo0, inside_c hws.w, cell_m hM.th, bnd_s, lt1_e, km_s, kc_s, rc_s hC, rc_w hC hws.w, kc_w hws.w, rm_s hM, th_1, uI_2, eq_self, gp_tt, clL, inL, hW.1, hW.2.1.1, hW.2.1.2.1, hW.2.2.2.2.1.2.2.1, gp_pos (show zb (1 : Int32) = true by decide), gp_pos (show zb (0 : Int32) = true by decide)]
  by_cases h0 : mm.1 0 7 = 0
  · exact ⟨_, _, _, if_pos h0, if_pos h0, h.thrown⟩
  simp only [if_neg h0]
  rw [e6, e7, e11]
  by_cases h1 : ins v1 v2 (nI (sv (mm.1 4) 6)) (nI (sv (mm.1 4) 7)) = 0
  · simp only [if_pos h1, if_true, bnd_s]
    exact ⟨_, _, _, rfl, rfl, h.thrown⟩
  simp only [if_neg h1]
  obtain ⟨x, y, hx, hy, rfl, rfl⟩ := ins_n b6 b7 h1
  rw [show (nI x : Int32) + 16 * nI y = nI (16 * y + x) by rw [a16, Int32.add_comm], ← a16]
  rw [land_c hC hws.w hW hS.2.1 hx hy, land_m hM.th (by omega)]
  simp only [bnd_s, show (uI mm 0 0 0).1 4 = mm.1 4 from rfl]
  have hld : ld (mm.1 4) (16 * y + x) = 0 ∨ ld (mm.1 4) (16 * y + x) = 1 := by unfold ld; split <;> simp
  by_cases h2 : iw v3 0 (nI (sv (mm.1 4) 11) - 1) = 0
  · simp only [if_pos h2]
    rcases hld with q | q
    · simp only [q, if_true, bnd_s, if_neg (show ¬ (1 : Int32) = 0 by decide)]
      exact ⟨_, _, _, rfl, rfl, h.thrown⟩
    · simp only [q, if_true, bnd_s, if_neg (show ¬ (1 : Int32) = 0 by decide)]
      exact ⟨_, _, _, rfl, rfl, h.thrown⟩
  simp only [if_neg h2]
  obtain ⟨v, hv, rfl⟩ := iw_lt (by omega) h2
  rcases hld with q | q
  · simp only [q, if_true, bnd_s, if_neg (show ¬ (1 : Int32) = 0 by decide)]
    refine ⟨_, _, _, rfl, rfl, ?_⟩
    refine rel_world hM hC hws hRows hTape hMisc hImg hTr rfl rfl (fun a ha => ?_) ⟨⟨rfl, rfl, rfl, rfl, rfl, rfl, rfl, rfl⟩, rfl, rfl, rfl, rfl⟩ ?_ ?_ (fun q => q)
    · rw [uI_o (by omega), uI_o (by omega), uI_o (by omega), uI_o (by omega), uI_o (by omega)]
    · refine hW.hull (fun a _ _ ha => ?_) ?_
      · rw [uI_o ha, uI_o ha, uI_o ha, uI_o ha, uI_o ha]
      · obtain ⟨-, -, -, -, ⟨g0, g1, g2, g3, g4, g5, g6, g7, g8⟩, -⟩ := hW
        simp [uI_1, g0, g1, g2, g8, a16]
    · obtain ⟨s1, s2, s3, s4, s5, s6, s7⟩ := hS
      have there : mm.1 0 7 = 1 := by
        rcases s1 with q | q
        · exact absurd q h0
        · exact q
      exact ⟨s1, s2, s3, Or.inr rfl, fun _ => ⟨there, x, y, v, hx, hy, Nat.le_of_lt hv, rfl, rfl, rfl, Or.inl rfl, (show (0 : Int32) = if v = sv (mm.1 4) 11 then 1 else 0 by rw [if_neg (by omega)])⟩, s6, s7⟩
  · simp only [q, if_true, bnd_s, if_neg (show ¬ (1 : Int32) = 0 by decide)]
    exact ⟨_, _, _, rfl, rfl, h.thrown⟩
