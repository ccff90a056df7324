theorem nI_and (a b : Nat) : nI a &&& nI b = nI (a &&& b) := by
  apply Int32.toBitVec_inj.mp
  show BitVec.ofNat 32 a &&& BitVec.ofNat 32 b = BitVec.ofNat 32 (a &&& b)
  exact BitVec.ofNat_and.symm
def pb (x : Nat) : Nat := 0 + x / 2 ^ 0 % 2 + x / 2 ^ 1 % 2 + x / 2 ^ 2 % 2 + x / 2 ^ 3 % 2 + x / 2 ^ 4 % 2 + x / 2 ^ 5 % 2 + x / 2 ^ 6 % 2 + x / 2 ^ 7 % 2 + x / 2 ^ 8 % 2 + x / 2 ^ 9 % 2 + x / 2 ^ 10 % 2 + x / 2 ^ 11 % 2 + x / 2 ^ 12 % 2 + x / 2 ^ 13 % 2 + x / 2 ^ 14 % 2 + x / 2 ^ 15 % 2
theorem pb_sm (x : Nat) : sm (fun n => x / 2 ^ n % 2) 16 = pb x := rfl
def bc1 (x : Nat) : Nat := x - (x / 2 ^ 1 &&& 1431655765)
def bc2 (x : Nat) : Nat := (x &&& 858993459) + (x / 2 ^ 2 &&& 858993459)
def bc3 (x : Nat) : Nat := (x + x / 2 ^ 4) &&& 252645135
def bc4 (x : Nat) : Nat := x + x / 2 ^ 8
def bc5 (x : Nat) : Nat := (x + x / 2 ^ 16) &&& 63
def bcn (x : Nat) : Nat := bc5 (bc4 (bc3 (bc2 (bc1 x))))
theorem bcd0 : ∀ a, a < 16 → ∀ b, b < 256 → bcn (256 * (0 + a) + b) = pb (256 * (0 + a) + b) := by decide +kernel
theorem bcd1 : ∀ a, a < 16 → ∀ b, b < 256 → bcn (256 * (16 + a) + b) = pb (256 * (16 + a) + b) := by decide +kernel
theorem bcd2 : ∀ a, a < 16 → ∀ b, b < 256 → bcn (256 * (32 + a) + b) = pb (256 * (32 + a) + b) := by decide +kernel
theorem bcd3 : ∀ a, a < 16 → ∀ b, b < 256 → bcn (256 * (48 + a) + b) = pb (256 * (48 + a) + b) := by decide +kernel
theorem bcd4 : ∀ a, a < 16 → ∀ b, b < 256 → bcn (256 * (64 + a) + b) = pb (256 * (64 + a) + b) := by decide +kernel
theorem bcd5 : ∀ a, a < 16 → ∀ b, b < 256 → bcn (256 * (80 + a) + b) = pb (256 * (80 + a) + b) := by decide +kernel
theorem bcd6 : ∀ a, a < 16 → ∀ b, b < 256 → bcn (256 * (96 + a) + b) = pb (256 * (96 + a) + b) := by decide +kernel
theorem bcd7 : ∀ a, a < 16 → ∀ b, b < 256 → bcn (256 * (112 + a) + b) = pb (256 * (112 + a) + b) := by decide +kernel
theorem bcd8 : ∀ a, a < 16 → ∀ b, b < 256 → bcn (256 * (128 + a) + b) = pb (256 * (128 + a) + b) := by decide +kernel
theorem bcd9 : ∀ a, a < 16 → ∀ b, b < 256 → bcn (256 * (144 + a) + b) = pb (256 * (144 + a) + b) := by decide +kernel
theorem bcd10 : ∀ a, a < 16 → ∀ b, b < 256 → bcn (256 * (160 + a) + b) = pb (256 * (160 + a) + b) := by decide +kernel
theorem bcd11 : ∀ a, a < 16 → ∀ b, b < 256 → bcn (256 * (176 + a) + b) = pb (256 * (176 + a) + b) := by decide +kernel
theorem bcd12 : ∀ a, a < 16 → ∀ b, b < 256 → bcn (256 * (192 + a) + b) = pb (256 * (192 + a) + b) := by decide +kernel
theorem bcd13 : ∀ a, a < 16 → ∀ b, b < 256 → bcn (256 * (208 + a) + b) = pb (256 * (208 + a) + b) := by decide +kernel
theorem bcd14 : ∀ a, a < 16 → ∀ b, b < 256 → bcn (256 * (224 + a) + b) = pb (256 * (224 + a) + b) := by decide +kernel
theorem bcd15 : ∀ a, a < 16 → ∀ b, b < 256 → bcn (256 * (240 + a) + b) = pb (256 * (240 + a) + b) := by decide +kernel
theorem ush {n k : Nat} (s : Int32) (hn : n < 2 ^ 32) (hs : ((s.toUInt32 &&& Int32.toUInt32 31).toBitVec % 32).toNat = k) : ((nI n).toUInt32 >>> (s.toUInt32 &&& Int32.toUInt32 31)).toInt32 = nI (n / 2 ^ k) := pk_ushrN hn s k hs
theorem bc_nI {x : Nat} (hx : x < 65536) : fJ6_bitCount_0f7a4 (nI x) = some (nI (bcn x)) := by
  have h1 : x / 2 ^ 1 &&& 1431655765 ≤ x := Nat.le_trans Nat.and_le_left (Nat.div_le_self _ _)
  have b1 : bc1 x < 2 ^ 16 := Nat.lt_of_le_of_lt (Nat.sub_le _ _) hx
  have b2 : bc2 (bc1 x) < 2 ^ 31 := by
    have p1 : bc1 x &&& 858993459 ≤ 858993459 := Nat.and_le_right
    have p2 : bc1 x / 2 ^ 2 &&& 858993459 ≤ 858993459 := Nat.and_le_right
    unfold bc2
    omega
  have b3 : bc3 (bc2 (bc1 x)) ≤ 252645135 := Nat.and_le_right
  have b4 : bc4 (bc3 (bc2 (bc1 x))) < 2 ^ 31 := by
    have : bc3 (bc2 (bc1 x)) / 2 ^ 8 ≤ bc3 (bc2 (bc1 x)) := Nat.div_le_self _ _
    unfold bc4
    omega
  unfold fJ6_bitCount_0f7a4
  rw [lt1_e, lt1_e, lt1_e, lt1_e, lt1_e]
  have s1 : nI x - (((nI x).toUInt32 >>> ((1 : Int32).toUInt32 &&& Int32.toUInt32 31)).toInt32 &&& (1431655765 : Int32)) = nI (bc1 x) := by
    rw [ush (k := 1) 1 (by omega) (by decide), show (1431655765 : Int32) = nI 1431655765 from rfl, nI_and, pk_sub h1]
    rfl
  rw [s1]
  have s2 : (nI (bc1 x) &&& (858993459 : Int32)) + (((nI (bc1 x)).toUInt32 >>> ((2 : Int32).toUInt32 &&& Int32.toUInt32 31)).toInt32 &&& (858993459 : Int32)) = nI (bc2 (bc1 x)) := by
    rw [ush (k := 2) 2 (by omega) (by decide), show (858993459 : Int32) = nI 858993459 from rfl, nI_and, nI_and, nI_add]
    rfl
  rw [s2]
  have s3 : (nI (bc2 (bc1 x)) + ((nI (bc2 (bc1 x))).toUInt32 >>> ((4 : Int32).toUInt32 &&& Int32.toUInt32 31)).toInt32) &&& (252645135 : Int32) = nI (bc3 (bc2 (bc1 x))) := by
    rw [ush (k := 4) 4 (by omega) (by decide), show (252645135 : Int32) = nI 252645135 from rfl, nI_add, nI_and]
    rfl
  rw [s3]
  have s4 : nI (bc3 (bc2 (bc1 x))) + ((nI (bc3 (bc2 (bc1 x)))).toUInt32 >>> ((8 : Int32).toUInt32 &&& Int32.toUInt32 31)).toInt32 = nI (bc4 (bc3 (bc2 (bc1 x)))) := by
    rw [ush (k := 8) 8 (by omega) (by decide), nI_add]
    rfl
  rw [s4]
  have s5 : (nI (bc4 (bc3 (bc2 (bc1 x)))) + ((nI (bc4 (bc3 (bc2 (bc1 x))))).toUInt32 >>> ((16 : Int32).toUInt32 &&& Int32.toUInt32 31)).toInt32) &&& (63 : Int32) = nI (bcn x) := by
    rw [ush (k := 16) 16 (by omega) (by decide), show (63 : Int32) = nI 63 from rfl, nI_add, nI_and]
    rfl
  rw [s5]
theorem bc_pb {x : Nat} (hx : x < 65536) : bcn x = pb x := by
  rcases (by omega : x / 4096 = 0 ∨ x / 4096 = 1 ∨ x / 4096 = 2 ∨ x / 4096 = 3 ∨ x / 4096 = 4 ∨ x / 4096 = 5 ∨ x / 4096 = 6 ∨ x / 4096 = 7 ∨ x / 4096 = 8 ∨ x / 4096 = 9 ∨ x / 4096 = 10 ∨ x / 4096 = 11 ∨ x / 4096 = 12 ∨ x / 4096 = 13 ∨ x / 4096 = 14 ∨ x / 4096 = 15) with q | q | q | q | q | q | q | q | q | q | q | q | q | q | q | q
  · have := bcd0 (x / 256 - 0) (by omega) (x % 256) (by omega)
    rw [show 256 * (0 + (x / 256 - 0)) + x % 256 = x by omega] at this
    exact this
  · have := bcd1 (x / 256 - 16) (by omega) (x % 256) (by omega)
    rw [show 256 * (16 + (x / 256 - 16)) + x % 256 = x by omega] at this
    exact this
  · have := bcd2 (x / 256 - 32) (by omega) (x % 256) (by omega)
    rw [show 256 * (32 + (x / 256 - 32)) + x % 256 = x by omega] at this
    exact this
  · have := bcd3 (x / 256 - 48) (by omega) (x % 256) (by omega)
    rw [show 256 * (48 + (x / 256 - 48)) + x % 256 = x by omega] at this
    exact this
  · have := bcd4 (x / 256 - 64) (by omega) (x % 256) (by omega)
    rw [show 256 * (64 + (x / 256 - 64)) + x % 256 = x by omega] at this
    exact this
  · have := bcd5 (x / 256 - 80) (by omega) (x % 256) (by omega)
    rw [show 256 * (80 + (x / 256 - 80)) + x % 256 = x by omega] at this
    exact this
  · have := bcd6 (x / 256 - 96) (by omega) (x % 256) (by omega)
    rw [show 256 * (96 + (x / 256 - 96)) + x % 256 = x by omega] at this
    exact this
  · have := bcd7 (x / 256 - 112) (by omega) (x % 256) (by omega)
    rw [show 256 * (112 + (x / 256 - 112)) + x % 256 = x by omega] at this
    exact this
  · have := bcd8 (x / 256 - 128) (by omega) (x % 256) (by omega)
    rw [show 256 * (128 + (x / 256 - 128)) + x % 256 = x by omega] at this
    exact this
  · have := bcd9 (x / 256 - 144) (by omega) (x % 256) (by omega)
    rw [show 256 * (144 + (x / 256 - 144)) + x % 256 = x by omega] at this
    exact this
  · have := bcd10 (x / 256 - 160) (by omega) (x % 256) (by omega)
    rw [show 256 * (160 + (x / 256 - 160)) + x % 256 = x by omega] at this
    exact this
  · have := bcd11 (x / 256 - 176) (by omega) (x % 256) (by omega)
    rw [show 256 * (176 + (x / 256 - 176)) + x % 256 = x by omega] at this
    exact this
  · have := bcd12 (x / 256 - 192) (by omega) (x % 256) (by omega)
    rw [show 256 * (192 + (x / 256 - 192)) + x % 256 = x by omega] at this
    exact this
  · have := bcd13 (x / 256 - 208) (by omega) (x % 256) (by omega)
    rw [show 256 * (208 + (x / 256 - 208)) + x % 256 = x by omega] at this
    exact this
  · have := bcd14 (x / 256 - 224) (by omega) (x % 256) (by omega)
    rw [show 256 * (224 + (x / 256 - 224)) + x % 256 = x by omega] at this
    exact this
  · have := bcd15 (x / 256 - 240) (by omega) (x % 256) (by omega)
    rw [show 256 * (240 + (x / 256 - 240)) + x % 256 = x by omega] at this
    exact this
def c1 (Q : Nat → Bool) (n : Nat) : Nat := sm (fun k => if Q k = true then 1 else 0) n
theorem c1_s (Q : Nat → Bool) (n : Nat) : c1 Q (n + 1) = c1 Q n + (if Q n = true then 1 else 0) := rfl
theorem c1_add (Q : Nat → Bool) (a b : Nat) : c1 Q (a + b) = c1 Q a + c1 (fun x => Q (a + x)) b := by
  induction b with
  | zero => rfl
  | succ b ih => rw [← Nat.add_assoc, c1_s, ih, c1_s, Nat.add_assoc]
theorem sm_c {f g : Nat → Nat} {n : Nat} (h : ∀ j, j < n → f j = g j) : sm f n = sm g n := by
  induction n with
  | zero => rfl
  | succ n ih => rw [sm_s, sm_s, ih (fun j hj => h j (by omega)), h n (by omega)]
theorem land_bc (sea : Nat → Int32) (y : Nat) : fJ6_bitCount_0f7a4 (nI (lr sea y 16)) = some (nI (c1 (fun x => decide (sea (78 + (16 * y + x)) = 1)) 16)) := by
  have hl := lr_lt sea y 16
  rw [bc_nI hl, bc_pb hl, ← pb_sm]
  congr 2
  refine sm_c (fun j hj => ?_)
  have := lr_bit sea y 16 j hj
  unfold bit at this
  show lr sea y 16 / 2 ^ j % 2 = if decide (sea (78 + (16 * y + j)) = 1) = true then 1 else 0
  rw [← Nat.add_assoc, ← this]
  by_cases q : lr sea y 16 / 2 ^ j % 2 = 1
  · rw [if_pos (decide_eq_true q), q]
  · rw [if_neg (by rw [decide_eq_false q]; decide)]
    omega
theorem oddsOf_m {m : Mem} (hM : RMok m) {k : Nat} (hk : k < 90) : fX12_oddsOf 0 (nI k) m = some (m.1 4 (13 + 2 * k)) := by
  have e : ((12 : Int32) + (2 : Int32) * nI k) + 1 = nI (13 + 2 * k) := by
    rw [show 13 + 2 * k = 12 + 2 * k + 1 by omega]
    exact ix2 12 2 k 1
  simp only [fX12_oddsOf, km_s, rm_s hM, eq_self, gp_tt, bnd_s, e, inb_nI (show 13 + 2 * k < 206 by omega) (by decide), nI_clamp (show 13 + 2 * k < 2 ^ 31 by omega)]
theorem so_s (sea : Nat → Int32) (n : Nat) : so sea (n + 1) = so sea n + sv sea (13 + 2 * n) := rfl
theorem allOdds_m {m : Mem} (hM : RMok m) (hB : SeaB (m.1 4)) : fX12_allOdds 0 m = some (nI (so (m.1 4) (sv (m.1 4) 0))) := by
  obtain ⟨e0, b0⟩ := sea_nI hB (j := 0) (by decide)
  have b0 : sv (m.1 4) 0 ≤ 4 := b0
  generalize hn : sv (m.1 4) 0 = n at e0 b0 ⊢
  simp only [fX12_allOdds, fX12_allOdds_4, lt1_e]
  rw [show ((0 : Int32), (0 : Int32)) = (fun k => (nI (so (m.1 4) k), nI k)) 0 from rfl, iter_traj (fun k => (nI (so (m.1 4) k), nI k)) n (nI (so (m.1 4) n)) (by omega) ?_ ?_, bnd_s]
  · intro k hk
    have ek := (sea_nI hB (j := 13 + 2 * k) (by omega)).1
    simp only [fX12_allOdds_4b, km_s, rm_s hM, eq_self, gp_tt, bnd_s, clL, inL, e0, lt1_e, if_neg (nI_ge hk (by omega)), oddsOf_m hM (show k < 90 by omega), nI_1, so_s]
    rw [ek, nI_add]
  · simp only [fX12_allOdds_4b, km_s, rm_s hM, eq_self, gp_tt, bnd_s, clL, inL, e0, if_pos (nI_le (Nat.le_refl n) (by omega))]
theorem op37 : Op37 Rel := by
  intro mc mm h v1
  obtain ⟨hM, w, s, d, hC, hws, hRows, hTape, hMisc, hW, hS, hImg, hTr⟩ := id h
  simp only [fX11_count, fX12_count, bnd_s, lt1_e, km_s, kc_s, rc_s hC, rc_w hC hws.w, kc_w hws.w, rm_s hM, th_1, eq_self, gp_tt, clL, inL, hW.2.1.1, hW.2.1.2.1, hW.2.1.2.2.1, hW.2.1.2.2.2, hW.2.2.2.2.2.1, hW.2.2.2.2.2.2.2.1.1, hW.2.2.2.2.2.2.2.1.2]
  by_cases h0 : v1 = 0
  · rw [if_pos h0, if_pos h0]
    have P : ∀ r, r < 8 → (mm.1 1 r = -1 ∨ (¬ mm.1 1 r = -1 ∧ ¬ mm.1 1 r < 0)) := by
      intro r hr
      rcases (hRows r hr).2 with q | ⟨l, q1, q2, -⟩
      · exact Or.inl q
      · rw [q2]
        refine Or.inr ?_
        rcases (by omega : l = 0 ∨ l = 1 ∨ l = 2) with rfl | rfl | rfl <;> decide
    simp only [fX11_rowsThere, fX11_rowsThere_4, fX12_count_62, lt1_e]
    have t1 : iter (fun s => fX11_rowsThere_4b 0 s.1 s.2 mc) FU ((0 : Int32), (0 : Int32)) = some (nI (c1 (fun r => !decide (mm.1 1 r = -1)) 8)) := by
      refine iter_traj (fun k => (nI (c1 (fun r => !decide (mm.1 1 r = -1)) k), nI k)) 8 _ (by omega) (fun k hk => ?_) ?_
      · obtain ⟨k1, k2, k3⟩ := kc_r k hk
        obtain ⟨r1, r2⟩ := rc_r hC k hk
        simp only [fX11_rowsThere_4b, fX11_rowsThere_25, fX6_isMissing, kc_s, rc_s hC, eq_self, gp_tt, bnd_s, lt1_e, if_neg (show ¬ (8 : Int32) ≤ nI k from nI_ge (b := 8) hk (by decide)), inb_nI hk (by decide), nI_clamp (show k < 2 ^ 31 by omega), r1, k1, (hRows k hk).1, c1_s]
        by_cases q : mm.1 1 k = -1
        · simp [q, nI_1, bnd_s]
        · simp [q, nI_1, bnd_s]
      · simp only [fX11_rowsThere_4b, if_pos (show (8 : Int32) ≤ nI 8 by decide)]
    have t2 : iter (fun s => fX12_count_62b 0 s.1 s.2 (uI mm 0 0 0)) FU ((0 : Int32), (0 : Int32)) = some (nI (c1 (fun r => !decide (mm.1 1 r = -1)) 8)) := by
      refine iter_traj (fun k => (nI (c1 (fun r => !decide (mm.1 1 r = -1)) k), nI k)) 8 _ (by omega) (fun k hk => ?_) ?_
      · simp only [fX12_count_62b, fX12_count_83, km_s, rm_s hM, th_1, eq_self, gp_tt, bnd_s, lt1_e, if_neg (show ¬ (8 : Int32) ≤ nI k from nI_ge (b := 8) hk (by decide)), inb_nI hk (by decide), nI_clamp (show k < 2 ^ 31 by omega), c1_s]
        rcases P k hk with q | ⟨q, q2⟩
        · rw [q, if_pos (by decide)]
          simp [nI_1, bnd_s]
        · rw [if_neg q2]
          simp [q, nI_1, bnd_s]
      · simp only [fX12_count_62b, if_pos (show (8 : Int32) ≤ nI 8 by decide)]
    rw [t1, t2]
    exact ⟨_, _, rfl, rfl, h.thrown⟩
  rw [if_neg h0, if_neg h0]
  by_cases h1 : v1 = 1
  · rw [if_pos h1, if_pos h1]
    exact ⟨_, _, rfl, rfl, h.thrown⟩
  rw [if_neg h1, if_neg h1]
  by_cases h2 : v1 = 2
  · rw [if_pos h2, if_pos h2]
    exact ⟨_, _, rfl, rfl, h.thrown⟩
  rw [if_neg h2, if_neg h2]
  by_cases h3 : v1 = 3
  · rw [if_pos h3, if_pos h3]
    simp only [fX9_cellsOfLand, fX9_cellsOfLand_4, fX12_count_121, lt1_e]
    generalize hQ : (fun k => decide (mm.1 4 (78 + k) = 1)) = Q
    have t1 : iter (fun s => fX9_cellsOfLand_4b (w + 1) s.1 s.2 mc) FU ((0 : Int32), (0 : Int32)) = some (nI (c1 Q (16 * 8))) := by
      refine iter_traj (fun k => (nI (c1 Q (16 * k)), nI k)) 8 _ (by omega) (fun k hk => ?_) ?_
      · have e := land_bc (mm.1 4) k
        simp only [fX9_cellsOfLand_4b]
        rw [if_neg (show ¬ (8 : Int32) ≤ nI k from nI_ge (b := 8) hk (by decide)), gp_pos (kc_w hws.w).2.1, (rc_w hC hws.w).2.2.2.2.1, bnd_s, gp_pos (kc_w hws.w).2.2.1, (nc_w hws.w).1, gp_pos (inb_nI hk (by decide)), nI_clamp (show k < 2 ^ 31 by omega), hW.2.2.2.1 k hk, e, bnd_s, lt1_e, lt1_e, nI_1, nI_add, Nat.mul_succ, c1_add, ← hQ]
      · simp only [fX9_cellsOfLand_4b, if_pos (show (8 : Int32) ≤ nI 8 by decide)]
    have t2 : iter (fun s => fX12_count_121b 0 s.1 s.2 (uI mm 0 0 0)) FU ((0 : Int32), (0 : Int32)) = some (nI (c1 Q 128)) := by
      refine iter_traj (fun k => (nI (c1 Q k), nI k)) 128 _ (by omega) (fun k hk => ?_) ?_
      · simp only [fX12_count_121b, fX12_count_142, km_s, land_m hM.th hk, th_1, eq_self, gp_tt, bnd_s, lt1_e, if_neg (show ¬ (128 : Int32) ≤ nI k from nI_ge (b := 128) hk (by decide)), c1_s, ld, nI_1]
        rw [← hQ]
        by_cases q : mm.1 4 (78 + k) = 1
        · simp [q, nI_1, bnd_s]
        · simp [q, nI_1, bnd_s]
      · simp only [fX12_count_121b, if_pos (show (128 : Int32) ≤ nI 128 by decide)]
    rw [t1, t2]
    exact ⟨_, _, rfl, rfl, h.thrown⟩
  rw [if_neg h3, if_neg h3]
  by_cases h4 : v1 = 4
  · subst h4
    rw [if_pos rfl, if_pos rfl]
    exact ⟨_, _, rfl, rfl, h.thrown⟩
  rw [if_neg h4, if_neg h4]
  by_cases h5 : v1 = 5
  · subst h5
    rw [if_pos rfl, if_pos rfl]
    exact ⟨_, _, rfl, rfl, h.thrown⟩
  rw [if_neg h5, if_neg h5]
  by_cases h6 : v1 = 6
  · subst h6
    rw [if_pos rfl, if_pos rfl]
    exact ⟨_, _, rfl, rfl, h.thrown⟩
  rw [if_neg h6, if_neg h6]
  by_cases h7 : v1 = 7
  · rw [if_pos h7, if_pos h7]
    obtain ⟨L, hL, t1, t2, t3⟩ := hTape
    rw [t1, t2]
    exact ⟨_, _, rfl, rfl, h.thrown⟩
  rw [if_neg h7, if_neg h7]
  by_cases h8 : v1 = 8
  · rw [if_pos h8, if_pos h8, allOdds_m (m := uI mm 0 0 0) hM hS.2.1, bnd_s]
    exact ⟨_, _, rfl, rfl, h.thrown⟩
  rw [if_neg h8, if_neg h8]
  exact ⟨_, _, rfl, rfl, h.thrown⟩
