def pc (k : Nat) : Nat := k % 2 + k / 2 % 2 + k / 4 % 2 + k / 8 % 2 + k / 16 % 2 + k / 32 % 2
def st : Nat → Nat → Int32 × Int32
  | k, 0 => (0, nI k)
  | k, j + 1 => ((st k j).1 + 1, (st k j).2 &&& ((st k j).2 - 1))
theorem pcs : ∀ k, k < 64 → fJ6_bitCount_0f7a4 (nI k) = some (nI (pc k)) ∧ (∀ j, j < pc k → fX12_bits_4b (st k j).1 (st k j).2 = some (.inl (st k (j + 1)))) ∧ fX12_bits_4b (st k (pc k)).1 (st k (pc k)).2 = some (.inr (nI (pc k))) ∧ pc k ≤ 6 := by decide +kernel
theorem bits_m {k : Nat} (hk : k < 64) : fX12_bits (nI k) = some (nI (pc k)) := by
  obtain ⟨-, h1, h2, h3⟩ := pcs k hk
  simp only [fX12_bits, fX12_bits_4, lt1_e]
  rw [show ((0 : Int32), nI k) = st k 0 from rfl, iter_traj (st k) (pc k) (nI (pc k)) (by omega) h1 h2, bnd_s]
theorem or2 : ∀ n, n < 6 → ∀ k, k < 2 ^ n → nI k ||| ((1 : Int32) <<< (nI n &&& 31)) = nI (k + 2 ^ n) := by decide +kernel
theorem sw_lt (f : Nat → Int32) (s : Int32) : ∀ n, n ≤ 6 → ∃ k, k < 2 ^ n ∧ sw f s n = nI k := by
  intro n
  induction n with
  | zero => intro _; exact ⟨0, by decide, rfl⟩
  | succ n ih =>
    intro hn
    obtain ⟨k, hk, e⟩ := ih (by omega)
    rw [sw_s, e]
    have : 2 ^ (n + 1) = 2 ^ n + 2 ^ n := by rw [Nat.pow_succ]; omega
    split
    · exact ⟨k, by omega, rfl⟩
    · exact ⟨k + 2 ^ n, by omega, or2 n (by omega) k hk⟩
def pw (x : Int32) : Nat := pc x.toNatClampNeg
theorem pw_le {x : Int32} (h : ∃ k, k < 64 ∧ x = nI k) : fJ6_bitCount_0f7a4 x = some (nI (pw x)) ∧ fX12_bits x = some (nI (pw x)) ∧ pw x ≤ 6 := by
  obtain ⟨k, hk, rfl⟩ := h
  have e : pw (nI k) = pc k := by unfold pw; rw [nI_clamp (by omega)]
  rw [e]
  exact ⟨(pcs k hk).1, bits_m hk, (pcs k hk).2.2.2⟩
def nt (set : Int32) (Q : Nat → Int32) : Nat → Int32 × Int32
  | 0 => (-1000000, -1)
  | n + 1 => if bt set (nI n) = 0 then (if Q n ≤ (nt set Q n).2 then nt set Q n else (nI n, Q n)) else nt set Q n
theorem nt_s (set : Int32) (Q : Nat → Int32) (n : Nat) : nt set Q (n + 1) = if bt set (nI n) = 0 then (if Q n ≤ (nt set Q n).2 then nt set Q n else (nI n, Q n)) else nt set Q n := rfl
theorem nt_ge {set : Int32} {Q : Nat → Int32} : ∀ n, (∀ j, j < n → (-1 : Int32) ≤ Q j) → (-1 : Int32) ≤ (nt set Q n).2 := by
  intro n
  induction n with
  | zero => intro _; exact (by decide : (-1 : Int32) ≤ -1)
  | succ n ih =>
    intro h
    have h1 := ih (fun j hj => h j (by omega))
    have h2 := h n (by omega)
    rw [nt_s]
    split
    · split
      · exact h1
      · exact h2
    · exact h1
theorem m36 : ∀ a, a ≤ 6 → ∀ b, b ≤ 6 → (-1 : Int32) ≤ nI a * nI b := by decide +kernel
theorem op30 : Op30 Rel := by
  intro mc mm h v1
  obtain ⟨hM, w, s, d, hC, hws, hRows, hTape, hMisc, hW, hS, hImg, hTr⟩ := id h
  obtain ⟨e4, b4⟩ := sea_nI hS.2.1 (j := 4) (by decide)
  have b4 : sv (mm.1 4) 4 ≤ 10 := b4
  obtain ⟨e5, b5⟩ := sea_nI hS.2.1 (j := 5) (by decide)
  have b5 : sv (mm.1 4) 5 ≤ 6 := b5
  have hst : mc.1 (w + 9) 6 = nI (sv (mm.1 4) 5) := by rw [hW.2.2.2.2.2.2.2.1.2]; exact e5
  have kw := kc_w hws.w
  have nw := nc_w hws.w
  simp only [fX11_next, fX12_next_, bnd_s, lt1_e, km_s, kc_s, rc_s hC, rc_w hC hws.w, kc_w hws.w, rm_s hM, th_1, eq_self, gp_tt, areSigns_c hws.w, areSigns_m hM.th, hW.1, hW.2.2.2.2.2.2.2.1.1]
  by_cases h0 : mm.1 0 7 = 0
  · exact ⟨_, _, if_pos h0, if_pos h0, h.thrown⟩
  simp only [if_neg h0]
  by_cases h2 : iw v1 0 ((1 : Int32) <<< (mm.1 4 4 &&& 31) - 1) = 0
  · exact ⟨_, _, if_pos h2, if_pos h2, h.thrown⟩
  simp only [if_neg h2]
  have hA : ∀ k, ∃ a, a < 64 ∧ sw (mc.1 (w + 12)) (nI k) (sv (mm.1 4) 5) = nI a := fun k => by
    obtain ⟨a, ha, e⟩ := sw_lt (mc.1 (w + 12)) (nI k) (sv (mm.1 4) 5) b5
    exact ⟨a, Nat.lt_of_lt_of_le ha (Nat.pow_le_pow_right (by decide) b5), e⟩
  have hB : ∀ k, ∃ a, a < 64 ∧ sw (mc.1 (w + 13)) (nI k) (sv (mm.1 4) 5) = nI a := fun k => by
    obtain ⟨a, ha, e⟩ := sw_lt (mc.1 (w + 13)) (nI k) (sv (mm.1 4) 5) b5
    exact ⟨a, Nat.lt_of_lt_of_le ha (Nat.pow_le_pow_right (by decide) b5), e⟩
  have sA : ∀ k, fX12_storiesBy 0 (nI k) 1 (uI mm 0 0 0) = some (sw (mc.1 (w + 12)) (nI k) (sv (mm.1 4) 5)) := fun k => by
    rw [show (1 : Int32) = nI 1 from rfl, storiesBy_m hM.th (nI k) b5 (show 1 ≤ 2 by decide) e5, sw_c (f := mc.1 (w + 12)) (g := fun j => (uI mm 0 0 0).1 4 (60 + 3 * j + 1)) (nI k) (fun j hj => by rw [(hW.2.2.2.2.2.2.2.2.2 j hj).1, show 60 + 3 * j + 1 = 61 + 3 * j by omega]; rfl)]
  have sB : ∀ k, fX12_storiesBy 0 (nI k) 2 (uI mm 0 0 0) = some (sw (mc.1 (w + 13)) (nI k) (sv (mm.1 4) 5)) := fun k => by
    rw [show (2 : Int32) = nI 2 from rfl, storiesBy_m hM.th (nI k) b5 (show 2 ≤ 2 by decide) e5, sw_c (f := mc.1 (w + 13)) (g := fun j => (uI mm 0 0 0).1 4 (60 + 3 * j + 2)) (nI k) (fun j hj => by rw [(hW.2.2.2.2.2.2.2.2.2 j hj).2.1, show 60 + 3 * j + 2 = 62 + 3 * j by omega]; rfl)]
  have cA : ∀ k, fX1_storiesWith (w + 9) (nI k) (w + 12) mc = some (sw (mc.1 (w + 12)) (nI k) (sv (mm.1 4) 5)) := fun k => storiesWith_c hws.w kw.2.2.2.2.2.2.2.2.2.2.2.2.1 nw.2.2.2.2.2.2.2.1 (nI k) b5 hst
  have cB : ∀ k, fX1_storiesWith (w + 9) (nI k) (w + 13) mc = some (sw (mc.1 (w + 13)) (nI k) (sv (mm.1 4) 5)) := fun k => storiesWith_c hws.w kw.2.2.2.2.2.2.2.2.2.2.2.2.2.1 nw.2.2.2.2.2.2.2.2.1 (nI k) b5 hst
  generalize hAA : (fun k => sw (mc.1 (w + 12)) (nI k) (sv (mm.1 4) 5)) = A
  generalize hBB : (fun k => sw (mc.1 (w + 13)) (nI k) (sv (mm.1 4) 5)) = B
  have tA : ∀ k, sw (mc.1 (w + 12)) (nI k) (sv (mm.1 4) 5) = A k := fun k => congrFun hAA k
  have tB : ∀ k, sw (mc.1 (w + 13)) (nI k) (sv (mm.1 4) 5) = B k := fun k => congrFun hBB k
  simp only [tA] at hA sA cA
  simp only [tB] at hB sB cB
  have pA := fun k => pw_le (hA k)
  have pB := fun k => pw_le (hB k)
  have hq : ∀ n, (-1 : Int32) ≤ (nt v1 (fun k => nI (pw (A k)) * nI (pw (B k))) n).2 := fun n => nt_ge n (fun j _ => m36 _ (pA j).2.2 _ (pB j).2.2)
  have c1 : fX1_signToAskFor (w + 9) v1 mc = some (nt v1 (fun k => nI (pw (A k)) * nI (pw (B k))) (sv (mm.1 4) 4)).1 := by
    simp only [fX1_signToAskFor, fX1_signToAskFor_8, lt1_e]
    rw [show ((-1000000 : Int32), (-1 : Int32), (0 : Int32)) = (fun k => ((nt v1 (fun k => nI (pw (A k)) * nI (pw (B k))) k).1, (nt v1 (fun k => nI (pw (A k)) * nI (pw (B k))) k).2, nI k)) 0 from rfl, iter_traj (fun k => ((nt v1 (fun k => nI (pw (A k)) * nI (pw (B k))) k).1, (nt v1 (fun k => nI (pw (A k)) * nI (pw (B k))) k).2, nI k)) (sv (mm.1 4) 4) (nt v1 (fun k => nI (pw (A k)) * nI (pw (B k))) (sv (mm.1 4) 4)).1 (by omega) ?_ ?_, bnd_s]
    · intro k hk
      simp only [fX1_signToAskFor_8b, kc_w hws.w, rc_w hC hws.w, eq_self, gp_tt, hW.2.2.2.2.2.2.2.1.1, e4, if_neg (nI_ge hk (by omega))]
      rw [bnd_s, cA k, bnd_s, (pA k).1, bnd_s, bnd_s, cB k, bnd_s, (pB k).1, bnd_s, lt1_e, isIn_e, bnd_s]
      simp only [fX1_signToAskFor_71, lt1_e, nI_1]
      rw [nt_s]
      by_cases g : bt v1 (nI k) = 0
      · simp only [if_pos g]
        by_cases g2 : nI (pw (A k)) * nI (pw (B k)) ≤ (nt v1 (fun k => nI (pw (A k)) * nI (pw (B k))) k).2
        · simp only [if_pos g2]
        · simp only [if_neg g2]
      · simp only [if_neg g]
    · simp only [fX1_signToAskFor_8b, kc_w hws.w, eq_self, gp_tt, hW.2.2.2.2.2.2.2.1.1, e4, if_pos (nI_le (Nat.le_refl (sv (mm.1 4) 4)) (by omega))]
  have c2 : fX12_next__36 0 v1 (-1000000) (-1) 0 (uI mm 0 0 0) = some ((nt v1 (fun k => nI (pw (A k)) * nI (pw (B k))) (sv (mm.1 4) 4)).1.toInt64, uI mm 0 0 0) := by
    simp only [fX12_next__36]
    rw [show ((-1000000 : Int32), (-1 : Int32), (0 : Int32)) = (fun k => ((nt v1 (fun k => nI (pw (A k)) * nI (pw (B k))) k).1, (nt v1 (fun k => nI (pw (A k)) * nI (pw (B k))) k).2, nI k)) 0 from rfl, iter_traj (fun k => ((nt v1 (fun k => nI (pw (A k)) * nI (pw (B k))) k).1, (nt v1 (fun k => nI (pw (A k)) * nI (pw (B k))) k).2, nI k)) (sv (mm.1 4) 4) (nt v1 (fun k => nI (pw (A k)) * nI (pw (B k))) (sv (mm.1 4) 4)).1 (by omega) ?_ ?_, bnd_s]
    · intro k hk
      simp only [fX12_next__36b, fX12_next__82, fX12_next__96, fX12_next__109, km_s, rm_s hM, eq_self, gp_tt, bnd_s, clL, inL, th_1, e4, if_neg (nI_ge hk (by omega)), sA, sB, pA, pB, lt1_e, nI_1]
      rw [nt_s]
      by_cases g : (v1 >>> (nI k &&& 31)) &&& 1 = 1
      · rw [if_pos g, if_neg (fun q => bt_0.mp q g), if_pos (hq k)]
        simp only [if_pos (hq k)]
      · rw [if_neg g, if_pos (bt_0.mpr g)]
        by_cases g2 : nI (pw (A k)) * nI (pw (B k)) ≤ (nt v1 (fun k => nI (pw (A k)) * nI (pw (B k))) k).2
        · simp only [if_pos g2]
        · simp only [if_neg g2]
    · simp only [fX12_next__36b, km_s, rm_s hM, eq_self, gp_tt, bnd_s, clL, inL, th_1, e4, if_pos (nI_le (Nat.le_refl (sv (mm.1 4) 4)) (by omega))]
  rw [c1, c2, bnd_s]
  exact ⟨_, _, rfl, rfl, h.thrown⟩
