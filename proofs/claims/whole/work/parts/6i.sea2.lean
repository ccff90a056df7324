theorem clear_w {s w : Nat} {d : Bool} {m : Mem} (hC : RCok m w s d) (hb : WI s) : ∃ m2, fX10_clear s m = some m2 ∧ m2.2 = m.2 ∧ (∀ a, ¬ (s ≤ a ∧ a ≤ s + 14) → m2.1 a = m.1 a) ∧ ZC s m2 := by
  have kc := kc_w hb
  have rw0 : ∀ m' : Mem, m'.2 = m.2 → RCok m' w s d := fun m' e a ha k hk => by rw [e]; exact hC a ha k hk
  -- the waters
  have c9 : ∀ m' : Mem, m'.2 = m.2 → fX9_clear (s + 1) m' = some (wi (uI (uI (uI (uI m' (s + 1) 3 0) (s + 1) 4 0) (s + 1) 5 0) (s + 1) 6 0) (s + 2) 0 (fun _ => 0) 8) := by
    intro m' e
    unfold fX9_clear fX9_clear_22
    rw [gp_pos kc.2.1, lt1_e, lt1_e, lt1_e, lt1_e, lt1_e]
    generalize hq : uI (uI (uI (uI m' (s + 1) 3 0) (s + 1) 4 0) (s + 1) 5 0) (s + 1) 6 0 = q
    have q2 : q.2 = m.2 := by rw [← hq]; exact e
    rw [show ((0 : Int32), q) = (fun j => (nI j, wi q (s + 2) 0 (fun _ => 0) j)) 0 from rfl, iter_traj (fun j => (nI j, wi q (s + 2) 0 (fun _ => 0) j)) 8 (wi q (s + 2) 0 (fun _ => 0) 8) (by omega) ?_ ?_, bnd_s]
    · intro j hj
      have rcj := rw0 (wi q (s + 2) 0 (fun _ => 0) j) (by rw [wi_2]; exact q2)
      simp only [fX9_clear_22b, if_neg (show ¬ (8 : Int32) ≤ nI j from nI_ge (b := 8) hj (by decide)), kc, rc_w rcj hb, nc_w hb, eq_self, gp_tt, bnd_s, lt1_e, inb_nI hj (by decide), nI_clamp (show j < 2 ^ 31 by omega), nI_1, wi_s, Nat.zero_add]
    · simp only [fX9_clear_22b, if_pos (show (8 : Int32) ≤ nI 8 by decide)]
  generalize hm1 : wi (uI (uI (uI (uI (uI m s 4 0) (s + 1) 3 0) (s + 1) 4 0) (s + 1) 5 0) (s + 1) 6 0) (s + 2) 0 (fun _ => 0) 8 = m1
  have e1 : fX9_clear (s + 1) (uI m s 4 0) = some m1 := by rw [c9 (uI m s 4 0) rfl, hm1]
  have r1 : m1.2 = m.2 := by rw [← hm1, wi_2]; rfl
  obtain ⟨m2, b1, b2, b3, -⟩ := build_e (m := m1) hb 0 0 0 0
  have e2 : fX4_clear (s + 5) m1 = some m2 := by simp only [fX4_clear, kc, eq_self, gp_tt, b1, bnd_s]
  have r2 : m2.2 = m.2 := b2.trans r1
  have e3 : fX2_clear (s + 6) m2 = some (uI m2 (s + 6) 2 0) := by simp only [fX2_clear, kc, eq_self, gp_tt, lt1_e]
  have e4 : fX1_clear (s + 9) (uI m2 (s + 6) 2 0) = some (uI (uI (uI m2 (s + 6) 2 0) (s + 9) 5 0) (s + 9) 6 0) := by simp only [fX1_clear, kc, eq_self, gp_tt, lt1_e]
  have r3 : (uI m2 (s + 6) 2 0).2 = m.2 := r2
  refine ⟨uI (uI (uI m2 (s + 6) 2 0) (s + 9) 5 0) (s + 9) 6 0, ?_, r2, fun a ha => ?_, ⟨?_, ?_, ?_, ?_⟩, fun y hy => ?_, ?_, ?_, ?_⟩
  · simp only [fX10_clear, kc, eq_self, gp_tt, gp_pos (show zb (0 : Int32) = true by decide), lt1_e, uI_2, rc_w hC hb, bnd_s, e1, rc_w (rw0 m1 r1) hb, e2, rc_w (rw0 m2 r2) hb, e3, e4]
  · rw [uI_o (by omega), uI_o (by omega), uI_o (by omega), b3 a (by omega), ← hm1, wi_o 8 (by omega), uI_o (by omega), uI_o (by omega), uI_o (by omega), uI_o (by omega), uI_o (by omega)]
  · rw [uI_o (by omega), uI_o (by omega), uI_o (by omega), b3 _ (by omega), ← hm1, wi_o 8 (by omega), uI_1, if_neg (by simp), uI_1, if_neg (by simp), uI_1, if_neg (by simp), uI_1, if_pos ⟨rfl, rfl⟩]
  · rw [uI_o (by omega), uI_o (by omega), uI_o (by omega), b3 _ (by omega), ← hm1, wi_o 8 (by omega), uI_1, if_neg (by simp), uI_1, if_neg (by simp), uI_1, if_pos ⟨rfl, rfl⟩]
  · rw [uI_o (by omega), uI_o (by omega), uI_o (by omega), b3 _ (by omega), ← hm1, wi_o 8 (by omega), uI_1, if_neg (by simp), uI_1, if_pos ⟨rfl, rfl⟩]
  · rw [uI_o (by omega), uI_o (by omega), uI_o (by omega), b3 _ (by omega), ← hm1, wi_o 8 (by omega), uI_1, if_pos ⟨rfl, rfl⟩]
  · have z := wi_in (m := uI (uI (uI (uI (uI m s 4 0) (s + 1) 3 0) (s + 1) 4 0) (s + 1) 5 0) (s + 1) 6 0) (q := s + 2) (o := 0) (f := fun _ => 0) 8 hy
    rw [Nat.zero_add] at z
    rw [uI_o (by omega), uI_o (by omega), uI_o (by omega), b3 _ (by omega), ← hm1, z]
  · rw [uI_o (by omega), uI_o (by omega), uI_1, if_pos ⟨rfl, rfl⟩]
  · rw [uI_1, if_neg (by simp), uI_1, if_pos ⟨rfl, rfl⟩]
  · rw [uI_1, if_pos ⟨rfl, rfl⟩]
theorem zero_m {m : Mem} (hM : RMok m) : iter (fun q => fX12_sea_30b 0 q.1 q.2) FU ((0 : Int32), m) = some (wi m 5 0 (fun _ => 0) 206) := by
  refine iter_traj (fun j => (nI j, wi m 5 0 (fun _ => 0) j)) 206 _ (by decide) (fun j hj => ?_) ?_
  · have z : (wi m 5 0 (fun _ => 0) j).2.2 0 6 = some 5 := by rw [wi_2]; exact hM 6 (by decide)
    simp only [fX12_sea_30b, if_neg (show ¬ (206 : Int32) ≤ nI j from nI_ge (b := 206) hj (by decide)), km_s, z, eq_self, gp_tt, bnd_s, lt1_e, inb_nI hj (by decide), nI_clamp (show j < 2 ^ 31 by omega), nI_1, wi_s, Nat.zero_add]
  · simp only [fX12_sea_30b, if_pos (show (206 : Int32) ≤ nI 206 by decide)]
theorem cp_m {m : Mem} (hM : RMok m) : fX12_sea_187 0 0 m = some ((m.1 5 5).toInt64, uI (wi (wi m 4 0 (m.1 5) 206) 6 0 (fun _ => 0) 8) 6 7 (m.1 5 8)) := by
  unfold fX12_sea_187
  rw [show ((0 : Int32), m) = (fun j => (nI j, wi m 4 0 (m.1 5) j)) 0 from rfl, iter_traj (fun j => (nI j, wi m 4 0 (m.1 5) j)) 206 (wi m 4 0 (m.1 5) 206) (by decide) ?_ ?_, bnd_s]
  · generalize hm1 : wi m 4 0 (m.1 5) 206 = m1
    have hM1 : RMok m1 := fun x hx => by rw [← hm1, wi_2]; exact hM x hx
    have g4 : ∀ j, j < 206 → m1.1 4 j = m.1 5 j := fun j hj => by
      have := wi_in (m := m) (q := 4) (o := 0) (f := m.1 5) 206 hj
      rw [Nat.zero_add] at this
      rw [← hm1]; exact this
    unfold fX12_sea_212 fX12_sea_214
    rw [lt1_e, show ((0 : Int32), m1) = (fun j => (nI j, wi m1 6 0 (fun _ => 0) j)) 0 from rfl, iter_traj (fun j => (nI j, wi m1 6 0 (fun _ => 0) j)) 8 (wi m1 6 0 (fun _ => 0) 8) (by decide) ?_ ?_, bnd_s]
    · have hM2 : RMok (wi m1 6 0 (fun _ => 0) 8) := fun x hx => by rw [wi_2]; exact hM1 x hx
      have k8 : (wi m1 6 0 (fun _ => 0) 8).1 4 8 = m.1 5 8 := by rw [wi_o 8 (by decide)]; exact g4 8 (by decide)
      have k5 : ∀ v, (uI (wi m1 6 0 (fun _ => 0) 8) 6 7 v).1 4 5 = m.1 5 5 := fun v => by rw [uI_o (by decide), wi_o 8 (by decide)]; exact g4 5 (by decide)
      simp only [fX12_sea_233, km_s, rm_s hM2, eq_self, gp_tt, bnd_s, clL, inL, lt1_e, uI_2, k8, k5]
    · intro j hj
      have z : (wi m1 6 0 (fun _ => 0) j).2.2 0 8 = some 6 := by rw [wi_2]; exact hM1 8 (by decide)
      simp only [fX12_sea_214b, if_neg (show ¬ (8 : Int32) ≤ nI j from nI_ge (b := 8) hj (by decide)), km_s, z, eq_self, gp_tt, bnd_s, lt1_e, inb_nI hj (by decide), nI_clamp (show j < 2 ^ 31 by omega), nI_1, wi_s, Nat.zero_add]
    · simp only [fX12_sea_214b, if_pos (show (8 : Int32) ≤ nI 8 by decide)]
  · intro j hj
    have z : (wi m 4 0 (m.1 5) j).2.2 0 5 = some 4 := by rw [wi_2]; exact hM 5 (by decide)
    have z2 : (wi m 4 0 (m.1 5) j).2.2 0 6 = some 5 := by rw [wi_2]; exact hM 6 (by decide)
    have z3 : (wi m 4 0 (m.1 5) j).1 5 = m.1 5 := by rw [wi_o j (by decide)]
    simp only [fX12_sea_187b, if_neg (show ¬ (206 : Int32) ≤ nI j from nI_ge (b := 206) hj (by decide)), km_s, z, z2, z3, eq_self, gp_tt, bnd_s, lt1_e, inb_nI hj (by decide), nI_clamp (show j < 2 ^ 31 by omega), nI_1, wi_s, Nat.zero_add]
  · simp only [fX12_sea_187b, if_pos (show (206 : Int32) ≤ nI 206 by decide)]
/-- the whole text is read, by both -/
theorem read_s {mc mm0 : Mem} {s w L : Nat} {d : Bool} {B : Nat → Nat} (hA : BA mc mm0 s B L) (hC : RCok mc w s d) (h13 : mm0.1 0 13 = 0) (h17 : mm0.1 0 17 = 0) : ∃ mc2 mm2 f, fX5_readInto 4 s mc = fX5_readInto_92 4 s mc2 ∧ fX12_sea_30 0 0 mm0 = fX12_sea_155 0 mm2 ∧ RR mc mm0 s B L f mc2 mm2 ∧ (mm2.1 0 17 = 0 → GN 5 mc2.1 s (mm2.1 5)) := by
  have hs15 := hA.2.2.1
  have hb := hA.2.2.2.1
  have kc := kc_w hb
  have rw0 : ∀ m' : Mem, m'.2 = mc.2 → RCok m' w s d := fun m' e a ha k hk => by rw [e]; exact hC a ha k hk
  -- the start
  generalize hm13 : uI (uI mc 4 1 0) 4 2 0 = m13
  have r13 : m13.2 = mc.2 := by rw [← hm13]; rfl
  obtain ⟨m16, c1, c2, c3, c4⟩ := clear_w (rw0 m13 r13) hb
  have r16 : m16.2 = mc.2 := c2.trans r13
  have o16 : ∀ a, a ≠ 4 → ¬ (s ≤ a ∧ a ≤ s + 14) → m16.1 a = mc.1 a := fun a h4 hq => by rw [c3 a hq, ← hm13, uI_o h4, uI_o h4]
  have g16 : m16.1 4 1 = 0 := by rw [c3 4 (by omega), ← hm13, uI_1, if_neg (by decide), uI_1, if_pos ⟨rfl, rfl⟩]
  have cb : CB B L (uI m16 5 1 0) := by
    obtain ⟨⟨a1, a2, a3⟩, a4, a5, a6⟩ := hA.1
    exact ⟨⟨by rw [uI_2, r16]; exact a1, by rw [uI_2, r16]; exact a2, by rw [uI_2, r16]; exact a3⟩, a4, by rw [uI_o (by decide), o16 2 (by decide) (by omega)]; exact a5, fun j hj => by rw [uI_o (by decide), o16 3 (by decide) (by omega)]; exact a6 j hj⟩
  obtain ⟨m21, a1, a2, a3⟩ := adv_c cb (p := 0) (Nat.zero_le _) (by rw [uI_1, if_pos ⟨rfl, rfl⟩]; rfl)
  generalize hmz : wi mm0 5 0 (fun _ => 0) 206 = mz
  have zo : ∀ a, a ≠ 5 → mz.1 a = mm0.1 a := fun a ha => by rw [← hmz, wi_o 206 ha]
  have z2 : mz.2 = mm0.2 := by rw [← hmz, wi_2]
  have z5 : ∀ x, x < 206 → mz.1 5 x = 0 := fun x hx => by
    have := wi_in (m := mm0) (q := 5) (o := 0) (f := fun _ => 0) 206 hx
    rw [Nat.zero_add] at this
    rw [← hmz]; exact this
  have mb : MB B L mz := by
    obtain ⟨b1, b2, b3, b4⟩ := hA.2.1
    exact ⟨fun k hk => by rw [z2]; exact b1 k hk, b2, by rw [zo 0 (by decide)]; exact b3, fun j hj => by rw [zo 7 (by decide)]; exact b4 j hj⟩
  obtain ⟨m67, n1, n2, n3⟩ := next_m mb (p := 0) (Nat.zero_le _) (by rw [zo 0 (by decide)]; exact h13)
  have lw := pWs_le (B := B) (L := L) (p := 0) (Nat.zero_le _)
  have R0 : RR mc mm0 s B L (pWs B L 0) m21 m67 := by
    refine ⟨⟨a2.1.trans r16, n2.1.trans z2⟩, fun a h4 h5 hq => by rw [a2.2 a h5, uI_o h5, o16 a h4 hq], fun a h0 h5 => by rw [n2.2.1 a h0, zo a h5], fun x hx => by rw [n2.2.2 x (by omega), zo 0 (by decide)], lw.2, a3, pWs B L 0, lw.2, n3, Or.inl ⟨?_, ?_, rfl⟩⟩
    · rw [a2.2 4 (by decide), uI_o (by decide)]; exact g16
    · rw [n2.2.2 17 (by decide), zo 0 (by decide)]; exact h17
  have g0 : m67.1 0 17 = 0 := by rw [n2.2.2 17 (by decide), zo 0 (by decide)]; exact h17
  have zc : ZC s m21 := by
    have u : UW m16 m21 := fun a h4 h5 => by rw [a2.2 a h5, uI_o h5]
    exact c4.u hs15 u
  have fz : ∀ x, x < 206 → m67.1 5 x = 0 := fun x hx => by rw [n2.2.1 5 (by decide)]; exact z5 x hx
  -- clause by clause
  obtain ⟨mcA, mmA, fA, eA1, eA2, RA, sA, GA⟩ := size_s hA R0 g0 zc fz
  obtain ⟨mcB, mcC, mmC, fC, eB, eC, eC2, RC', sC, GC, rB⟩ := shore_s hA RA sA GA
  obtain ⟨mcD, mmD, fD, eD1, eD2, RD, sD, GD⟩ := ship_s hA RC' sC GC
  obtain ⟨mcE, mmE, fE, eE1, eE2, RE, sE, GE⟩ := men_l hA RD sD (fun g => GD g)
  obtain ⟨mcF, mmF, fF, eF1, eF2, RF, sF, GF⟩ := sig_l hA RE sE (fun g => ⟨(GE g).up ((GE g).1.2.2.2.2.1 (by decide)) (fun _ => (GE g).1.2.2.2.2.2.1 (by decide)), (GE g).1.2.2.2.2.2.2 4 (by decide) (by decide)⟩)
  obtain ⟨mcG, mmG, fG, eG1, eG2, RG, sG, GG'⟩ := stor_l hA RF sF (fun g => ⟨(GF g).up ((GF g).1.2.2.2.2.1 (by decide)) (fun _ => (GF g).1.2.2.2.2.2.1 (by decide)), (GF g).1.2.2.2.2.2.2 5 (by decide) (by decide)⟩)
  have mE : fX5_readMen 4 (s + 6) mcD = some mcE := by
    unfold fX5_readMen fX5_readMen_2
    rw [lt1_e, eE1, bnd_s]
  have mF : fX5_readSigns 4 (s + 9) mcE = some mcF := by
    unfold fX5_readSigns fX5_readSigns_2
    rw [lt1_e, eF1, bnd_s]
  have mG : fX5_readStories 4 (s + 9) mcF = some mcG := by
    unfold fX5_readStories fX5_readStories_2
    rw [lt1_e, eG1, bnd_s]
  have rwd : fX8_rewind 5 m16 = some m21 := by simp only [fX8_rewind, kc_s, eq_self, gp_tt, lt1_e, a1, bnd_s]
  have q16 := rw0 m16 r16
  have q21 := rw0 m21 R0.1.1
  have qA := rw0 mcA RA.1.1
  have qB := rw0 mcB rB
  have qC := rw0 mcC RC'.1.1
  have qD := rw0 mcD RD.1.1
  have qE := rw0 mcE RE.1.1
  have qF := rw0 mcF RF.1.1
  have qG := rw0 mcG RG.1.1
  have cls : fX5_readInto 4 s mc = if mcG.1 5 3 = 0 then fX5_readInto_92 4 s mcG else bnd (fX5_fail 4 (1 : Int32) mcG) (fun m55 => fX5_readInto_92 4 s m55) := by
    unfold fX5_readInto
    rw [gp_pos kc_s.2.2.2.2.1, lt1_e, lt1_e, hm13, gp_pos kc.1, c1, bnd_s, (rc_s q16).2.2.2.2.2.2.2.2.2.1, bnd_s, gp_pos kc_s.2.2.2.2.2.1, rwd, bnd_s, (rc_w q21 hb).1, bnd_s, eA1, bnd_s, (rc_w qA hb).1, bnd_s, eB, bnd_s, (rc_w qB hb).1, bnd_s, eC, bnd_s, (rc_w qC hb).2.1, bnd_s, eD1, bnd_s, (rc_w qD hb).2.2.1, bnd_s, mE, bnd_s, (rc_w qE hb).2.2.2.1, bnd_s, mF, bnd_s, (rc_w qF hb).2.2.2.1, bnd_s, mG, bnd_s, (rc_s qG).2.2.2.2.2.2.2.2.2.1, bnd_s, gp_pos kc_s.2.2.2.2.2.1]
  have mdl : fX12_sea_30 0 0 mm0 = fX12_sea_135 0 mmG := by
    unfold fX12_sea_30
    rw [zero_m hA.2.1.1, bnd_s, hmz]
    unfold fX12_sea_50
    rw [gp_pos km_s.1, n1, bnd_s, eA2, eC2, bnd_s, eD2]
    unfold fX12_sea_81
    rw [eE2, bnd_s]
    unfold fX12_sea_99
    rw [eF2, bnd_s]
    unfold fX12_sea_117
    rw [eG2, bnd_s]
  rw [cls, mdl]
  have a6 := RG.2.2.2.2.2.1
  have k0 := kdC (B := B) (L := L) (f := fG) (k := 0) (by decide)
  have c3' := (RG.cb hA).1.2.2
  rw [a6.2.2.1]
  by_cases g : mmG.1 0 17 = 0
  · obtain ⟨g1, g2⟩ := RG.good g
    have tk := (mT_i _ (kd4 B L fG)).2.2
    by_cases h0 : pKd B L fG = 0
    · refine ⟨mcG, mmG, fG, ?_, ?_, RG, GG'⟩
      · rw [if_pos (show nI (pKd B L fG) = 0 from k0.mpr h0)]
      · simp only [fX12_sea_135, km_s, eq_self, gp_tt, g, if_true]
        rw [g2.2.2.2, if_pos (tk.mpr h0)]
    · obtain ⟨mcH, mmH, e1, e2, e3, e4, e5, e6, e7⟩ := RG.fail hA (k := 1) (by decide) (by decide)
      have e1 : fX5_fail 4 1 mcG = some mcH := e1
      have e2 : fX12_bad 0 1 mmG = some mmH := e2
      refine ⟨mcH, mmH, fG, ?_, ?_, e3, fun z => absurd z e4⟩
      · rw [if_neg (show ¬ nI (pKd B L fG) = 0 from fun z => h0 (k0.mp z)), e1, bnd_s]
      · simp only [fX12_sea_135, km_s, eq_self, gp_tt, g, if_true, e2, bnd_s]
        rw [g2.2.2.2, if_neg (fun z => h0 (tk.mp z))]
  · have gc := RG.badc g
    have fe : fX5_fail 4 1 mcG = some mcG := by rw [fail_e _ _ c3', if_neg gc]
    refine ⟨mcG, mmG, fG, ?_, ?_, RG, fun z => absurd z g⟩
    · rw [fe, bnd_s]
      split <;> rfl
    · simp only [fX12_sea_135, km_s, eq_self, gp_tt, if_neg g]
theorem swap_ws {m m2 : Mem} {w s : Nat} {d : Bool} (hC : RCok m w s d) (h6 : m2.2.2 0 6 = some s) (h7 : m2.2.2 0 7 = some w) (h : ∀ a k, ¬ (a = 0 ∧ (k = 6 ∨ k = 7)) → m2.2.2 a k = m.2.2 a k) : RCok m2 s w d := by
  intro a ha k hk
  by_cases q : a = 0
  · subst q
    by_cases q6 : k = 6
    · subst q6; rw [h6]; rfl
    · by_cases q7 : k = 7
      · subst q7; rw [h7]; rfl
      · rw [h 0 k (by omega), hC 0 ha k hk]
        rcases (by omega : k = 0 ∨ k = 1 ∨ k = 2 ∨ k = 3 ∨ k = 4 ∨ k = 5 ∨ k = 8 ∨ k = 9) with rfl | rfl | rfl | rfl | rfl | rfl | rfl | rfl <;> rfl
  · rw [h a k (by omega), hC a ha k hk]
    unfold RC
    rw [if_neg q, if_neg q]
/-- a world that was read through stands -/
theorem stand {I : Nat → Nat → Int32} {s : Nat} {fr : Nat → Int32} (h : GN 5 I s fr) (h4 : I s 4 = 1) : WR I s fr (fun j => if j = 7 then fr 8 else 0) 1 ∧ Sok fr (fun j => if j = 7 then fr 8 else 0) 1 := by
  obtain ⟨⟨⟨a1, a2, a3, a4, a5⟩, bb, ⟨c1, c2, c3, c4, c5⟩, dd, ee, ff, gg⟩, nn⟩ := h
  obtain ⟨⟨u0, u1, u2, u3, u4, u5, u6, u7, u8⟩, d11⟩ := ff (by decide)
  refine ⟨⟨h4, a1.1, a1.2, a2, ⟨u0, u1, u2, u3, u4, u5, u6, u7, u8⟩, a3.1, a3.2, ⟨a4.1, nn⟩, a4.2, a5⟩, Or.inr rfl, bb, ?_, Or.inl ⟨rfl, rfl⟩, fun q => ?_, fun _ => ⟨dd.1, dd.2, ee (by decide), d11, c1, c4, c5, c3, c2⟩, fun q => absurd q (by decide)⟩
  · obtain ⟨e8, b8⟩ := sea_nI bb (j := 8) (by decide)
    have b8 : sv fr 8 ≤ 7 := b8
    exact ⟨sv fr 8, by omega, e8⟩
  · have q : (0 : Int32) = 1 := q
    exact absurd q (by decide)
theorem op5 : Op5 Rel := by
  intro mc mm h
  obtain ⟨hM, w, s, d, hC, hws, hRows, hTape, hMisc, hW, hS, hImg, hTr⟩ := id h
  obtain ⟨L, hL, t1, t2, t3⟩ := hTape
  have hs15 : s = 15 ∨ s = 30 := by rcases hws with ⟨-, q⟩ | ⟨-, q⟩ <;> omega
  have hw15 : (w = 15 ∧ s = 30) ∨ (w = 30 ∧ s = 15) := hws
  generalize hB : (fun j => (mm.1 7 j).toNatClampNeg) = B
  have tb : ∀ j, j < L → B j < 256 ∧ mm.1 7 j = nI (B j) ∧ mc.1 3 j = sb (B j) := fun j hj => by
    obtain ⟨k, k1, k2, k3⟩ := t3 j hj
    have e : B j = k := by
      rw [← hB]
      show (mm.1 7 j).toNatClampNeg = k
      rw [k2, nI_clamp (by omega)]
    rw [e]
    exact ⟨k1, k2, k3⟩
  generalize hm0 : uI (uI (uI (uI (uI mm 0 0 0) 0 12 (nI L)) 0 10 0) 0 13 0) 0 17 0 = mm0
  have o0 : ∀ a, a ≠ 0 → mm0.1 a = mm.1 a := fun a ha => by rw [← hm0, uI_o ha, uI_o ha, uI_o ha, uI_o ha, uI_o ha]
  have r0 : mm0.2 = mm.2 := by rw [← hm0]; rfl
  have x0 : ∀ x, x ≠ 0 → x ≠ 12 → x ≠ 10 → x ≠ 13 → x ≠ 17 → mm0.1 0 x = mm.1 0 x := fun x h1 h2 h3 h4 h5 => by rw [← hm0, uI_1, if_neg (by omega), uI_1, if_neg (by omega), uI_1, if_neg (by omega), uI_1, if_neg (by omega), uI_1, if_neg (by omega)]
  have hA : BA mc mm0 s B L := ⟨⟨⟨(rc_s hC).2.2.2.2.2.2.2.2.2.2.1, (rc_s hC).2.2.2.2.2.2.2.2.1, (rc_s hC).2.2.2.2.2.2.2.2.2.1⟩, hL, t1, fun j hj => ⟨(tb j hj).1, (tb j hj).2.2⟩⟩, ⟨fun k hk => by rw [r0]; exact hM k hk, hL, by rw [← hm0]; rfl, fun j hj => ⟨(tb j hj).1, by rw [o0 7 (by decide)]; exact (tb j hj).2.1⟩⟩, hs15, hws.s, w, d, hC⟩
  obtain ⟨mc2, mm2, f, e1, e2, R, G⟩ := read_s hA hC (by rw [← hm0]; rfl) (by rw [← hm0]; rfl)
  have kc := kc_w hws.s
  have rc2 : RCok mc2 w s d := fun a ha k hk => by rw [R.1.1]; exact hC a ha k hk
  have mb2 := R.mb hA
  have fC := R.2.1
  have fM := R.2.2.1
  have fX := R.2.2.2.1
  have mdl : fX12_sea 0 mm = fX12_sea_155 0 mm2 := by
    unfold fX12_sea
    rw [gp_pos km_s.1, lt1_e, lt1_e, lt1_e, lt1_e, lt1_e, lt1_e]
    have q : (uI mm 0 0 0).1 0 10 = nI L := t2
    rw [q, hm0]
    exact e2
  rw [mdl]
  by_cases g : mm2.1 0 17 = 0
  · -- it was read: it stands in place of the one before
    obtain ⟨g1, -⟩ := R.good g
    have gn := G g
    have c92 : fX5_readInto_92 4 s mc2 = some (uI mc2 s 4 1) := by
      simp only [fX5_readInto_92, kc_s, kc, eq_self, gp_tt, g1, if_true, gp_pos (show zb (1 : Int32) = true by decide), lt1_e]
    generalize hm12 : uI (uI mc2 s 4 1) 2 1 0 = m12
    have rc12 : RCok m12 w s d := fun a ha k hk => by rw [← hm12]; exact rc2 a ha k hk
    have g12 : m12.1 4 1 = 0 := by rw [← hm12, uI_o (by decide), uI_o (by omega)]; exact g1
    generalize hm23 : uR (uR m12 0 6 (some s)) 0 7 (some w) = m23
    have i23 : m23.1 = m12.1 := by rw [← hm23]; rfl
    have rc23 : RCok m23 s w d := swap_ws rc12 (by rw [← hm23]; rfl) (by rw [← hm23]; rfl) (fun a k q => by
      rw [← hm23]
      show (if a = 0 ∧ k = 7 then _ else if a = 0 ∧ k = 6 then _ else m12.2.2 a k) = _
      rw [if_neg (by omega), if_neg (by omega)])
    have o12 : ∀ a, a ≠ 2 → a ≠ s → m12.1 a = mc2.1 a := fun a h2 h3 => by rw [← hm12, uI_o h2, uI_o h3]
    have cls : fX11_sea 0 mc = some ((mc2.1 (s + 9) 6).toInt64, m23) := by
      unfold fX11_sea
      have emp : fX7_empty 2 (uI mc2 s 4 1) = some m12 := by
        rw [← hm12]
        simp only [fX7_empty, kc_s, eq_self, gp_tt, lt1_e]
      have rc1 : RCok (uI mc2 s 4 1) w s d := rc2
      rw [gp_pos kc_s.1, (rc_s hC).2.2.1, bnd_s, (rc_s hC).2.2.2.2.2.2.2.1, bnd_s, gp_pos kc_s.2.2.2.2.1, e1, c92, bnd_s, (rc_s rc1).2.1, bnd_s, gp_pos kc_s.2.2.1, emp, bnd_s, (rc_s rc12).2.2.1, bnd_s, gp_pos kc_s.2.2.2.2.1, if_pos g12, (rc_s rc12).2.2.2.2.2.2.1, bnd_s, (rc_s rc12).2.2.2.2.2.2.2.1, bnd_s, lt1_e, lt1_e, hm23, (rc_s rc23).2.2.2.2.2.2.1, bnd_s, gp_pos kc.1, (rc_w rc23 hws.s).2.2.2.1, bnd_s, gp_pos kc.2.2.2.2.2.2.2.2.2.1, i23, o12 (s + 9) (by omega) (by omega)]
    have mod : fX12_sea_155 0 mm2 = some ((mm2.1 5 5).toInt64, uI (wi (wi (uI mm2 0 7 1) 4 0 ((uI mm2 0 7 1).1 5) 206) 6 0 (fun _ => 0) 8) 6 7 ((uI mm2 0 7 1).1 5 8)) := by
      unfold fX12_sea_155
      rw [gp_pos km_s.1, g, if_pos (by decide), gp_pos (show zb (1 : Int32) = true by decide), lt1_e, lt1_e, cp_m (m := uI mm2 0 7 1) mb2.1]
      rfl
    rw [cls, mod, gn.2]
    refine ⟨_, _, _, rfl, rfl, ?_⟩
    generalize hm9 : uI (wi (wi (uI mm2 0 7 1) 4 0 ((uI mm2 0 7 1).1 5) 206) 6 0 (fun _ => 0) 8) 6 7 ((uI mm2 0 7 1).1 5 8) = m9
    have o9 : ∀ a, a ≠ 4 → a ≠ 6 → a ≠ 0 → m9.1 a = mm2.1 a := fun a h1 h2 h3 => by rw [← hm9, uI_o h2, wi_o 8 h2, wi_o 206 h1, uI_o h3]
    have o90 : ∀ x, x ≠ 7 → m9.1 0 x = mm2.1 0 x := fun x hx => by rw [← hm9, uI_o (by decide), wi_o 8 (by decide), wi_o 206 (by decide), uI_1, if_neg (fun z => hx z.2)]
    have t9 : m9.1 0 7 = 1 := by rw [← hm9, uI_o (by decide), wi_o 8 (by decide), wi_o 206 (by decide), uI_1, if_pos ⟨rfl, rfl⟩]
    have k4 : ∀ x, x < 206 → m9.1 4 x = mm2.1 5 x := fun x hx => by
      have z := wi_in (m := uI mm2 0 7 1) (q := 4) (o := 0) (f := (uI mm2 0 7 1).1 5) 206 hx
      rw [Nat.zero_add] at z
      rw [← hm9, uI_o (by decide), wi_o 8 (by decide), z]; rfl
    have k6 : ∀ x, x < 8 → m9.1 6 x = (fun j => if j = 7 then mm2.1 5 8 else 0) x := fun x hx => by
      have z := wi_in (m := wi (uI mm2 0 7 1) 4 0 ((uI mm2 0 7 1).1 5) 206) (q := 6) (o := 0) (f := fun _ => 0) 8 hx
      rw [Nat.zero_add] at z
      show m9.1 6 x = if x = 7 then mm2.1 5 8 else 0
      rw [← hm9, uI_1]
      by_cases q : x = 7
      · rw [if_pos ⟨rfl, q⟩, if_pos q]; rfl
      · rw [if_neg (fun y => q y.2), if_neg q, z]
    have m9o : ∀ a, a ≠ 0 → a ≠ 4 → a ≠ 5 → a ≠ 6 → m9.1 a = mm.1 a := fun a h0 h4 h5 h6 => by rw [o9 a h4 h6 h0, fM a h0 h5, o0 a h0]
    have m90 : ∀ x, (x = 1 ∨ x = 11 ∨ x = 30) → m9.1 0 x = mm.1 0 x := fun x hx => by rw [o90 x (by omega), fX x (by omega), x0 x (by omega) (by omega) (by omega) (by omega) (by omega)]
    have c9 : ∀ a, a ≠ 2 → a ≠ 4 → a ≠ 5 → ¬ (s ≤ a ∧ a ≤ s + 14) → m23.1 a = mc.1 a := fun a h2 h4 h5 hq => by rw [i23, o12 a h2 (by omega), fC a h4 h5 hq]
    obtain ⟨st1, st2⟩ := stand (I := m23.1) (s := s) (fr := mm2.1 5) (by
      rw [i23]
      refine ⟨?_, by rw [o12 (s + 9) (by omega) (by omega)]; exact gn.2⟩
      have kk : ∀ c, c ≠ 0 → m12.1 (s + c) = mc2.1 (s + c) := fun c hc => o12 _ (by omega) (by omega)
      obtain ⟨⟨⟨a1, a2, a3, a4, a5⟩, bb, cc, dd, ee, ff, gg⟩, -⟩ := gn
      obtain ⟨b0, b1, b3, b4, b5, b6, b7⟩ := bb.b
      exact ⟨⟨a1.c b0 (kk 1 (by decide)) (kk 3 (by decide)) (kk 4 (by decide)) (fun _ _ => rfl), a2.c (kk 2 (by decide)) (fun _ _ _ => rfl), a3.c b3 (kk 6 (by decide)) (kk 7 (by decide)) (kk 8 (by decide)) (fun _ _ => rfl), a4.c b4 (by rw [kk 9 (by decide)]) (kk 10 (by decide)) (kk 11 (by decide)) (fun _ _ => rfl), a5.c b5 (fun j hj => by rw [kk 12 (by decide), kk 13 (by decide), kk 14 (by decide)]; exact ⟨rfl, rfl, rfl⟩) (fun _ _ => rfl)⟩, bb, cc, dd, ee, fun q => (ff q).c (kk 5 (by decide)) (fun _ _ => rfl), gg⟩) (by rw [i23, ← hm12, uI_o (by omega), uI_1, if_pos ⟨rfl, rfl⟩])
    refine ⟨fun k hk => by rw [← hm9, uI_2, wi_2, wi_2, uI_2]; exact mb2.1 k hk, s, w, d, rc23, ?_, hRows.c (fun a q1 q2 => c9 a (by omega) (by omega) (by omega) (by omega)) (m9o 1 (by decide) (by decide) (by decide) (by decide)) (m9o 2 (by decide) (by decide) (by decide) (by decide)) (m9o 3 (by decide) (by decide) (by decide) (by decide)), ⟨0, by decide, ?_, ?_, fun j hj => by omega⟩, hMisc.c (by rw [c9 0 (by decide) (by decide) (by decide) (by omega)]) (by rw [c9 0 (by decide) (by decide) (by decide) (by omega)]) (m90 11 (by decide)) (m90 1 (by decide)), ?_, ?_, fun k hk => (hImg k hk).c (fun a q1 q2 => c9 a (by omega) (by omega) (by omega) (by omega)) (by rw [m9o 13 (by decide) (by decide) (by decide) (by decide)]) (m9o 14 (by decide) (by decide) (by decide) (by decide)) (m9o 15 (by decide) (by decide) (by decide) (by decide)) (fun _ => t9), hTr.c (by rw [c9 13 (by decide) (by decide) (by decide) (by omega)]) (c9 14 (by decide) (by decide) (by decide) (by omega)) (m90 30 (by decide)) (m9o 16 (by decide) (by decide) (by decide) (by decide))⟩
    · rcases hw15 with ⟨q1, q2⟩ | ⟨q1, q2⟩
      · exact Or.inr ⟨q2, q1⟩
      · exact Or.inl ⟨q2, q1⟩
    · rw [i23, ← hm12, uI_1, if_pos ⟨rfl, rfl⟩]; rfl
    · rw [o90 10 (by decide), fX 10 (by decide), ← hm0, uI_1, if_neg (by decide), uI_1, if_neg (by decide), uI_1, if_pos ⟨rfl, rfl⟩]; rfl
    · rw [t9]; exact WR.ext st2.2.1 st1 k4 k6
    · rw [t9]; exact Sok.ext st2 k4 k6
  · -- a fault: what stood stays
    have g1 := R.badc g
    obtain ⟨k, p, k1, k3, y1, y2, y3, y4⟩ := R.bad g
    have c92 : fX5_readInto_92 4 s mc2 = some (uI mc2 s 4 0) := by
      simp only [fX5_readInto_92, kc_s, kc, eq_self, gp_tt, if_neg g1, gp_pos (show zb (0 : Int32) = true by decide), lt1_e]
    generalize hm12 : uI (uI mc2 s 4 0) 2 1 0 = m12
    have rc12 : RCok m12 w s d := fun a ha k hk => by rw [← hm12]; exact rc2 a ha k hk
    have o12 : ∀ a, a ≠ 2 → a ≠ s → m12.1 a = mc2.1 a := fun a h2 h3 => by rw [← hm12, uI_o h2, uI_o h3]
    have f12 : m12.1 4 1 = nI k := by rw [o12 4 (by decide) (by omega)]; exact y1
    have p12 : m12.1 4 2 = nI p := by rw [o12 4 (by decide) (by omega)]; exact y3
    have kn : ¬ nI k = 0 := nI_ne0 (by omega) (by omega)
    have cls : fX11_sea 0 mc = some ((-9000000000000000100 : Int64) - (nI p).toInt64, uI m12 0 8 (nI k)) := by
      unfold fX11_sea
      have emp : fX7_empty 2 (uI mc2 s 4 0) = some m12 := by
        rw [← hm12]
        simp only [fX7_empty, kc_s, eq_self, gp_tt, lt1_e]
      have rc1 : RCok (uI mc2 s 4 0) w s d := rc2
      have rc8 : RCok (uI m12 0 8 (nI k)) w s d := rc12
      have p8 : (uI m12 0 8 (nI k)).1 4 2 = nI p := by rw [uI_o (by decide)]; exact p12
      rw [gp_pos kc_s.1, (rc_s hC).2.2.1, bnd_s, (rc_s hC).2.2.2.2.2.2.2.1, bnd_s, gp_pos kc_s.2.2.2.2.1, e1, c92, bnd_s, (rc_s rc1).2.1, bnd_s, gp_pos kc_s.2.2.1, emp, bnd_s, (rc_s rc12).2.2.1, bnd_s, gp_pos kc_s.2.2.2.2.1, f12, if_neg kn, lt1_e, (rc_s rc8).2.2.1, bnd_s, gp_pos kc_s.2.2.2.2.1, p8]
    have mod : fX12_sea_155 0 mm2 = some ((-9000000000000000100 : Int64) - (nI p).toInt64, uI mm2 0 11 (nI k)) := by
      have p8 : (uI mm2 0 11 (nI k)).1 0 18 = nI p := by rw [uI_1, if_neg (by decide)]; exact y4
      unfold fX12_sea_155
      rw [gp_pos km_s.1, y2, if_neg (nI_nle (by omega) (by omega)), lt1_e, p8]
    rw [cls, mod]
    refine ⟨_, _, _, rfl, rfl, ?_⟩
    have c9 : ∀ a, a ≠ 0 → a ≠ 2 → a ≠ 4 → a ≠ 5 → ¬ (s ≤ a ∧ a ≤ s + 14) → (uI m12 0 8 (nI k)).1 a = mc.1 a := fun a h0 h2 h4 h5 hq => by rw [uI_o h0, o12 a h2 (by omega), fC a h4 h5 hq]
    have m9o : ∀ a, a ≠ 0 → a ≠ 5 → (uI mm2 0 11 (nI k)).1 a = mm.1 a := fun a h0 h5 => by rw [uI_o h0, fM a h0 h5, o0 a h0]
    have m90 : ∀ x, (x = 1 ∨ x = 7 ∨ x = 30) → (uI mm2 0 11 (nI k)).1 0 x = mm.1 0 x := fun x hx => by rw [uI_1, if_neg (by omega), fX x (by omega), x0 x (by omega) (by omega) (by omega) (by omega) (by omega)]
    refine ⟨fun x hx => mb2.1 x hx, w, s, d, rc12, hws, hRows.c (fun a q1 q2 => c9 a (by omega) (by omega) (by omega) (by omega) (by omega)) (m9o 1 (by decide) (by decide)) (m9o 2 (by decide) (by decide)) (m9o 3 (by decide) (by decide)), ⟨0, by decide, ?_, ?_, fun j hj => by omega⟩, ⟨?_, ?_⟩, ?_, ?_, fun j hj => (hImg j hj).c (fun a q1 q2 => c9 a (by omega) (by omega) (by omega) (by omega) (by omega)) (by rw [m9o 13 (by decide) (by decide)]) (m9o 14 (by decide) (by decide)) (m9o 15 (by decide) (by decide)) (fun q => by rw [m90 7 (by decide)]; exact q), hTr.c (by rw [c9 13 (by decide) (by decide) (by decide) (by decide) (by omega)]) (c9 14 (by decide) (by decide) (by decide) (by decide) (by omega)) (m90 30 (by decide)) (m9o 16 (by decide) (by decide))⟩
    · rw [uI_o (by decide), ← hm12, uI_1, if_pos ⟨rfl, rfl⟩]; rfl
    · rw [uI_1, if_neg (by decide), fX 10 (by decide), ← hm0, uI_1, if_neg (by decide), uI_1, if_neg (by decide), uI_1, if_pos ⟨rfl, rfl⟩]; rfl
    · rw [uI_1, if_pos ⟨rfl, rfl⟩, uI_1, if_pos ⟨rfl, rfl⟩]
    · rw [uI_1, if_neg (by decide), o12 0 (by decide) (by omega), fC 0 (by decide) (by decide) (by omega), m90 1 (by decide)]; exact hMisc.2
    · rw [m9o 4 (by decide) (by decide), m9o 6 (by decide) (by decide), m90 7 (by decide)]
      exact hW.c (fun a q1 q2 => c9 a (by omega) (by omega) (by omega) (by omega) (by omega))
    · rw [m9o 4 (by decide) (by decide), m9o 6 (by decide) (by decide), m90 7 (by decide)]
      exact hS
