section
variable {mc0 mm0 : Mem} {s : Nat} {B : Nat → Nat} {L : Nat}
theorem nI_or (a b : Nat) : nI a ||| nI b = nI (a ||| b) := by
  apply Int32.toBitVec_inj.mp
  show BitVec.ofNat 32 a ||| BitVec.ofNat 32 b = BitVec.ofNat 32 (a ||| b)
  exact BitVec.ofNat_or.symm
theorem lr_set {f g : Nat → Int32} {x y : Nat} (hx : x < 16) (h1 : g (78 + 16 * y + x) = 1) (h2 : ∀ k, k < 16 → k ≠ x → g (78 + 16 * y + k) = f (78 + 16 * y + k)) : lr g y 16 = lr f y 16 ||| 2 ^ x := by
  apply Nat.eq_of_testBit_eq
  intro k
  rw [Nat.testBit_or]
  rcases Nat.lt_or_ge k 16 with c | c
  · have e1 := lr_bit g y 16 k c
    have e2 := lr_bit f y 16 k c
    rw [bit_tb] at e1 e2
    rw [e1, e2]
    by_cases q : k = x
    · subst q
      rw [h1, Nat.testBit_two_pow_self]
      simp
    · rw [h2 k c q, Nat.testBit_two_pow_of_ne (Ne.symm q), Bool.or_false]
  · have p1 : lr g y 16 < 2 ^ k := Nat.lt_of_lt_of_le (lr_lt g y 16) (Nat.pow_le_pow_right (by decide) c)
    have p2 : lr f y 16 < 2 ^ k := Nat.lt_of_lt_of_le (lr_lt f y 16) (Nat.pow_le_pow_right (by decide) c)
    rw [Nat.testBit_lt_two_pow p1, Nat.testBit_lt_two_pow p2, Nat.testBit_two_pow_of_ne (by omega), Bool.or_false]
theorem adL_e {w x y W H : Nat} {d : Bool} {m : Mem} (hC : RCok m w s d) (hb : WI s) (e3 : m.1 (s + 1) 3 = nI W) (e4 : m.1 (s + 1) 4 = nI H) (hW : W ≤ 16) (hH : H ≤ 8) (hx : x < W) (hy : y < H) : fX9_addLand (s + 1) (nI x) (nI y) m = some (uI m (s + 2) y (m.1 (s + 2) y ||| nI (2 ^ x))) := by
  simp only [fX9_addLand, kc_w hb, rc_w hC hb, nc_w hb, inside_c hb, e3, e4, ins_1 hx hy hW hH, if_neg (show ¬ (1 : Int32) = 0 by decide), eq_self, gp_tt, bnd_s, lt1_e, inb_nI (show y < 8 by omega) (by decide), nI_clamp (show y < 2 ^ 31 by omega), shl1 (show x < 31 by omega)]
theorem adL_s {w : Nat} {d : Bool} {m : Mem} (hC : RCok m w s d) (hb : WI s) (hS : SF s m) (v1 v2 : Int32) : ∃ m2, fX9_addLand (s + 1) v1 v2 m = some m2 ∧ m2.2 = m.2 ∧ (∀ a, ¬ (s ≤ a ∧ a ≤ s + 14) → m2.1 a = m.1 a) ∧ SF s m2 := by
  obtain ⟨W, H, n, a, g, t, l1, l2, l3, l4, l5, l6, e1, e2, e3, e4, e5, e6⟩ := id hS
  by_cases q : ins v1 v2 (nI W) (nI H) = 0
  · refine ⟨m, ?_, rfl, fun _ _ => rfl, hS⟩
    simp only [fX9_addLand, kc_w hb, inside_c hb, e1, e2, q, if_true, eq_self, gp_tt, bnd_s]
  · obtain ⟨x, y, hx, hy, rfl, rfl⟩ := ins_n l1 l2 q
    rw [adL_e hC hb e1 e2 l1 l2 hx hy]
    refine ⟨_, rfl, rfl, fun c hc => uI_o (by omega), W, H, n, a, g, t, l1, l2, l3, l4, l5, l6, ?_, ?_, ?_, ?_, ?_, ?_⟩
    · rw [uI_o (by omega)]; exact e1
    · rw [uI_o (by omega)]; exact e2
    · rw [uI_o (by omega)]; exact e3
    · rw [uI_o (by omega)]; exact e4
    · rw [uI_o (by omega)]; exact e5
    · rw [uI_o (by omega)]; exact e6
theorem sb_l : ∀ k, k < 128 → sbL.getD (78 + k) 0 = 1 := by decide +kernel
theorem laU_g {s i x y : Nat} {I I2 : Nat → Nat → Int32} {f g : Nat → Int32} (h : GN 1 I s f) (hi : i < 12) (hx : x < sv f 6) (hy : y < sv f 7) (g0 : g 1 = nI (i + 1)) (g1 : g (78 + 16 * y + x) = 1) (g3 : ∀ z, z ≠ 1 → z ≠ 78 + 16 * y + x → g z = f z) (i1 : ∀ j, I2 (s + 2) j = if j = y then I (s + 2) y ||| nI (2 ^ x) else I (s + 2) j) (i3 : ∀ c, c ≠ 2 → I2 (s + c) = I (s + c)) : GN 1 I2 s g ∧ g 1 = nI (i + 1) := by
  obtain ⟨⟨⟨a1, a2, a3, a4, a5⟩, bb, ⟨c1, c2, c3, c4, c5⟩, dd, ee, ff, gg⟩, nn⟩ := h
  obtain ⟨b0, b1, b3, b4, b5, b6, b7⟩ := bb.b
  have o : ∀ z, z < 78 → z ≠ 1 → g z = f z := fun z hz hn => g3 z hn (by omega)
  have B2 : SeaB g := bb.up (fun z => z = 1 ∨ z = 78 + 16 * y + x) (fun z hz q => g3 z (fun w => q (Or.inl w)) (fun w => q (Or.inr w))) (fun z hz q => by
    rcases q with rfl | rfl
    · exact ⟨i + 1, by have := sb_0; omega, g0⟩
    · exact ⟨1, by have := sb_l (16 * y + x) (by omega); rw [Nat.add_assoc, this]; exact Nat.le_refl _, g1⟩)
  refine ⟨⟨⟨⟨a1.c b0 (i3 1 (by decide)) (i3 3 (by decide)) (i3 4 (by decide)) (fun z hz => o z (by omega) (by omega)), ?_, a3.c b3 (i3 6 (by decide)) (i3 7 (by decide)) (i3 8 (by decide)) (fun z hz => o z (by omega) (by omega)), a4.c b4 (by rw [i3 9 (by decide)]) (i3 10 (by decide)) (i3 11 (by decide)) (fun z hz => o z (by omega) (by omega)), a5.c b5 (fun j hj => by rw [i3 12 (by decide), i3 13 (by decide), i3 14 (by decide)]; exact ⟨rfl, rfl, rfl⟩) (fun z hz => o z (by omega) (by omega))⟩, B2, ⟨c1.c b0 (fun z hz => o z (by omega) (by omega)), ?_, c3.c b3 (fun z hz => o z (by omega) (by omega)), c4.c b4 (fun z hz => o z (by omega) (by omega)), c5.c b5 (fun z hz => o z (by omega) (by omega))⟩, ⟨by rw [sv_e (o 6 (by omega) (by decide))]; exact dd.1, by rw [sv_e (o 7 (by omega) (by decide))]; exact dd.2⟩, fun q => by rw [sv_e (o 0 (by omega) (by decide))]; exact ee q, fun q => absurd q (by decide), fun z h1 h2 => by rw [o z (by omega) (by omega)]; exact gg z h1 h2⟩, by rw [i3 9 (by decide), o 5 (by omega) (by decide)]; exact nn⟩, g0⟩
  · intro z hz
    rw [i1]
    by_cases q : z = y
    · subst q
      rw [if_pos rfl, a2 z hz, nI_or, lr_set (f := f) (g := g) (show x < 16 by omega) g1 (fun k hk hn => g3 _ (by omega) (by omega))]
    · rw [if_neg q, a2 z hz, lr_c (f := f) (g := g) (fun k hk => g3 _ (by omega) (by omega)) 16 (Nat.le_refl _)]
  · intro a b ha hb2 hq
    rw [sv_e (o 6 (by omega) (by decide)), sv_e (o 7 (by omega) (by decide))]
    by_cases q : a = x ∧ b = y
    · obtain ⟨rfl, rfl⟩ := q
      exact ⟨hx, hy⟩
    · rw [g3 _ (by omega) (by omega)] at hq
      exact c2 a b ha hb2 hq
theorem lanD_b {f i : Nat} {mc mm : Mem} (hA : BA mc0 mm0 s B L) (h : RR mc0 mm0 s B L f mc mm) (hs : SF s mc) (hg : mm.1 0 17 = 0 → GN 1 mc.1 s (mm.1 5) ∧ mm.1 5 1 = nI i ∧ i < 12) : ∃ v1 v2 mc1 mc2 mc3 mc4 mm4 f4, fX5_takeNumber 4 0 (mc.1 (s + 1) 3 - 1) mc = some (v1, mc1) ∧ fX5_takeNumber 4 0 (mc1.1 (s + 1) 4 - 1) mc1 = some (v2, mc2) ∧ fX5_takeEnd 4 mc2 = some mc3 ∧ fX9_addLand (s + 1) v1 v2 mc3 = some mc4 ∧ (∀ m0, fX12_begins 0 1 12 m0 = some mm → fX12_readLand 0 m0 = some mm4) ∧ RR mc0 mm0 s B L f4 mc4 mm4 ∧ SF s mc4 ∧ (mm4.1 0 17 = 0 → GN 1 mc4.1 s (mm4.1 5) ∧ mm4.1 5 1 = nI (i + 1)) ∧ (¬ mm.1 0 17 = 0 → FO mm mm4) := by
  have hs15 := hA.2.2.1
  have hb := hA.2.2.2.1
  have mb := h.mb hA
  obtain ⟨v1, w1, mc1, mm1, f1, e1, e2, R1, U1, F1, -, G1, -, D1⟩ := h.num2 hA 0 (mc.1 (s + 1) 3 - 1) (mm.1 5 6 - 1) (fun g => by rw [(hg g).1.1.1.1.1.1])
  have mb1 := R1.mb hA
  obtain ⟨v2, w2, mc2, mm2, f2, e5, e6, R2, U2, F2, -, G2, -, D2⟩ := R1.num2 hA 0 (mc1.1 (s + 1) 4 - 1) (mm1.1 5 7 - 1) (fun g => by rw [U1 (s + 1) (by omega) (by omega), F1, (hg (G1 g).1).1.1.1.1.1.2.1])
  obtain ⟨mc3, mm3, q, f3, e7, e8, R3, U3, F3, G3, D3, D4⟩ := R2.ends hA (j := 1) (by decide)
  have e8 : fX12_ends 0 (1 : Int32) mm2 = some (q, mm3) := e8
  have mb3 := R3.mb hA
  have sf3 : SF s mc3 := ((hs.u hs15 U1).u hs15 U2).u hs15 U3
  have UU : UW mc mc3 := (U1.t U2).t U3
  obtain ⟨w, d, rc3⟩ := R3.rc hA
  by_cases g : mm3.1 0 17 = 0
  · obtain ⟨g2, -, q1, c0⟩ := G3 g
    subst q1
    obtain ⟨g1, -, b, hb1, eb1, eb2, ib⟩ := G2 g2
    obtain ⟨g0, -, a, ha1, ea1, ea2, ia⟩ := G1 g1
    obtain ⟨gn, hc, hi⟩ := hg g0
    subst ea1 ea2 eb1 eb2
    have gn3 : GN 1 mc3.1 s (mm.1 5) := gn.u hs15 UU
    obtain ⟨b0, b1, b3, b4, b5, b6, b7⟩ := gn.1.2.1.b
    have k6 := (sea_nI gn.1.2.1 (j := 6) (by decide)).1
    have k7 := (sea_nI gn.1.2.1 (j := 7) (by decide)).1
    have ra : a < sv (mm.1 5) 6 := by
      rw [gn.1.1.1.1.1, k6] at ia
      obtain ⟨z, z1, z2⟩ := iw_lt (by omega) ia
      have := nI_inj1 (by omega) (by omega) z2
      omega
    have rb : b < sv (mm.1 5) 7 := by
      rw [U1 (s + 1) (by omega) (by omega), gn.1.1.1.1.2.1, k7] at ib
      obtain ⟨z, z1, z2⟩ := iw_lt (by omega) ib
      have := nI_inj1 (by omega) (by omega) z2
      omega
    have ix : ((78 : Int32) + (16 : Int32) * nI b) + nI a = nI (78 + 16 * b + a) := ix2 78 16 b a
    generalize hm4 : uI mm3 5 (78 + 16 * b + a) 1 = mm4
    have fo : FO mm3 mm4 := ⟨by rw [← hm4]; rfl, fun y hy => by rw [← hm4, uI_o hy]⟩
    have ad := adL_e rc3 hb (by rw [← k6]; exact gn3.1.1.1.1.1) (by rw [← k7]; exact gn3.1.1.1.1.2.1) b6 b7 ra rb
    refine ⟨_, _, _, _, _, _, mm4, f3, e1, e5, e7, ad, fun m0 hm0 => ?_, RR.m (RR.w (mc2 := uI mc3 (s + 2) b (mc3.1 (s + 2) b ||| nI (2 ^ a))) hA R3 rfl (fun y hy => ?_)) fo, ?_, fun _ => ?_, fun z => absurd g0 z⟩
    · rw [← hm4]
      simp only [fX12_readLand, km_s, eq_self, gp_tt, hm0, bnd_s, rm_s mb.1, rm_s mb1.1, clL, inL, lt1_e, e2, bnd2_s, e6, e8, if_neg (show ¬ (1 : Int32) = 0 by decide), rm_s mb3.1, ix, inb_nI (show 78 + 16 * b + a < 206 by omega) (by decide), nI_clamp (show 78 + 16 * b + a < 2 ^ 31 by omega)]
    · rw [uI_o (by omega)]
    · obtain ⟨m9, y1, -, -, y4⟩ := adL_s rc3 hb sf3 (nI a) (nI b)
      rw [ad] at y1
      rw [Option.some.inj y1]
      exact y4
    · have z5 : ∀ y, y ≠ 1 → mm3.1 5 y = mm.1 5 y := fun y hy => by rw [F3 y hy, F2, F1]
      refine laU_g gn3 hi ra rb ?_ ?_ (fun y h1 h2 => ?_) (fun j => ?_) (fun c h1 => ?_)
      · rw [← hm4, uI_1, if_neg (by omega), c0, F2, F1, hc, nI_1]
      · rw [← hm4, uI_1, if_pos ⟨rfl, rfl⟩]
      · rw [← hm4, uI_1, if_neg (fun z => h2 z.2)]; exact z5 y h1
      · rw [uI_1]
        by_cases z : j = b
        · rw [if_pos ⟨rfl, z⟩, if_pos z]
        · rw [if_neg (fun y => z y.2), if_neg z]
      · rw [uI_o (by omega)]
  · have q0 := D3 g
    subst q0
    obtain ⟨mc4, y1, y2, y3, y4⟩ := adL_s rc3 hb sf3 v1 v2
    refine ⟨_, _, _, _, _, mc4, mm3, f3, e1, e5, e7, y1, fun m0 hm0 => ?_, R3.w hA y2 y3, y4, fun z => absurd z g, fun z => ?_⟩
    · simp only [fX12_readLand, km_s, eq_self, gp_tt, hm0, bnd_s, rm_s mb.1, rm_s mb1.1, clL, inL, lt1_e, e2, bnd2_s, e6, e8, if_true]
    · have x1 := D1 z
      subst x1
      have x2 := D2 z
      subst x2
      exact D4 z
theorem lanD_l {f : Nat} {mc mm : Mem} (hA : BA mc0 mm0 s B L) (h : RR mc0 mm0 s B L f mc mm) (hs : SF s mc) (hg : mm.1 0 17 = 0 → GN 1 mc.1 s (mm.1 5) ∧ mm.1 5 1 = 0) : ∃ e1 e2 f2, iter (fun q => fX5_readLands_2b 4 (s + 1) q.1 q.2) FU ((0 : Int32), mc) = some e1 ∧ iter (fun q => fX12_readShore_106b 0 q) FU mm = some e2 ∧ RR mc0 mm0 s B L f2 e1 e2 ∧ SF s e1 ∧ (e2.1 0 17 = 0 → GN 1 e1.1 s (e2.1 5)) := by
  have hs15 := hA.2.2.1
  have kw : (1818324580 : Int64) = lN (cW 10) := cwL.2.2.1
  have kc := kc_w hA.2.2.2.1
  obtain ⟨e1, e2, E1, E2, f2, Q⟩ := loop_g (b1 := fun q => fX5_readLands_2b 4 (s + 1) q.1 q.2) (b2 := fun q => fX12_readShore_106b 0 q) (MAX := 12) (by decide) (fun i mc mm => ∃ f, RR mc0 mm0 s B L f mc mm ∧ SF s mc ∧ (mm.1 0 17 = 0 → GN 1 mc.1 s (mm.1 5) ∧ mm.1 5 1 = nI i)) (fun e1 e2 => ∃ f2, RR mc0 mm0 s B L f2 e1 e2 ∧ SF s e1 ∧ (e2.1 0 17 = 0 → GN 1 e1.1 s (e2.1 5))) (by
    rintro i mc mm hi ⟨f, h, hs, hg⟩
    have l0 : ¬ (12 : Int32) < nI i := nI_nlt (a := 12) hi (by decide)
    obtain ⟨r, w1, w2⟩ := h.begs hA (i := 10) (c := i) (R := 12) (j := 1) (by decide) hi (by decide) (by decide) (fun g => (hg g).2)
    rcases w2 with ⟨x1, x2, x3⟩ | ⟨x1, g, x3, mcB, mmB, y1, y2, y3, y4, y5, y6⟩ | ⟨x1, g, x3, mcB, mmB, y1, y2, y3, y4, y5, y6⟩
    · have x2 : fX5_begins 4 10 (nI i) (12 : Int32) mc = some (0, mc) := x2
      refine Or.inr (Or.inl ⟨mc, ?_, ?_, f, h, hs, fun g => (hg g).1⟩)
      · simp only [fX5_readLands_2b, if_neg l0, kc_s, eq_self, gp_tt, x2, bnd2_s, if_true]
      · simp only [fX12_readShore_106b, km_s, eq_self, gp_tt, w1, bnd_s]
        rw [kw, if_neg x1]
    · have y1 : fX5_begins 4 10 (nI i) (12 : Int32) mc = some (1, mcB) := y1
      have y2 : fX12_begins 0 (1 : Int32) (12 : Int32) mm = some mmB := y2
      obtain ⟨v1, v2, mc1, mc2, mc3, mc4, mm4, f4, a1, a2, a3, a4, a5, a6, a7, a8, a9⟩ := lanD_b (i := i) hA y3 (hs.u hs15 y5) (fun _ => ⟨by rw [y6]; exact (hg g).1.u hs15 y5, by rw [y6]; exact (hg g).2, x3⟩)
      refine Or.inl ⟨mc4, mm4, x3, ?_, ?_, f4, a6, a7, fun z => a8 z⟩
      · simp only [fX5_readLands_2b, if_neg l0, kc_s, kc, eq_self, gp_tt, y1, bnd2_s, if_neg (show ¬ (1 : Int32) = 0 by decide), a1, a2, a3, bnd_s, a4, lt1_e, nI_1]
      · simp only [fX12_readShore_106b, km_s, eq_self, gp_tt, w1, bnd_s]
        rw [kw, if_pos x1, a5 mm y2, bnd_s]
    · have y1 : fX5_begins 4 10 (nI i) (12 : Int32) mc = some (0, mcB) := y1
      have y2 : fX12_begins 0 (1 : Int32) (12 : Int32) mm = some mmB := y2
      obtain ⟨v1, v2, mc1, mc2, mc3, mc4, mm4, f4, a1, a2, a3, a4, a5, a6, a7, a8, a9⟩ := lanD_b (i := i) hA y3 (hs.u hs15 y5) (fun z => absurd z y4)
      have RF := y3.m (a9 y4)
      have gf : ¬ mm4.1 0 17 = 0 := by rw [(a9 y4).2 0 (by decide)]; exact y4
      obtain ⟨r2, u1, u2, u3⟩ := RF.word hA
      refine Or.inr (Or.inr ⟨mcB, mm4, ?_, ?_, ?_, f, RF, hs.u hs15 y5, fun z => absurd z gf⟩)
      · simp only [fX5_readLands_2b, if_neg l0, kc_s, eq_self, gp_tt, y1, bnd2_s, if_true]
      · simp only [fX12_readShore_106b, km_s, eq_self, gp_tt, w1, bnd_s]
        rw [kw, if_pos x1, a5 mm y2, bnd_s]
      · simp only [fX12_readShore_106b, km_s, eq_self, gp_tt, u1, bnd_s]
        rw [kw, if_neg (fun z => gf ((u2 10 (by decide)).mp z).1)]) ⟨f, h, hs, fun g => hg g⟩
  exact ⟨e1, e2, f2, E1, E2, Q⟩
end
