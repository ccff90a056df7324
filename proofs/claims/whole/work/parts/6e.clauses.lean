section
variable {mc0 mm0 : Mem} {s : Nat} {B : Nat → Nat} {L : Nat}
theorem rng {b lo hi : Nat} (hb : b < 2 ^ 31) (hl : lo < 2 ^ 31) (hh : hi < 2 ^ 31) (h : ¬ iw (nI b) (nI lo) (nI hi) = 0) : lo ≤ b ∧ b ≤ hi := by
  obtain ⟨h1, h2⟩ := iw_ne0 h
  exact ⟨(nI_leI hl hb).mp h1, (nI_leI hb hh).mp h2⟩
theorem RR.num2 {f : Nat} {mc mm : Mem} (hA : BA mc0 mm0 s B L) (h : RR mc0 mm0 s B L f mc mm) (lo hC hM : Int32) (he : mm.1 0 17 = 0 → hC = hM) : ∃ v1 v2 mc2 mm2 f2, fX5_takeNumber 4 lo hC mc = some (v1, mc2) ∧ fX12_number 0 lo hM mm = some (v2, mm2) ∧ RR mc0 mm0 s B L f2 mc2 mm2 ∧ UW mc mc2 ∧ mm2.1 5 = mm.1 5 ∧ f ≤ f2 ∧ (mm2.1 0 17 = 0 → mm.1 0 17 = 0 ∧ f < f2 ∧ ∃ v, v < 1000 ∧ v1 = nI v ∧ v2 = nI v ∧ ¬ iw (nI v) lo hC = 0) ∧ (¬ mm2.1 0 17 = 0 → v1 = lo) ∧ (¬ mm.1 0 17 = 0 → mm2 = mm) := by
  by_cases g : mm.1 0 17 = 0
  · rw [← he g]; exact h.num hA lo hC
  · obtain ⟨v1, -, mc2, mm2, f2, e1, -, e3, e4, -, e6, -, -, e9⟩ := h.num hA lo hC
    obtain ⟨-, v2, -, mm3, -, -, d2, -, -, -, -, -, -, d9⟩ := h.num hA lo hM
    have x1 := e9 g
    have x2 := d9 g
    subst x1 x2
    obtain ⟨v1', -, mc2', mm2', f2', y1, -, -, -, -, -, -, y8, y9⟩ := h.num hA lo hC
    rw [e1] at y1
    have q := Option.some.inj y1
    refine ⟨v1, v2, mc2, _, f2, e1, d2, e3, e4, rfl, e6, fun z => absurd z g, fun z => ?_, fun _ => rfl⟩
    have q1 : v1 = v1' := congrArg Prod.fst q
    rw [q1]
    exact y8 (by rw [y9 g]; exact g)
theorem winD_b {f i : Nat} {mc mm : Mem} (hA : BA mc0 mm0 s B L) (h : RR mc0 mm0 s B L f mc mm) (hs : SF s mc) (hg : mm.1 0 17 = 0 → GN 0 mc.1 s (mm.1 5) ∧ mm.1 5 0 = nI i ∧ i < 4) : ∃ v1 v2 mc1 mc2 mc3 mc4 mm4 f4, fX5_takeWay 4 mc = some (v1, mc1) ∧ fX5_takeNumber 4 1 9 mc1 = some (v2, mc2) ∧ fX5_takeEnd 4 mc2 = some mc3 ∧ fX9_addWind (s + 1) v1 v2 mc3 = some mc4 ∧ (∀ m0, fX12_begins 0 0 4 m0 = some mm → fX12_readWind 0 m0 = some mm4) ∧ RR mc0 mm0 s B L f4 mc4 mm4 ∧ SF s mc4 ∧ (mm4.1 0 17 = 0 → GN 0 mc4.1 s (mm4.1 5) ∧ mm4.1 5 0 = nI (i + 1)) ∧ (¬ mm.1 0 17 = 0 → FO mm mm4) := by
  have hs15 := hA.2.2.1
  have hb := hA.2.2.2.1
  have mb := h.mb hA
  obtain ⟨v1, w1, mc1, mm1, f1, x, r, e1, e2, e3, e4, R1, U1, F1, G1, D1⟩ := h.way hA
  obtain ⟨v2, w2, mc2, mm2, f2, e5, e6, R2, U2, F2, -, G2, -, D2⟩ := R1.num hA 1 9
  obtain ⟨mc3, mm3, q, f3, e7, e8, R3, U3, F3, G3, D3, D4⟩ := R2.ends hA (j := 0) (by decide)
  have e8 : fX12_ends 0 (0 : Int32) mm2 = some (q, mm3) := e8
  have mb3 := R3.mb hA
  have sf3 : SF s mc3 := ((hs.u hs15 U1).u hs15 U2).u hs15 U3
  have UU : UW mc mc3 := (U1.t U2).t U3
  obtain ⟨w, d, rc3⟩ := R3.rc hA
  by_cases g : mm3.1 0 17 = 0
  · obtain ⟨g2, -, q1, c0⟩ := G3 g
    subst q1
    obtain ⟨g1, -, b, hb1, eb1, eb2, ib⟩ := G2 g2
    obtain ⟨gn, hc, hi⟩ := hg (G1 g1).1
    obtain ⟨g0, -, a, al, au, ea1, ea2⟩ := G1 g1
    have ra : 0 ≤ a ∧ a ≤ 7 := ⟨al, by omega⟩
    have rb : 1 ≤ b ∧ b ≤ 9 := rng (lo := 1) (hi := 9) (by omega) (by decide) (by decide) ib
    subst ea1 ea2 eb1 eb2
    have gn3 : GN 0 mc3.1 s (mm.1 5) := gn.u hs15 UU
    have cnt : mc3.1 (s + 1) 5 = nI i := by
      rw [← hc]
      exact gn3.1.1.1.1.2.2.1
    have ix : (12 : Int32) + (2 : Int32) * nI i = nI (12 + 2 * i) := by
      rw [show (12 : Int32) = nI 12 from rfl, show (2 : Int32) = nI 2 from rfl, pk_mul, nI_add]
    have ix1 : nI (12 + 2 * i) + 1 = nI (13 + 2 * i) := by rw [nI_1, show 12 + 2 * i + 1 = 13 + 2 * i by omega]
    generalize hm4 : uI (uI mm3 5 (12 + 2 * i) (nI a)) 5 (13 + 2 * i) (nI b) = mm4
    have fo : FO mm3 mm4 := ⟨by rw [← hm4]; rfl, fun y hy => by rw [← hm4, uI_o hy, uI_o hy]⟩
    have ad := adW_e rc3 hb cnt hi (nI a) (nI b)
    refine ⟨_, _, _, _, _, _, mm4, f3, e1, e5, e7, ad, fun m0 hm0 => ?_, RR.m (RR.w (mc2 := uI (uI (uI (uI mc3 (s + 3) i (nI a)) (s + 4) i (nI b)) (s + 1) 5 (nI (i + 1))) (s + 1) 6 (mc3.1 (s + 1) 6 + nI b)) hA R3 rfl (fun y hy => ?_)) fo, ?_, fun _ => ?_, fun z => absurd g0 z⟩
    · rw [← hm4]
      simp only [fX12_readWind, km_s, eq_self, gp_tt, hm0, bnd_s, rm_s mb.1, clL, inL, lt1_e, hc, ix, e2, e3, e4, bnd2_s, e6, e8, if_neg (show ¬ (1 : Int32) = 0 by decide), rm_s mb3.1, uI_2, inb_nI (show 12 + 2 * i < 206 by omega) (by decide), nI_clamp (show 12 + 2 * i < 2 ^ 31 by omega), ix1, inb_nI (show 13 + 2 * i < 206 by omega) (by decide), nI_clamp (show 13 + 2 * i < 2 ^ 31 by omega)]
    · rw [uI_o (by omega), uI_o (by omega), uI_o (by omega), uI_o (by omega)]
    · obtain ⟨m9, y1, -, -, y4⟩ := adW_s rc3 hb sf3 (nI a) (nI b)
      rw [ad] at y1
      rw [Option.some.inj y1]
      exact y4
    · have z5 : ∀ y, y ≠ 0 → mm3.1 5 y = mm.1 5 y := fun y hy => by rw [F3 y hy, F2, F1]
      refine wiU_g gn3 hc hi ra rb ?_ ?_ ?_ (fun y h1 h2 h3 => ?_) ?_ ?_ (fun j => ?_) (fun j => ?_) (fun c h1 h2 h3 => ?_) (fun j h1 h2 => ?_)
      · rw [← hm4, uI_1, if_neg (by omega), uI_1, if_neg (by omega), c0, F2, F1, hc, nI_1]
      · rw [← hm4, uI_1, if_neg (by omega), uI_1, if_pos ⟨rfl, rfl⟩]
      · rw [← hm4, uI_1, if_pos ⟨rfl, rfl⟩]
      · rw [← hm4, uI_1, if_neg (fun z => h3 z.2), uI_1, if_neg (fun z => h2 z.2)]; exact z5 y h1
      · rw [uI_1, if_neg (by simp), uI_1, if_pos ⟨rfl, rfl⟩]
      · rw [uI_1, if_pos ⟨rfl, rfl⟩]
      · rw [uI_o (by omega), uI_o (by omega), uI_o (by omega), uI_1]
        by_cases z : j = i
        · rw [if_pos ⟨rfl, z⟩, if_pos z]
        · rw [if_neg (fun y => z y.2), if_neg z]
      · rw [uI_o (by omega), uI_o (by omega), uI_1]
        by_cases z : j = i
        · rw [if_pos ⟨rfl, z⟩, if_pos z]
        · rw [if_neg (fun y => z y.2), if_neg z, uI_o (by omega)]
      · rw [uI_o (by omega), uI_o (by omega), uI_o (by omega), uI_o (by omega)]
      · rw [uI_1, if_neg (fun z => h2 z.2), uI_1, if_neg (fun z => h1 z.2), uI_o (by omega), uI_o (by omega)]
  · have q0 := D3 g
    subst q0
    obtain ⟨mc4, y1, y2, y3, y4⟩ := adW_s rc3 hb sf3 v1 v2
    refine ⟨_, _, _, _, _, mc4, mm3, f3, e1, e5, e7, y1, fun m0 hm0 => ?_, R3.w hA y2 y3, y4, fun z => absurd z g, fun z => ?_⟩
    · simp only [fX12_readWind, km_s, eq_self, gp_tt, hm0, bnd_s, rm_s mb.1, clL, inL, lt1_e, e2, e3, e4, bnd2_s, e6, e8, if_true]
    · have x1 := D1 z
      subst x1
      have x2 := D2 z
      subst x2
      exact D4 z
theorem winD_l {f : Nat} {mc mm : Mem} (hA : BA mc0 mm0 s B L) (h : RR mc0 mm0 s B L f mc mm) (hs : SF s mc) (hg : mm.1 0 17 = 0 → GN 0 mc.1 s (mm.1 5) ∧ mm.1 5 0 = 0 ∧ pWn B L 1 f) : ∃ e1 e2 f2, iter (fun q => fX5_readWinds_19b 4 (s + 1) q.1 q.2) FU ((0 : Int32), mc) = some e1 ∧ iter (fun q => fX12_readShore_88b 0 q) FU mm = some e2 ∧ RR mc0 mm0 s B L f2 e1 e2 ∧ SF s e1 ∧ (e2.1 0 17 = 0 → GN 0 e1.1 s (e2.1 5) ∧ 1 ≤ sv (e2.1 5) 0) := by
  have hs15 := hA.2.2.1
  have kw : (2003398244 : Int64) = lN (cW 1) := cwL.2.1
  have kc := kc_w hA.2.2.2.1
  obtain ⟨e1, e2, E1, E2, f2, Q⟩ := loop_g (b1 := fun q => fX5_readWinds_19b 4 (s + 1) q.1 q.2) (b2 := fun q => fX12_readShore_88b 0 q) (MAX := 4) (by decide) (fun i mc mm => ∃ f, RR mc0 mm0 s B L f mc mm ∧ SF s mc ∧ (mm.1 0 17 = 0 → GN 0 mc.1 s (mm.1 5) ∧ mm.1 5 0 = nI i ∧ (i = 0 → pWn B L 1 f))) (fun e1 e2 => ∃ f2, RR mc0 mm0 s B L f2 e1 e2 ∧ SF s e1 ∧ (e2.1 0 17 = 0 → GN 0 e1.1 s (e2.1 5) ∧ 1 ≤ sv (e2.1 5) 0)) (by
    rintro i mc mm hi ⟨f, h, hs, hg⟩
    have l0 : ¬ (4 : Int32) < nI i := nI_nlt (a := 4) hi (by decide)
    obtain ⟨r, w1, w2⟩ := h.begs hA (i := 1) (c := i) (R := 4) (j := 0) (by decide) hi (by decide) (by decide) (fun g => (hg g).2.1)
    rcases w2 with ⟨x1, x2, x3⟩ | ⟨x1, g, x3, mcB, mmB, y1, y2, y3, y4, y5, y6⟩ | ⟨x1, g, x3, mcB, mmB, y1, y2, y3, y4, y5, y6⟩
    · have x2 : fX5_begins 4 1 (nI i) (4 : Int32) mc = some (0, mc) := x2
      refine Or.inr (Or.inl ⟨mc, ?_, ?_, f, h, hs, fun g => ?_⟩)
      · simp only [fX5_readWinds_19b, if_neg l0, kc_s, eq_self, gp_tt, x2, bnd2_s, if_true]
      · simp only [fX12_readShore_88b, km_s, eq_self, gp_tt, w1, bnd_s]
        rw [kw, if_neg x1]
      · obtain ⟨z1, z2, z3⟩ := hg g
        refine ⟨z1, ?_⟩
        rw [sv_i z2 (by omega)]
        rcases Nat.eq_zero_or_pos i with q | q
        · exact absurd ⟨g, z3 q⟩ x3
        · exact q
    · have y1 : fX5_begins 4 1 (nI i) (4 : Int32) mc = some (1, mcB) := y1
      have y2 : fX12_begins 0 (0 : Int32) (4 : Int32) mm = some mmB := y2
      obtain ⟨v1, v2, mc1, mc2, mc3, mc4, mm4, f4, a1, a2, a3, a4, a5, a6, a7, a8, a9⟩ := winD_b (i := i) hA y3 (hs.u hs15 y5) (fun _ => ⟨by rw [y6]; exact (hg g).1.u hs15 y5, by rw [y6]; exact (hg g).2.1, x3⟩)
      refine Or.inl ⟨mc4, mm4, x3, ?_, ?_, f4, a6, a7, fun z => ⟨(a8 z).1, (a8 z).2, fun q => by omega⟩⟩
      · simp only [fX5_readWinds_19b, if_neg l0, kc_s, kc, eq_self, gp_tt, y1, bnd2_s, if_neg (show ¬ (1 : Int32) = 0 by decide), a1, a2, a3, bnd_s, a4, lt1_e, nI_1]
      · simp only [fX12_readShore_88b, km_s, eq_self, gp_tt, w1, bnd_s]
        rw [kw, if_pos x1, a5 mm y2, bnd_s]
    · have y1 : fX5_begins 4 1 (nI i) (4 : Int32) mc = some (0, mcB) := y1
      have y2 : fX12_begins 0 (0 : Int32) (4 : Int32) mm = some mmB := y2
      obtain ⟨v1, v2, mc1, mc2, mc3, mc4, mm4, f4, a1, a2, a3, a4, a5, a6, a7, a8, a9⟩ := winD_b (i := i) hA y3 (hs.u hs15 y5) (fun z => absurd z y4)
      have RF := y3.m (a9 y4)
      have gf : ¬ mm4.1 0 17 = 0 := by rw [(a9 y4).2 0 (by decide)]; exact y4
      obtain ⟨r2, u1, u2, u3⟩ := RF.word hA
      refine Or.inr (Or.inr ⟨mcB, mm4, ?_, ?_, ?_, f, RF, hs.u hs15 y5, fun z => absurd z gf⟩)
      · simp only [fX5_readWinds_19b, if_neg l0, kc_s, eq_self, gp_tt, y1, bnd2_s, if_true]
      · simp only [fX12_readShore_88b, km_s, eq_self, gp_tt, w1, bnd_s]
        rw [kw, if_pos x1, a5 mm y2, bnd_s]
      · simp only [fX12_readShore_88b, km_s, eq_self, gp_tt, u1, bnd_s]
        rw [kw, if_neg (fun z => gf ((u2 1 (by decide)).mp z).1)]) ⟨f, h, hs, fun g => ⟨(hg g).1, (hg g).2.1, fun _ => (hg g).2.2⟩⟩
  exact ⟨e1, e2, f2, E1, E2, Q⟩
theorem men_b {f i : Nat} {mc mm : Mem} (hA : BA mc0 mm0 s B L) (h : RR mc0 mm0 s B L f mc mm) (hs : SF s mc) (hg : mm.1 0 17 = 0 → GN 3 mc.1 s (mm.1 5) ∧ mm.1 5 3 = nI i ∧ i < 10) : ∃ v1 v2 mc1 mc2 mc3 mc4 mm4 f4, fX5_takeNumber 4 1 200 mc = some (v1, mc1) ∧ fX5_takeNumber 4 1 50 mc1 = some (v2, mc2) ∧ fX5_takeEnd 4 mc2 = some mc3 ∧ fX2_add (s + 6) v1 v2 mc3 = some mc4 ∧ (∀ m0, fX12_begins 0 3 10 m0 = some mm → fX12_readMan 0 m0 = some mm4) ∧ RR mc0 mm0 s B L f4 mc4 mm4 ∧ SF s mc4 ∧ (mm4.1 0 17 = 0 → GN 3 mc4.1 s (mm4.1 5) ∧ mm4.1 5 3 = nI (i + 1)) ∧ (¬ mm.1 0 17 = 0 → FO mm mm4) := by
  have hs15 := hA.2.2.1
  have hb := hA.2.2.2.1
  have mb := h.mb hA
  obtain ⟨v1, w1, mc1, mm1, f1, e1, e2, R1, U1, F1, -, G1, -, D1⟩ := h.num hA 1 200
  obtain ⟨v2, w2, mc2, mm2, f2, e5, e6, R2, U2, F2, -, G2, -, D2⟩ := R1.num hA 1 50
  obtain ⟨mc3, mm3, q, f3, e7, e8, R3, U3, F3, G3, D3, D4⟩ := R2.ends hA (j := 3) (by decide)
  have e8 : fX12_ends 0 (3 : Int32) mm2 = some (q, mm3) := e8
  have mb3 := R3.mb hA
  have sf3 : SF s mc3 := ((hs.u hs15 U1).u hs15 U2).u hs15 U3
  have UU : UW mc mc3 := (U1.t U2).t U3
  obtain ⟨w, d, rc3⟩ := R3.rc hA
  by_cases g : mm3.1 0 17 = 0
  · obtain ⟨g2, -, q1, c0⟩ := G3 g
    subst q1
    obtain ⟨g1, -, b, hb1, eb1, eb2, ib⟩ := G2 g2
    obtain ⟨gn, hc, hi⟩ := hg (G1 g1).1
    obtain ⟨g0, -, a, ha1, ea1, ea2, ia⟩ := G1 g1
    have ra : 1 ≤ a ∧ a ≤ 200 := rng (lo := 1) (hi := 200) (by omega) (by decide) (by decide) ia
    have rb : 1 ≤ b ∧ b ≤ 50 := rng (lo := 1) (hi := 50) (by omega) (by decide) (by decide) ib
    subst ea1 ea2 eb1 eb2
    have gn3 : GN 3 mc3.1 s (mm.1 5) := gn.u hs15 UU
    have cnt : mc3.1 (s + 6) 2 = nI i := by
      rw [← hc]
      exact gn3.1.1.2.2.1.1
    have ix : (20 : Int32) + (2 : Int32) * nI i = nI (20 + 2 * i) := by
      rw [show (20 : Int32) = nI 20 from rfl, show (2 : Int32) = nI 2 from rfl, pk_mul, nI_add]
    have ix1 : nI (20 + 2 * i) + 1 = nI (21 + 2 * i) := by rw [nI_1, show 20 + 2 * i + 1 = 21 + 2 * i by omega]
    generalize hm4 : uI (uI mm3 5 (20 + 2 * i) (nI a)) 5 (21 + 2 * i) (nI b) = mm4
    have fo : FO mm3 mm4 := ⟨by rw [← hm4]; rfl, fun y hy => by rw [← hm4, uI_o hy, uI_o hy]⟩
    have ad := adM_e rc3 hb cnt hi (nI a) (nI b)
    refine ⟨_, _, _, _, _, _, mm4, f3, e1, e5, e7, ad, fun m0 hm0 => ?_, RR.m (RR.w (mc2 := uI (uI (uI mc3 (s + 7) i (nI a)) (s + 8) i (nI b)) (s + 6) 2 (nI (i + 1))) hA R3 rfl (fun y hy => ?_)) fo, ?_, fun _ => ?_, fun z => absurd g0 z⟩
    · rw [← hm4]
      simp only [fX12_readMan, km_s, eq_self, gp_tt, hm0, bnd_s, rm_s mb.1, clL, inL, lt1_e, hc, ix, e2, bnd2_s, e6, e8, if_neg (show ¬ (1 : Int32) = 0 by decide), rm_s mb3.1, uI_2, inb_nI (show 20 + 2 * i < 206 by omega) (by decide), nI_clamp (show 20 + 2 * i < 2 ^ 31 by omega), ix1, inb_nI (show 21 + 2 * i < 206 by omega) (by decide), nI_clamp (show 21 + 2 * i < 2 ^ 31 by omega)]
    · rw [uI_o (by omega), uI_o (by omega), uI_o (by omega)]
    · obtain ⟨m9, y1, -, -, y4⟩ := adM_s rc3 hb sf3 (nI a) (nI b)
      rw [ad] at y1
      rw [Option.some.inj y1]
      exact y4
    · have z5 : ∀ y, y ≠ 3 → mm3.1 5 y = mm.1 5 y := fun y hy => by rw [F3 y hy, F2, F1]
      refine maU_g gn3 hc hi ra rb ?_ ?_ ?_ (fun y h1 h2 h3 => ?_) ?_ (fun j => ?_) (fun j => ?_) (fun c h1 h2 h3 => ?_) (fun j h1 => ?_)
      · rw [← hm4, uI_1, if_neg (by omega), uI_1, if_neg (by omega), c0, F2, F1, hc, nI_1]
      · rw [← hm4, uI_1, if_neg (by omega), uI_1, if_pos ⟨rfl, rfl⟩]
      · rw [← hm4, uI_1, if_pos ⟨rfl, rfl⟩]
      · rw [← hm4, uI_1, if_neg (fun z => h3 z.2), uI_1, if_neg (fun z => h2 z.2)]; exact z5 y h1
      · rw [uI_1, if_pos ⟨rfl, rfl⟩]
      · rw [uI_o (by omega), uI_o (by omega), uI_1]
        by_cases z : j = i
        · rw [if_pos ⟨rfl, z⟩, if_pos z]
        · rw [if_neg (fun y => z y.2), if_neg z]
      · rw [uI_o (by omega), uI_1]
        by_cases z : j = i
        · rw [if_pos ⟨rfl, z⟩, if_pos z]
        · rw [if_neg (fun y => z y.2), if_neg z, uI_o (by omega)]
      · rw [uI_o (by omega), uI_o (by omega), uI_o (by omega)]
      · rw [uI_1, if_neg (fun z => h1 z.2), uI_o (by omega), uI_o (by omega)]
  · have q0 := D3 g
    subst q0
    obtain ⟨mc4, y1, y2, y3, y4⟩ := adM_s rc3 hb sf3 v1 v2
    refine ⟨_, _, _, _, _, mc4, mm3, f3, e1, e5, e7, y1, fun m0 hm0 => ?_, R3.w hA y2 y3, y4, fun z => absurd z g, fun z => ?_⟩
    · simp only [fX12_readMan, km_s, eq_self, gp_tt, hm0, bnd_s, rm_s mb.1, clL, inL, lt1_e, e2, bnd2_s, e6, e8, if_true]
    · have x1 := D1 z
      subst x1
      have x2 := D2 z
      subst x2
      exact D4 z
theorem men_l {f : Nat} {mc mm : Mem} (hA : BA mc0 mm0 s B L) (h : RR mc0 mm0 s B L f mc mm) (hs : SF s mc) (hg : mm.1 0 17 = 0 → GN 3 mc.1 s (mm.1 5) ∧ mm.1 5 3 = 0) : ∃ e1 e2 f2, iter (fun q => fX5_readMen_2b 4 (s + 6) q.1 q.2) FU ((0 : Int32), mc) = some e1 ∧ iter (fun q => fX12_sea_81b 0 q) FU mm = some e2 ∧ RR mc0 mm0 s B L f2 e1 e2 ∧ SF s e1 ∧ (e2.1 0 17 = 0 → GN 3 e1.1 s (e2.1 5)) := by
  have hs15 := hA.2.2.1
  have kw : (7168366 : Int64) = lN (cW 12) := cwL.2.2.2.2.1
  have kc := kc_w hA.2.2.2.1
  obtain ⟨e1, e2, E1, E2, f2, Q⟩ := loop_g (b1 := fun q => fX5_readMen_2b 4 (s + 6) q.1 q.2) (b2 := fun q => fX12_sea_81b 0 q) (MAX := 10) (by decide) (fun i mc mm => ∃ f, RR mc0 mm0 s B L f mc mm ∧ SF s mc ∧ (mm.1 0 17 = 0 → GN 3 mc.1 s (mm.1 5) ∧ mm.1 5 3 = nI i)) (fun e1 e2 => ∃ f2, RR mc0 mm0 s B L f2 e1 e2 ∧ SF s e1 ∧ (e2.1 0 17 = 0 → GN 3 e1.1 s (e2.1 5))) (by
    rintro i mc mm hi ⟨f, h, hs, hg⟩
    have l0 : ¬ (10 : Int32) < nI i := nI_nlt (a := 10) hi (by decide)
    obtain ⟨r, w1, w2⟩ := h.begs hA (i := 12) (c := i) (R := 10) (j := 3) (by decide) hi (by decide) (by decide) (fun g => (hg g).2)
    rcases w2 with ⟨x1, x2, x3⟩ | ⟨x1, g, x3, mcB, mmB, y1, y2, y3, y4, y5, y6⟩ | ⟨x1, g, x3, mcB, mmB, y1, y2, y3, y4, y5, y6⟩
    · have x2 : fX5_begins 4 12 (nI i) (10 : Int32) mc = some (0, mc) := x2
      refine Or.inr (Or.inl ⟨mc, ?_, ?_, f, h, hs, fun g => ?_⟩)
      · simp only [fX5_readMen_2b, if_neg l0, kc_s, eq_self, gp_tt, x2, bnd2_s, if_true]
      · simp only [fX12_sea_81b, km_s, eq_self, gp_tt, w1, bnd_s]
        rw [kw, if_neg x1]
      · exact (hg g).1
    · have y1 : fX5_begins 4 12 (nI i) (10 : Int32) mc = some (1, mcB) := y1
      have y2 : fX12_begins 0 (3 : Int32) (10 : Int32) mm = some mmB := y2
      obtain ⟨v1, v2, mc1, mc2, mc3, mc4, mm4, f4, a1, a2, a3, a4, a5, a6, a7, a8, a9⟩ := men_b (i := i) hA y3 (hs.u hs15 y5) (fun _ => ⟨by rw [y6]; exact (hg g).1.u hs15 y5, by rw [y6]; exact (hg g).2, x3⟩)
      refine Or.inl ⟨mc4, mm4, x3, ?_, ?_, f4, a6, a7, fun z => a8 z⟩
      · simp only [fX5_readMen_2b, if_neg l0, kc_s, kc, eq_self, gp_tt, y1, bnd2_s, if_neg (show ¬ (1 : Int32) = 0 by decide), a1, a2, a3, bnd_s, a4, lt1_e, nI_1]
      · simp only [fX12_sea_81b, km_s, eq_self, gp_tt, w1, bnd_s]
        rw [kw, if_pos x1, a5 mm y2, bnd_s]
    · have y1 : fX5_begins 4 12 (nI i) (10 : Int32) mc = some (0, mcB) := y1
      have y2 : fX12_begins 0 (3 : Int32) (10 : Int32) mm = some mmB := y2
      obtain ⟨v1, v2, mc1, mc2, mc3, mc4, mm4, f4, a1, a2, a3, a4, a5, a6, a7, a8, a9⟩ := men_b (i := i) hA y3 (hs.u hs15 y5) (fun z => absurd z y4)
      have RF := y3.m (a9 y4)
      have gf : ¬ mm4.1 0 17 = 0 := by rw [(a9 y4).2 0 (by decide)]; exact y4
      obtain ⟨r2, u1, u2, u3⟩ := RF.word hA
      refine Or.inr (Or.inr ⟨mcB, mm4, ?_, ?_, ?_, f, RF, hs.u hs15 y5, fun z => absurd z gf⟩)
      · simp only [fX5_readMen_2b, if_neg l0, kc_s, eq_self, gp_tt, y1, bnd2_s, if_true]
      · simp only [fX12_sea_81b, km_s, eq_self, gp_tt, w1, bnd_s]
        rw [kw, if_pos x1, a5 mm y2, bnd_s]
      · simp only [fX12_sea_81b, km_s, eq_self, gp_tt, u1, bnd_s]
        rw [kw, if_neg (fun z => gf ((u2 12 (by decide)).mp z).1)]) ⟨f, h, hs, fun g => hg g⟩
  exact ⟨e1, e2, f2, E1, E2, Q⟩
theorem sig_b {f i : Nat} {mc mm : Mem} (hA : BA mc0 mm0 s B L) (h : RR mc0 mm0 s B L f mc mm) (hs : SF s mc) (hg : mm.1 0 17 = 0 → GN 4 mc.1 s (mm.1 5) ∧ mm.1 5 4 = nI i ∧ i < 10) : ∃ v1 v2 mc1 mc2 mc3 mc4 mm4 f4, fX5_takeKind 4 mc = some (v1, mc1) ∧ fX5_takeNumber 4 0 9 mc1 = some (v2, mc2) ∧ fX5_takeEnd 4 mc2 = some mc3 ∧ fX1_addSign (s + 9) v1 v2 mc3 = some mc4 ∧ (∀ m0, fX12_begins 0 4 10 m0 = some mm → fX12_readSign 0 m0 = some mm4) ∧ RR mc0 mm0 s B L f4 mc4 mm4 ∧ SF s mc4 ∧ (mm4.1 0 17 = 0 → GN 4 mc4.1 s (mm4.1 5) ∧ mm4.1 5 4 = nI (i + 1)) ∧ (¬ mm.1 0 17 = 0 → FO mm mm4) := by
  have hs15 := hA.2.2.1
  have hb := hA.2.2.2.1
  have mb := h.mb hA
  obtain ⟨v1, w1, mc1, mm1, f1, x, r, e1, e2, e3, e4, R1, U1, F1, G1, D1⟩ := h.kin hA
  obtain ⟨v2, w2, mc2, mm2, f2, e5, e6, R2, U2, F2, -, G2, -, D2⟩ := R1.num hA 0 9
  obtain ⟨mc3, mm3, q, f3, e7, e8, R3, U3, F3, G3, D3, D4⟩ := R2.ends hA (j := 4) (by decide)
  have e8 : fX12_ends 0 (4 : Int32) mm2 = some (q, mm3) := e8
  have mb3 := R3.mb hA
  have sf3 : SF s mc3 := ((hs.u hs15 U1).u hs15 U2).u hs15 U3
  have UU : UW mc mc3 := (U1.t U2).t U3
  obtain ⟨w, d, rc3⟩ := R3.rc hA
  by_cases g : mm3.1 0 17 = 0
  · obtain ⟨g2, -, q1, c0⟩ := G3 g
    subst q1
    obtain ⟨g1, -, b, hb1, eb1, eb2, ib⟩ := G2 g2
    obtain ⟨gn, hc, hi⟩ := hg (G1 g1).1
    obtain ⟨g0, -, a, al, au, ea1, ea2⟩ := G1 g1
    have ra : 1 ≤ a ∧ a ≤ 7 := ⟨al, by omega⟩
    have rb : 0 ≤ b ∧ b ≤ 9 := rng (lo := 0) (hi := 9) (by omega) (by decide) (by decide) ib
    subst ea1 ea2 eb1 eb2
    have gn3 : GN 4 mc3.1 s (mm.1 5) := gn.u hs15 UU
    have cnt : mc3.1 (s + 9) 5 = nI i := by
      rw [← hc]
      exact gn3.1.1.2.2.2.1.1
    have ix : (40 : Int32) + (2 : Int32) * nI i = nI (40 + 2 * i) := by
      rw [show (40 : Int32) = nI 40 from rfl, show (2 : Int32) = nI 2 from rfl, pk_mul, nI_add]
    have ix1 : nI (40 + 2 * i) + 1 = nI (41 + 2 * i) := by rw [nI_1, show 40 + 2 * i + 1 = 41 + 2 * i by omega]
    generalize hm4 : uI (uI mm3 5 (40 + 2 * i) (nI a)) 5 (41 + 2 * i) (nI b) = mm4
    have fo : FO mm3 mm4 := ⟨by rw [← hm4]; rfl, fun y hy => by rw [← hm4, uI_o hy, uI_o hy]⟩
    have ad := adS_e rc3 hb cnt hi (nI a) (nI b)
    refine ⟨_, _, _, _, _, _, mm4, f3, e1, e5, e7, ad, fun m0 hm0 => ?_, RR.m (RR.w (mc2 := uI (uI (uI mc3 (s + 10) i (nI a)) (s + 11) i (nI b)) (s + 9) 5 (nI (i + 1))) hA R3 rfl (fun y hy => ?_)) fo, ?_, fun _ => ?_, fun z => absurd g0 z⟩
    · rw [← hm4]
      simp only [fX12_readSign, km_s, eq_self, gp_tt, hm0, bnd_s, rm_s mb.1, clL, inL, lt1_e, hc, ix, e2, e3, e4, bnd2_s, e6, e8, if_neg (show ¬ (1 : Int32) = 0 by decide), rm_s mb3.1, uI_2, inb_nI (show 40 + 2 * i < 206 by omega) (by decide), nI_clamp (show 40 + 2 * i < 2 ^ 31 by omega), ix1, inb_nI (show 41 + 2 * i < 206 by omega) (by decide), nI_clamp (show 41 + 2 * i < 2 ^ 31 by omega)]
    · rw [uI_o (by omega), uI_o (by omega), uI_o (by omega)]
    · obtain ⟨m9, y1, -, -, y4⟩ := adS_s rc3 hb sf3 (nI a) (nI b)
      rw [ad] at y1
      rw [Option.some.inj y1]
      exact y4
    · have z5 : ∀ y, y ≠ 4 → mm3.1 5 y = mm.1 5 y := fun y hy => by rw [F3 y hy, F2, F1]
      refine siU_g gn3 hc hi ra rb ?_ ?_ ?_ (fun y h1 h2 h3 => ?_) ?_ (fun j => ?_) (fun j => ?_) (fun c h1 h2 h3 => ?_) (fun j h1 => ?_)
      · rw [← hm4, uI_1, if_neg (by omega), uI_1, if_neg (by omega), c0, F2, F1, hc, nI_1]
      · rw [← hm4, uI_1, if_neg (by omega), uI_1, if_pos ⟨rfl, rfl⟩]
      · rw [← hm4, uI_1, if_pos ⟨rfl, rfl⟩]
      · rw [← hm4, uI_1, if_neg (fun z => h3 z.2), uI_1, if_neg (fun z => h2 z.2)]; exact z5 y h1
      · rw [uI_1, if_pos ⟨rfl, rfl⟩]
      · rw [uI_o (by omega), uI_o (by omega), uI_1]
        by_cases z : j = i
        · rw [if_pos ⟨rfl, z⟩, if_pos z]
        · rw [if_neg (fun y => z y.2), if_neg z]
      · rw [uI_o (by omega), uI_1]
        by_cases z : j = i
        · rw [if_pos ⟨rfl, z⟩, if_pos z]
        · rw [if_neg (fun y => z y.2), if_neg z, uI_o (by omega)]
      · rw [uI_o (by omega), uI_o (by omega), uI_o (by omega)]
      · rw [uI_1, if_neg (fun z => h1 z.2), uI_o (by omega), uI_o (by omega)]
  · have q0 := D3 g
    subst q0
    obtain ⟨mc4, y1, y2, y3, y4⟩ := adS_s rc3 hb sf3 v1 v2
    refine ⟨_, _, _, _, _, mc4, mm3, f3, e1, e5, e7, y1, fun m0 hm0 => ?_, R3.w hA y2 y3, y4, fun z => absurd z g, fun z => ?_⟩
    · simp only [fX12_readSign, km_s, eq_self, gp_tt, hm0, bnd_s, rm_s mb.1, clL, inL, lt1_e, e2, e3, e4, bnd2_s, e6, e8, if_true]
    · have x1 := D1 z
      subst x1
      have x2 := D2 z
      subst x2
      exact D4 z
theorem sig_l {f : Nat} {mc mm : Mem} (hA : BA mc0 mm0 s B L) (h : RR mc0 mm0 s B L f mc mm) (hs : SF s mc) (hg : mm.1 0 17 = 0 → GN 4 mc.1 s (mm.1 5) ∧ mm.1 5 4 = 0) : ∃ e1 e2 f2, iter (fun q => fX5_readSigns_2b 4 (s + 9) q.1 q.2) FU ((0 : Int32), mc) = some e1 ∧ iter (fun q => fX12_sea_99b 0 q) FU mm = some e2 ∧ RR mc0 mm0 s B L f2 e1 e2 ∧ SF s e1 ∧ (e2.1 0 17 = 0 → GN 4 e1.1 s (e2.1 5)) := by
  have hs15 := hA.2.2.1
  have kw : (1936287598 : Int64) = lN (cW 13) := cwL.2.2.2.2.2.1
  have kc := kc_w hA.2.2.2.1
  obtain ⟨e1, e2, E1, E2, f2, Q⟩ := loop_g (b1 := fun q => fX5_readSigns_2b 4 (s + 9) q.1 q.2) (b2 := fun q => fX12_sea_99b 0 q) (MAX := 10) (by decide) (fun i mc mm => ∃ f, RR mc0 mm0 s B L f mc mm ∧ SF s mc ∧ (mm.1 0 17 = 0 → GN 4 mc.1 s (mm.1 5) ∧ mm.1 5 4 = nI i)) (fun e1 e2 => ∃ f2, RR mc0 mm0 s B L f2 e1 e2 ∧ SF s e1 ∧ (e2.1 0 17 = 0 → GN 4 e1.1 s (e2.1 5))) (by
    rintro i mc mm hi ⟨f, h, hs, hg⟩
    have l0 : ¬ (10 : Int32) < nI i := nI_nlt (a := 10) hi (by decide)
    obtain ⟨r, w1, w2⟩ := h.begs hA (i := 13) (c := i) (R := 10) (j := 4) (by decide) hi (by decide) (by decide) (fun g => (hg g).2)
    rcases w2 with ⟨x1, x2, x3⟩ | ⟨x1, g, x3, mcB, mmB, y1, y2, y3, y4, y5, y6⟩ | ⟨x1, g, x3, mcB, mmB, y1, y2, y3, y4, y5, y6⟩
    · have x2 : fX5_begins 4 13 (nI i) (10 : Int32) mc = some (0, mc) := x2
      refine Or.inr (Or.inl ⟨mc, ?_, ?_, f, h, hs, fun g => ?_⟩)
      · simp only [fX5_readSigns_2b, if_neg l0, kc_s, eq_self, gp_tt, x2, bnd2_s, if_true]
      · simp only [fX12_sea_99b, km_s, eq_self, gp_tt, w1, bnd_s]
        rw [kw, if_neg x1]
      · exact (hg g).1
    · have y1 : fX5_begins 4 13 (nI i) (10 : Int32) mc = some (1, mcB) := y1
      have y2 : fX12_begins 0 (4 : Int32) (10 : Int32) mm = some mmB := y2
      obtain ⟨v1, v2, mc1, mc2, mc3, mc4, mm4, f4, a1, a2, a3, a4, a5, a6, a7, a8, a9⟩ := sig_b (i := i) hA y3 (hs.u hs15 y5) (fun _ => ⟨by rw [y6]; exact (hg g).1.u hs15 y5, by rw [y6]; exact (hg g).2, x3⟩)
      refine Or.inl ⟨mc4, mm4, x3, ?_, ?_, f4, a6, a7, fun z => a8 z⟩
      · simp only [fX5_readSigns_2b, if_neg l0, kc_s, kc, eq_self, gp_tt, y1, bnd2_s, if_neg (show ¬ (1 : Int32) = 0 by decide), a1, a2, a3, bnd_s, a4, lt1_e, nI_1]
      · simp only [fX12_sea_99b, km_s, eq_self, gp_tt, w1, bnd_s]
        rw [kw, if_pos x1, a5 mm y2, bnd_s]
    · have y1 : fX5_begins 4 13 (nI i) (10 : Int32) mc = some (0, mcB) := y1
      have y2 : fX12_begins 0 (4 : Int32) (10 : Int32) mm = some mmB := y2
      obtain ⟨v1, v2, mc1, mc2, mc3, mc4, mm4, f4, a1, a2, a3, a4, a5, a6, a7, a8, a9⟩ := sig_b (i := i) hA y3 (hs.u hs15 y5) (fun z => absurd z y4)
      have RF := y3.m (a9 y4)
      have gf : ¬ mm4.1 0 17 = 0 := by rw [(a9 y4).2 0 (by decide)]; exact y4
      obtain ⟨r2, u1, u2, u3⟩ := RF.word hA
      refine Or.inr (Or.inr ⟨mcB, mm4, ?_, ?_, ?_, f, RF, hs.u hs15 y5, fun z => absurd z gf⟩)
      · simp only [fX5_readSigns_2b, if_neg l0, kc_s, eq_self, gp_tt, y1, bnd2_s, if_true]
      · simp only [fX12_sea_99b, km_s, eq_self, gp_tt, w1, bnd_s]
        rw [kw, if_pos x1, a5 mm y2, bnd_s]
      · simp only [fX12_sea_99b, km_s, eq_self, gp_tt, u1, bnd_s]
        rw [kw, if_neg (fun z => gf ((u2 13 (by decide)).mp z).1)]) ⟨f, h, hs, fun g => hg g⟩
  exact ⟨e1, e2, f2, E1, E2, Q⟩
end
