section
variable {mc0 mm0 : Mem} {s : Nat} {B : Nat → Nat} {L : Nat}
/-- a word that must stand here -/
theorem RR.take {f i : Nat} {mc mm : Mem} (hA : BA mc0 mm0 s B L) (h : RR mc0 mm0 s B L f mc mm) (hi : i < 24) (g : mm.1 0 17 = 0) : (∃ mc1 mm1, pWn B L i f ∧ fX5_takeWord 4 i mc = some mc1 ∧ fX12_word 0 mm = some (lN (cW i)) ∧ fX12_must 0 1 mm = some mm1 ∧ RR mc0 mm0 s B L (pNx B L f) mc1 mm1 ∧ mm1.1 0 17 = 0 ∧ UW mc mc1 ∧ mm1.1 5 = mm.1 5) ∨ (∃ mc1 mm1 r, fX5_takeWord 4 i mc = some mc1 ∧ fX12_word 0 mm = some r ∧ ¬ r = lN (cW i) ∧ fX12_must 0 0 mm = some mm1 ∧ fX12_bad 0 1 mm = some mm1 ∧ RR mc0 mm0 s B L f mc1 mm1 ∧ ¬ mm1.1 0 17 = 0 ∧ UW mc mc1 ∧ mm1.1 5 = mm.1 5) := by
  obtain ⟨⟨c1, c2, c3⟩, hL, c5, c6⟩ := h.cb hA
  obtain ⟨r, w1, w2, w3⟩ := h.word hA
  rcases h.name hA hi with ⟨n1, n2⟩ | ⟨n1, n2⟩
  · obtain ⟨mc2, mm2, e1, e2, e3, e4, e5, e6⟩ := h.adv hA g
    refine Or.inl ⟨mc2, mm2, n1, ?_, by rw [w1, (w2 i hi).mpr ⟨g, n1⟩], ?_, e3, e4, e5, e6⟩
    · simp only [fX5_takeWord, kc_s, c3, eq_self, gp_tt, bnd_s, n2, if_neg (show ¬ (1 : Int32) = 0 by decide), e1]
    · simp only [fX12_must, fX12_must_9, km_s, eq_self, gp_tt, if_neg (show ¬ (1 : Int32) = 0 by decide), g, if_true, e2, bnd_s]
  · obtain ⟨mc2, mm2, e1, e2, e3, e4, e5, e6, e7⟩ := h.fail hA (k := 1) (by decide) (by decide)
    have e1 : fX5_fail 4 1 mc = some mc2 := e1
    have e2 : fX12_bad 0 1 mm = some mm2 := e2
    refine Or.inr ⟨mc2, mm2, r, ?_, w1, fun q => n1 ((w2 i hi).mp q).2, ?_, e2, e3, e4, e5, e6⟩
    · simp only [fX5_takeWord, kc_s, c3, eq_self, gp_tt, bnd_s, n2, if_true, e1]
    · simp only [fX12_must, fX12_must_9, km_s, eq_self, gp_tt, if_true, e2, bnd_s, if_neg e4]
/-- a world that holds nothing -/
def ZC (s : Nat) (m : Mem) : Prop := (m.1 (s + 1) 3 = 0 ∧ m.1 (s + 1) 4 = 0 ∧ m.1 (s + 1) 5 = 0 ∧ m.1 (s + 1) 6 = 0) ∧ (∀ y, y < 8 → m.1 (s + 2) y = 0) ∧ m.1 (s + 6) 2 = 0 ∧ m.1 (s + 9) 5 = 0 ∧ m.1 (s + 9) 6 = 0
theorem ZC.u {m m2 : Mem} (hs : s = 15 ∨ s = 30) (h : ZC s m) (h1 : UW m m2) : ZC s m2 := by
  unfold ZC at h ⊢
  rw [h1 (s + 1) (by omega) (by omega), h1 (s + 2) (by omega) (by omega), h1 (s + 6) (by omega) (by omega), h1 (s + 9) (by omega) (by omega)]
  exact h
theorem lr_z {f : Nat → Int32} {y : Nat} (h : ∀ x, x < 16 → f (78 + 16 * y + x) = 0) : ∀ n, n ≤ 16 → lr f y n = 0 := by
  intro n
  induction n with
  | zero => intro _; rfl
  | succ n ih => intro hn; rw [lr_s, ih (by omega), h n (by omega), if_neg (by decide)]
theorem zero_g {W H : Nat} {I : Nat → Nat → Int32} {f : Nat → Int32} (hW : 1 ≤ W ∧ W ≤ 16) (hH : 1 ≤ H ∧ H ≤ 8) (f6 : f 6 = nI W) (f7 : f 7 = nI H) (fz : ∀ x, x < 206 → x ≠ 6 → x ≠ 7 → f x = 0) (i3 : I (s + 1) 3 = nI W) (i4 : I (s + 1) 4 = nI H) (i5 : I (s + 1) 5 = 0) (i6 : I (s + 1) 6 = 0) (i2 : ∀ y, y < 8 → I (s + 2) y = 0) (ic : I (s + 6) 2 = 0) (is : I (s + 9) 5 = 0) (it : I (s + 9) 6 = 0) : GN 0 I s f := by
  have z : ∀ x, x < 206 → x ≠ 6 → x ≠ 7 → sv f x = 0 := fun x h1 h2 h3 => sv_i (k := 0) (fz x h1 h2 h3) (by decide)
  have z0 := z 0 (by decide) (by decide) (by decide)
  have z3 := z 3 (by decide) (by decide) (by decide)
  have z4 := z 4 (by decide) (by decide) (by decide)
  have z5 := z 5 (by decide) (by decide) (by decide)
  have BB : SeaB f := by
    intro j hj
    by_cases q : j = 6
    · subst q; exact ⟨W, by have := sb_0; omega, f6⟩
    · by_cases q2 : j = 7
      · subst q2; exact ⟨H, by have := sb_0; omega, f7⟩
      · exact ⟨0, Nat.zero_le _, fz j hj q q2⟩
  refine ⟨⟨⟨⟨⟨by rw [i3, f6], by rw [i4, f7], by rw [i5, fz 0 (by decide) (by decide) (by decide)], by rw [i6, z0]; rfl⟩, fun j hj => by omega⟩, fun y hy => ?_, ⟨by rw [ic, fz 3 (by decide) (by decide) (by decide)], fun j hj => by omega⟩, ⟨by rw [is, fz 4 (by decide) (by decide) (by decide)], fun j hj => by omega⟩, fun j hj => by omega⟩, BB, ⟨fun j hj => by omega, fun x y hx hy q => ?_, fun j hj => by omega, fun j hj => by omega, fun j hj => by omega⟩, ⟨by rw [sv_i f6 (by omega)]; omega, by rw [sv_i f7 (by omega)]; omega⟩, fun q => absurd q (by decide), fun q => absurd q (by decide), fun x h1 h2 => fz x (by omega) (by omega) (by omega)⟩, by rw [it, fz 5 (by decide) (by decide) (by decide)]⟩
  · rw [i2 y hy, lr_z (fun x hx => fz _ (by omega) (by omega) (by omega)) 16 (Nat.le_refl _)]
    rfl
  · rw [fz _ (by omega) (by omega) (by omega)] at q
    exact absurd q (by decide)
theorem size_s {f : Nat} {mc mm : Mem} (hA : BA mc0 mm0 s B L) (h : RR mc0 mm0 s B L f mc mm) (g : mm.1 0 17 = 0) (hz : ZC s mc) (fz : ∀ x, x < 206 → mm.1 5 x = 0) : ∃ mc2 mm2 f2, fX5_readSize 4 (s + 1) mc = some mc2 ∧ fX12_readShore 0 mm = fX12_readShore_72 0 mm2 ∧ RR mc0 mm0 s B L f2 mc2 mm2 ∧ SF s mc2 ∧ (mm2.1 0 17 = 0 → GN 0 mc2.1 s (mm2.1 5) ∧ mm2.1 5 0 = 0) := by
  have hs15 := hA.2.2.1
  have hb := hA.2.2.2.1
  have kc := kc_w hb
  have ks : (7562593 : Int64) = lN (cW 0) := cwL.1
  have first : ∃ mc1 mm1 f1 r x, fX5_takeWord 4 0 mc = some mc1 ∧ fX12_word 0 mm = some r ∧ (if r = (7562593 : Int64) then fX12_readShore_17 0 0 1 mm else fX12_readShore_17 0 0 0 mm) = fX12_readShore_17 0 0 x mm ∧ fX12_must 0 x mm = some mm1 ∧ RR mc0 mm0 s B L f1 mc1 mm1 ∧ UW mc mc1 ∧ mm1.1 5 = mm.1 5 := by
    rcases h.take hA (i := 0) (by decide) g with ⟨mc1, mm1, n1, e1, e2, e3, e4, e5, e6, e7⟩ | ⟨mc1, mm1, r, e1, e2, e3, e4, -, e5, e6, e7, e8⟩
    · exact ⟨mc1, mm1, _, _, 1, e1, e2, by rw [ks, if_pos rfl], e3, e4, e6, e7⟩
    · exact ⟨mc1, mm1, _, r, 0, e1, e2, by rw [ks, if_neg e3], e4, e5, e7, e8⟩
  obtain ⟨mc1, mm1, f1, r, x, e1, w1, w2, e2, R1, U1, F1⟩ := first
  have mb := h.mb hA
  have mb1 := R1.mb hA
  obtain ⟨v1, u1, mc2, mm2, f2, e3, e4, R2, U2, F2, -, G2, H2, -⟩ := R1.num hA 1 16
  have mb2 := R2.mb hA
  have fo2 : FO mm2 (uI mm2 5 6 u1) := ⟨rfl, fun a ha => uI_o ha⟩
  have R2' := R2.m fo2
  have mb2' := R2'.mb hA
  obtain ⟨v2, u2, mc3, mm3, f3, e5, e6, R3, U3, F3, -, G3, H3, D3⟩ := R2'.num hA 1 8
  have mb3 := R3.mb hA
  have fo3 : FO mm3 (uI mm3 5 7 u2) := ⟨rfl, fun a ha => uI_o ha⟩
  have R3' := R3.m fo3
  obtain ⟨mc4, mm4, f4, e7, e8, R4, U4, F4, -, G4, -⟩ := R3'.stop hA
  have UU : UW mc mc4 := ((U1.t U2).t U3).t U4
  have z4 := hz.u hs15 UU
  -- the numbers stay within
  have l1 : ∃ W, 1 ≤ W ∧ W ≤ 16 ∧ v1 = nI W := by
    by_cases q : mm2.1 0 17 = 0
    · obtain ⟨-, -, v, hv, rfl, -, iv⟩ := G2 q
      have := rng (lo := 1) (hi := 16) (by omega) (by decide) (by decide) iv
      exact ⟨v, this.1, this.2, rfl⟩
    · exact ⟨1, by decide, by decide, H2 q⟩
  have l2 : ∃ W, 1 ≤ W ∧ W ≤ 8 ∧ v2 = nI W := by
    by_cases q : mm3.1 0 17 = 0
    · obtain ⟨-, -, v, hv, rfl, -, iv⟩ := G3 q
      have := rng (lo := 1) (hi := 8) (by omega) (by decide) (by decide) iv
      exact ⟨v, this.1, this.2, rfl⟩
    · exact ⟨1, by decide, by decide, H3 q⟩
  obtain ⟨W, W1, W2, rfl⟩ := l1
  obtain ⟨H, H1', H2', rfl⟩ := l2
  have me : fX9_measure (s + 1) (nI W) (nI H) mc4 = some (uI (uI mc4 (s + 1) 3 (nI W)) (s + 1) 4 (nI H)) := by
    simp only [fX9_measure, kc, eq_self, gp_tt, lt1_e]
  have r3 : (uI (uI mc4 (s + 1) 3 (nI W)) (s + 1) 4 (nI H)).1 (s + 1) 3 = nI W := by rw [uI_1, if_neg (by simp), uI_1, if_pos ⟨rfl, rfl⟩]
  have r4 : (uI (uI mc4 (s + 1) 3 (nI W)) (s + 1) 4 (nI H)).1 (s + 1) 4 = nI H := by rw [uI_1, if_pos ⟨rfl, rfl⟩]
  have r5 : ∀ j, j ≠ 3 → j ≠ 4 → (uI (uI mc4 (s + 1) 3 (nI W)) (s + 1) 4 (nI H)).1 (s + 1) j = mc4.1 (s + 1) j := fun j h1 h2 => by rw [uI_1, if_neg (fun q => h2 q.2), uI_1, if_neg (fun q => h1 q.2)]
  have ro : ∀ a, a ≠ s + 1 → (uI (uI mc4 (s + 1) 3 (nI W)) (s + 1) 4 (nI H)).1 a = mc4.1 a := fun a ha => by rw [uI_o ha, uI_o ha]
  obtain ⟨⟨y3, y4, y5, y6⟩, yl, yc, ys, yt⟩ := id z4
  refine ⟨_, mm4, f4, ?_, ?_, RR.w (mc2 := uI (uI mc4 (s + 1) 3 (nI W)) (s + 1) 4 (nI H)) hA R4 rfl (fun a ha => ro a (by omega)), ?_, fun gg => ?_⟩
  · simp only [fX5_readSize, kc_s, kc, eq_self, gp_tt, e1, bnd_s, e3, bnd2_s, e5, e7, me]
  · have q1 : fX12_readShore 0 mm = fX12_readShore_17 0 0 x mm := by
      unfold fX12_readShore
      rw [gp_pos km_s.1, w1, bnd_s]
      exact w2
    rw [q1]
    simp only [fX12_readShore_17, fX12_readShore_69, km_s, eq_self, gp_tt, e2, bnd_s, rm_s mb1.1, rm_s mb2'.1, e4, bnd2_s, clL, inL, lt1_e, uI_2, rm_s mb2.1, e6]
    by_cases q : (uI mm3 5 7 u2).1 0 17 = 0
    · rw [if_pos q] at e8 ⊢
      by_cases q2 : (uI mm3 5 7 u2).1 0 14 = 4
      · rw [if_pos q2] at e8 ⊢
        rw [e8, bnd_s]
      · rw [if_neg q2] at e8 ⊢
        rw [e8, bnd_s]
    · rw [if_neg q] at e8 ⊢
      rw [Option.some.inj e8]
  · exact ⟨W, H, 0, 0, 0, 0, by omega, by omega, by decide, by decide, by decide, by decide, r3, r4, by rw [r5 5 (by decide) (by decide)]; exact y5, by rw [ro _ (by omega)]; exact yc, by rw [ro _ (by omega)]; exact ys, by rw [ro _ (by omega)]; exact yt⟩
  · obtain ⟨g3', -⟩ := G4 gg
    have g3 : mm3.1 0 17 = 0 := g3'
    obtain ⟨g2', -, b, hb', eb1, eb2, ib⟩ := G3 g3
    have g2 : mm2.1 0 17 = 0 := g2'
    obtain ⟨-, -, a, ha', ea1, ea2, ia⟩ := G2 g2
    have fx : ∀ x, mm4.1 5 x = if x = 7 then u2 else if x = 6 then u1 else mm.1 5 x := fun x => by
      rw [F4, uI_1, F3, uI_1, F2, F1]
      by_cases q : x = 7
      · rw [if_pos ⟨rfl, q⟩, if_pos q]
      · rw [if_neg (fun z => q z.2), if_neg q]
        by_cases q2 : x = 6
        · rw [if_pos ⟨rfl, q2⟩, if_pos q2]
        · rw [if_neg (fun z => q2 z.2), if_neg q2]
    refine ⟨zero_g ⟨W1, W2⟩ ⟨H1', H2'⟩ (by rw [fx, if_neg (by decide), if_pos rfl, ea2, ← ea1]) (by rw [fx, if_pos rfl, eb2, ← eb1]) (fun x hx q1 q2 => by rw [fx, if_neg q2, if_neg q1]; exact fz x hx) r3 r4 (by rw [r5 5 (by decide) (by decide)]; exact y5) (by rw [r5 6 (by decide) (by decide)]; exact y6) (fun y hy => by rw [ro _ (by omega)]; exact yl y hy) (by rw [ro _ (by omega)]; exact yc) (by rw [ro _ (by omega)]; exact ys) (by rw [ro _ (by omega)]; exact yt), ?_⟩
    rw [fx, if_neg (by decide), if_neg (by decide)]
    exact fz 0 (by decide)
theorem GN.up {n : Nat} {I : Nat → Nat → Int32} {f : Nat → Int32} (h : GN n I s f) (h0 : 1 ≤ sv f 0) (h3 : 3 ≤ n + 1 → HU I s f) : GN (n + 1) I s f := by
  obtain ⟨⟨a, b, c, d, e, g, k⟩, l⟩ := h
  exact ⟨⟨a, b, c, d, fun _ => h0, h3, fun x h1 h2 => k x (by omega) h2⟩, l⟩
/-- the shore: winds, then land -/
theorem shore_s {f : Nat} {mc mm : Mem} (hA : BA mc0 mm0 s B L) (h : RR mc0 mm0 s B L f mc mm) (hs : SF s mc) (hg : mm.1 0 17 = 0 → GN 0 mc.1 s (mm.1 5) ∧ mm.1 5 0 = 0) : ∃ mc2 mc3 mm3 f3, fX5_readWinds 4 (s + 1) mc = some mc2 ∧ fX5_readLands 4 (s + 1) mc2 = some mc3 ∧ fX12_readShore_72 0 mm = some mm3 ∧ RR mc0 mm0 s B L f3 mc3 mm3 ∧ SF s mc3 ∧ (mm3.1 0 17 = 0 → GN 1 mc3.1 s (mm3.1 5)) ∧ mc2.2 = mc0.2 := by
  have hs15 := hA.2.2.1
  have kw : (2003398244 : Int64) = lN (cW 1) := cwL.2.1
  obtain ⟨⟨c1, c2, c3⟩, hL, c5, c6⟩ := h.cb hA
  obtain ⟨r, w1, w2, w3⟩ := h.word hA
  have first : ∃ mcA mmA, fX5_readWinds 4 (s + 1) mc = fX5_readWinds_17 4 (s + 1) mcA ∧ fX12_readShore_72 0 mm = fX12_readShore_88 0 mmA ∧ RR mc0 mm0 s B L f mcA mmA ∧ SF s mcA ∧ (mmA.1 0 17 = 0 → GN 0 mcA.1 s (mmA.1 5) ∧ mmA.1 5 0 = 0 ∧ pWn B L 1 f) := by
    obtain ⟨mcF, mmF, e1, e2, e3, e4, e5, e6, e7⟩ := h.fail hA (k := 1) (by decide) (by decide)
    have e1 : fX5_fail 4 1 mc = some mcF := e1
    have e2 : fX12_bad 0 1 mm = some mmF := e2
    rcases h.name hA (i := 1) (by decide) with ⟨n1, n2⟩ | ⟨n1, n2⟩
    · have cl : fX5_readWinds 4 (s + 1) mc = fX5_readWinds_17 4 (s + 1) mc := by
        simp only [fX5_readWinds, kc_s, c3, eq_self, gp_tt, bnd_s, n2, if_neg (show ¬ (1 : Int32) = 0 by decide)]
      by_cases g : mm.1 0 17 = 0
      · refine ⟨mc, mm, cl, ?_, h, hs, fun _ => ⟨(hg g).1, (hg g).2, n1⟩⟩
        simp only [fX12_readShore_72, km_s, eq_self, gp_tt, w1, bnd_s]
        rw [kw, if_pos ((w2 1 (by decide)).mpr ⟨g, n1⟩)]
      · refine ⟨mc, mm, cl, ?_, h, hs, fun z => absurd z g⟩
        simp only [fX12_readShore_72, km_s, eq_self, gp_tt, w1, bnd_s, e2]
        rw [kw, if_neg (fun z => g ((w2 1 (by decide)).mp z).1), (e7 g).1]
    · refine ⟨mcF, mmF, ?_, ?_, e3, hs.u hs15 e5, fun z => absurd z e4⟩
      · simp only [fX5_readWinds, kc_s, c3, eq_self, gp_tt, bnd_s, n2, if_true, e1]
      · simp only [fX12_readShore_72, km_s, eq_self, gp_tt, w1, bnd_s, e2]
        rw [kw, if_neg (fun z => n1 ((w2 1 (by decide)).mp z).2)]
  obtain ⟨mcA, mmA, a1, a2, a3, a4, a5⟩ := first
  obtain ⟨e1, e2, f2, E1, E2, R2, sf2, G2⟩ := winD_l hA a3 a4 (fun g => ⟨(a5 g).1, (a5 g).2.1, (a5 g).2.2⟩)
  obtain ⟨d1, d2, f3, E3, E4, R3, sf3, G3⟩ := lanD_l hA R2 sf2 (fun g => ⟨(G2 g).1.up (G2 g).2 (fun q => absurd q (by decide)), (G2 g).1.1.2.2.2.2.2.2 1 (by decide) (by decide)⟩)
  refine ⟨e1, d1, d2, f3, ?_, ?_, ?_, R3, sf3, G3, R2.1.1⟩
  · rw [a1]
    unfold fX5_readWinds_17 fX5_readWinds_19
    rw [lt1_e, E1, bnd_s]
  · unfold fX5_readLands fX5_readLands_2
    rw [lt1_e, E3, bnd_s]
  · rw [a2]
    unfold fX12_readShore_88
    rw [E2, bnd_s]
    unfold fX12_readShore_106
    rw [E4, bnd_s]
theorem build_e {m : Mem} (hb : WI s) (v1 v2 v3 v4 : Int32) : ∃ m2, fX4_build (s + 5) v1 v2 v3 v4 m = some m2 ∧ m2.2 = m.2 ∧ (∀ a, a ≠ s + 5 → m2.1 a = m.1 a) ∧ m2.1 (s + 5) 0 = v1 ∧ m2.1 (s + 5) 1 = v2 ∧ m2.1 (s + 5) 2 = v4 ∧ m2.1 (s + 5) 3 = 0 ∧ m2.1 (s + 5) 4 = 0 ∧ m2.1 (s + 5) 5 = 0 ∧ m2.1 (s + 5) 6 = 0 ∧ m2.1 (s + 5) 7 = 0 ∧ m2.1 (s + 5) 8 = v3 := by
  simp only [fX4_build, fX4_launch, kc_w hb, eq_self, gp_tt, bnd_s, lt1_e, gp_pos (show zb (1 : Int32) = true by decide), gp_pos (show zb (0 : Int32) = true by decide)]
  refine ⟨_, rfl, rfl, fun a ha => ?_, ?_, ?_, ?_, ?_, ?_, ?_, ?_, ?_, ?_⟩
  · rw [uI_o ha, uI_o ha, uI_o ha, uI_o ha, uI_o ha, uI_o ha, uI_o ha, uI_o ha, uI_o ha, uI_o ha]
  · simp [uI_1]
  · simp [uI_1]
  · simp [uI_1]
  · simp [uI_1]
  · simp [uI_1]
  · simp [uI_1]
  · simp [uI_1]
  · simp [uI_1]
  · simp [uI_1]
theorem SF.o {m m2 : Mem} (h : SF s m) (h1 : m2.1 (s + 1) = m.1 (s + 1)) (h6 : m2.1 (s + 6) = m.1 (s + 6)) (h9 : m2.1 (s + 9) = m.1 (s + 9)) : SF s m2 := by
  unfold SF at h ⊢
  rw [h1, h6, h9]
  exact h
theorem shU_g {a b c d : Nat} {I I2 : Nat → Nat → Int32} {f g : Nat → Int32} (h : GN 1 I s f) (ha : a ≤ 7) (hb : b ≤ 20) (hc : c ≤ 40) (hd : 1 ≤ d ∧ d ≤ 200) (g2 : g 2 = nI 1) (g8 : g 8 = nI a) (g9 : g 9 = nI b) (g10 : g 10 = nI c) (g11 : g 11 = nI d) (g3 : ∀ x, x ≠ 2 → ¬ (8 ≤ x ∧ x < 12) → g x = f x) (i0 : ∀ c, c ≠ 5 → I2 (s + c) = I (s + c)) (i5 : I2 (s + 5) 0 = nI a ∧ I2 (s + 5) 1 = nI b ∧ I2 (s + 5) 2 = nI d ∧ I2 (s + 5) 3 = 0 ∧ I2 (s + 5) 4 = 0 ∧ I2 (s + 5) 5 = 0 ∧ I2 (s + 5) 6 = 0 ∧ I2 (s + 5) 7 = 0 ∧ I2 (s + 5) 8 = nI c) : GN 3 I2 s g ∧ g 3 = 0 := by
  obtain ⟨⟨⟨a1, a2, a3, a4, a5⟩, bb, ⟨c1, c2, c3, c4, c5⟩, dd, ee, ff, gg⟩, nn⟩ := h
  obtain ⟨b0, b1, b3, b4, b5, b6, b7⟩ := bb.b
  have o : ∀ x, (x < 8 ∨ 12 ≤ x) → x ≠ 2 → g x = f x := fun x hx hn => g3 x hn (by omega)
  have B2 : SeaB g := bb.up (fun x => x = 2 ∨ x = 8 ∨ x = 9 ∨ x = 10 ∨ x = 11) (fun x hx q => g3 x (fun z => q (Or.inl z)) (fun z => q (by omega))) (fun x hx q => by
    rcases q with rfl | rfl | rfl | rfl | rfl
    · exact ⟨1, by have := sb_0; omega, g2⟩
    · exact ⟨a, by have := sb_0; omega, g8⟩
    · exact ⟨b, by have := sb_0; omega, g9⟩
    · exact ⟨c, by have := sb_0; omega, g10⟩
    · exact ⟨d, by have := sb_0; omega, g11⟩)
  exact ⟨⟨⟨⟨a1.c b0 (i0 1 (by decide)) (i0 3 (by decide)) (i0 4 (by decide)) (fun x hx => o x (by omega) (by omega)), a2.c (i0 2 (by decide)) (fun x h1 h2 => o x (by omega) (by omega)), a3.c b3 (i0 6 (by decide)) (i0 7 (by decide)) (i0 8 (by decide)) (fun x hx => o x (by omega) (by omega)), a4.c b4 (by rw [i0 9 (by decide)]) (i0 10 (by decide)) (i0 11 (by decide)) (fun x hx => o x (by omega) (by omega)), a5.c b5 (fun j hj => by rw [i0 12 (by decide), i0 13 (by decide), i0 14 (by decide)]; exact ⟨rfl, rfl, rfl⟩) (fun x hx => o x (by omega) (by omega))⟩, B2, ⟨c1.c b0 (fun x hx => o x (by omega) (by omega)), c2.c (fun x hx => o x (by omega) (by omega)), c3.c b3 (fun x hx => o x (by omega) (by omega)), c4.c b4 (fun x hx => o x (by omega) (by omega)), c5.c b5 (fun x hx => o x (by omega) (by omega))⟩, ⟨by rw [sv_e (o 6 (by omega) (by decide))]; exact dd.1, by rw [sv_e (o 7 (by omega) (by decide))]; exact dd.2⟩, fun _ => by rw [sv_e (o 0 (by omega) (by decide))]; exact ee (by decide), fun _ => ⟨⟨by rw [g8]; exact i5.1, by rw [g9]; exact i5.2.1, by rw [g11]; exact i5.2.2.1, i5.2.2.2.1, i5.2.2.2.2.1, i5.2.2.2.2.2.1, i5.2.2.2.2.2.2.1, i5.2.2.2.2.2.2.2.1, by rw [g10]; exact i5.2.2.2.2.2.2.2.2⟩, by rw [sv_i g11 (by omega)]; exact hd.1⟩, fun x h1 h2 => by rw [o x (by omega) (by omega)]; exact gg x (by omega) h2⟩, by rw [i0 9 (by decide), o 5 (by omega) (by decide)]; exact nn⟩, by rw [o 3 (by omega) (by decide)]; exact gg 3 (by decide) (by decide)⟩
theorem ship_s {f : Nat} {mc mm : Mem} (hA : BA mc0 mm0 s B L) (h : RR mc0 mm0 s B L f mc mm) (hs : SF s mc) (hg : mm.1 0 17 = 0 → GN 1 mc.1 s (mm.1 5)) : ∃ mc2 mm2 f2, fX5_readShip 4 (s + 5) mc = some mc2 ∧ bnd (fX12_word 0 mm) (fun r72 => if r72 = (1936222576 : Int64) then (bnd (fX12_readShip 0 mm) (fun m76 => fX12_sea_81 0 m76)) else (bnd (fX12_bad 0 (1 : Int32) mm) (fun m74 => fX12_sea_81 0 m74))) = fX12_sea_81 0 mm2 ∧ RR mc0 mm0 s B L f2 mc2 mm2 ∧ SF s mc2 ∧ (mm2.1 0 17 = 0 → GN 3 mc2.1 s (mm2.1 5) ∧ mm2.1 5 3 = 0) := by
  have hs15 := hA.2.2.1
  have hb := hA.2.2.2.1
  have kc := kc_w hb
  have kw : (1936222576 : Int64) = lN (cW 11) := cwL.2.2.2.1
  -- the class reads on behind a fault
  have rest : ∀ (mc1 mmF : Mem) (f1 : Nat), RR mc0 mm0 s B L f1 mc1 mmF → ¬ mmF.1 0 17 = 0 → SF s mc1 → fX5_takeWord 4 11 mc = some mc1 → ∃ mc2 f2, fX5_readShip 4 (s + 5) mc = some mc2 ∧ RR mc0 mm0 s B L f2 mc2 mmF ∧ SF s mc2 := by
    intro mc1 mmF f1 R1 gF sf1 e1
    obtain ⟨v1, -, mc2, m2, f2, q1, -, R2, U2, -, -, -, -, D2⟩ := R1.num hA 0 7
    have x2 := D2 gF
    subst x2
    obtain ⟨v2, -, mc3, m3, f3, q2, -, R3, U3, -, -, -, -, D3⟩ := R2.num hA 0 20
    have x3 := D3 gF
    subst x3
    obtain ⟨v3, -, mc4, m4, f4, q3, -, R4, U4, -, -, -, -, D4⟩ := R3.num hA 0 40
    have x4 := D4 gF
    subst x4
    obtain ⟨v4, -, mc5, m5, f5, q4, -, R5, U5, -, -, -, -, D5⟩ := R4.num hA 1 200
    have x5 := D5 gF
    subst x5
    obtain ⟨mc6, m6, f6, q5, -, R6, U6, -, -, -, D6⟩ := R5.stop hA
    have x6 := D6 gF
    subst x6
    obtain ⟨m7, b1, b2, b3, -⟩ := build_e (m := mc6) hb v1 v2 v3 v4
    have sf6 := ((((sf1.u hs15 U2).u hs15 U3).u hs15 U4).u hs15 U5).u hs15 U6
    refine ⟨m7, f6, ?_, R6.w hA b2 (fun a ha => b3 a (by omega)), sf6.o (b3 _ (by omega)) (b3 _ (by omega)) (b3 _ (by omega))⟩
    simp only [fX5_readShip, kc_s, kc, eq_self, gp_tt, e1, bnd_s, q1, bnd2_s, q2, q3, q4, q5, b1]
  by_cases g : mm.1 0 17 = 0
  · rcases h.take hA (i := 11) (by decide) g with ⟨mc1, mm1, n1, e1, e2, e3, R1, g1, U1, F1⟩ | ⟨mc1, mm1, r, e1, e2, e3, -, e4, R1, g1, U1, F1⟩
    · obtain ⟨v1, w1, mc2, mm2, f2, q1, p1, R2, U2, F2, -, G2, -, -⟩ := R1.num hA 0 7
      obtain ⟨v2, w2, mc3, mm3, f3, q2, p2, R3, U3, F3, -, G3, -, -⟩ := R2.num hA 0 20
      obtain ⟨v3, w3, mc4, mm4, f4, q3, p3, R4, U4, F4, -, G4, -, -⟩ := R3.num hA 0 40
      obtain ⟨v4, w4, mc5, mm5, f5, q4, p4, R5, U5, F5, -, G5, -, -⟩ := R4.num hA 1 200
      obtain ⟨mc6, mm6, q, f6, q5, p5, R6, U6, F6, G6, D6, -⟩ := R5.ends hA (j := 2) (by decide)
      have p5 : fX12_ends 0 (2 : Int32) mm5 = some (q, mm6) := p5
      have mb6 := R6.mb hA
      obtain ⟨m7, b1, b2, b3, bh⟩ := build_e (m := mc6) hb v1 v2 v3 v4
      have UU : UW mc mc6 := ((((U1.t U2).t U3).t U4).t U5).t U6
      have sf6 := hs.u hs15 UU
      have cl : fX5_readShip 4 (s + 5) mc = some m7 := by
        simp only [fX5_readShip, kc_s, kc, eq_self, gp_tt, e1, bnd_s, q1, bnd2_s, q2, q3, q4, q5, b1]
      have sf7 : SF s m7 := sf6.o (b3 _ (by omega)) (b3 _ (by omega)) (b3 _ (by omega))
      have hd : bnd (fX12_word 0 mm) (fun r72 => if r72 = (1936222576 : Int64) then (bnd (fX12_readShip 0 mm) (fun m76 => fX12_sea_81 0 m76)) else (bnd (fX12_bad 0 (1 : Int32) mm) (fun m74 => fX12_sea_81 0 m74))) = bnd (fX12_readShip 0 mm) (fun m76 => fX12_sea_81 0 m76) := by
        rw [e2, bnd_s, kw, if_pos rfl]
      rw [hd]
      by_cases g6 : mm6.1 0 17 = 0
      · obtain ⟨g5, -, x1, c0⟩ := G6 g6
        subst x1
        obtain ⟨g4, -, d, d1, d2, d3, d4⟩ := G5 g5
        obtain ⟨g3, -, c, c1, c2, c3, c4⟩ := G4 g4
        obtain ⟨g2, -, b, b1', b2', b3', b4'⟩ := G3 g3
        obtain ⟨-, -, a, a1, a2, a3, a4⟩ := G2 g2
        have ra := rng (lo := 0) (hi := 7) (by omega) (by decide) (by decide) a4
        have rb := rng (lo := 0) (hi := 20) (by omega) (by decide) (by decide) b4'
        have rc' := rng (lo := 0) (hi := 40) (by omega) (by decide) (by decide) c4
        have rd := rng (lo := 1) (hi := 200) (by omega) (by decide) (by decide) d4
        subst a2 a3 b2' b3' c2 c3 d2 d3
        have gn := hg g
        have gn6 : GN 1 mc6.1 s (mm.1 5) := gn.u hs15 UU
        have f20 : mm.1 5 2 = 0 := gn.1.2.2.2.2.2.2 2 (by decide) (by decide)
        have F56 : ∀ x, x ≠ 2 → mm6.1 5 x = mm.1 5 x := fun x hx => by rw [F6 x hx, F5, F4, F3, F2, F1]
        generalize hm8 : uI (uI (uI (uI mm6 5 8 (nI a)) 5 9 (nI b)) 5 10 (nI c)) 5 11 (nI d) = mm8
        have fo : FO mm6 mm8 := ⟨by rw [← hm8]; rfl, fun y hy => by rw [← hm8, uI_o hy, uI_o hy, uI_o hy, uI_o hy]⟩
        have rs : fX12_readShip 0 mm = some mm8 := by
          rw [← hm8]
          simp only [fX12_readShip, km_s, eq_self, gp_tt, e3, bnd_s, p1, bnd2_s, p2, p3, p4, p5, if_neg (show ¬ (1 : Int32) = 0 by decide), rm_s mb6.1, uI_2, clL, inL, lt1_e]
        rw [rs, bnd_s]
        refine ⟨m7, mm8, f6, cl, rfl, RR.m (R6.w hA b2 (fun y hy => b3 y (by omega))) fo, sf7, fun _ => ?_⟩
        refine shU_g gn6 ra.2 rb.2 rc'.2 rd ?_ ?_ ?_ ?_ ?_ (fun x h1 h2 => ?_) (fun y hy => b3 _ (by omega)) bh
        · rw [← hm8, uI_1, if_neg (by decide), uI_1, if_neg (by decide), uI_1, if_neg (by decide), uI_1, if_neg (by decide), c0, F5, F4, F3, F2, F1, f20]; rfl
        · rw [← hm8, uI_1, if_neg (by decide), uI_1, if_neg (by decide), uI_1, if_neg (by decide), uI_1, if_pos ⟨rfl, rfl⟩]
        · rw [← hm8, uI_1, if_neg (by decide), uI_1, if_neg (by decide), uI_1, if_pos ⟨rfl, rfl⟩]
        · rw [← hm8, uI_1, if_neg (by decide), uI_1, if_pos ⟨rfl, rfl⟩]
        · rw [← hm8, uI_1, if_pos ⟨rfl, rfl⟩]
        · rw [← hm8, uI_1, if_neg (by omega), uI_1, if_neg (by omega), uI_1, if_neg (by omega), uI_1, if_neg (by omega)]; exact F56 x h1
      · have q0 := D6 g6
        subst q0
        have rs : fX12_readShip 0 mm = some mm6 := by
          simp only [fX12_readShip, km_s, eq_self, gp_tt, e3, bnd_s, p1, bnd2_s, p2, p3, p4, p5, if_true]
        rw [rs, bnd_s]
        exact ⟨m7, mm6, f6, cl, rfl, R6.w hA b2 (fun y hy => b3 y (by omega)), sf7, fun z => absurd z g6⟩
    · obtain ⟨mc2, f2, z1, z2, z3⟩ := rest mc1 mm1 _ R1 g1 (hs.u hs15 U1) e1
      refine ⟨mc2, mm1, f2, z1, ?_, z2, z3, fun z => absurd z g1⟩
      rw [e2, bnd_s, kw, if_neg e3, e4, bnd_s]
  · obtain ⟨⟨c1, c2, c3⟩, hL, c5, c6⟩ := h.cb hA
    obtain ⟨r, w1, w2, w3⟩ := h.word hA
    have gc := h.badc g
    have bd : fX12_bad 0 1 mm = some mm := by rw [bad_e, if_neg g]
    have md : bnd (fX12_word 0 mm) (fun r72 => if r72 = (1936222576 : Int64) then (bnd (fX12_readShip 0 mm) (fun m76 => fX12_sea_81 0 m76)) else (bnd (fX12_bad 0 (1 : Int32) mm) (fun m74 => fX12_sea_81 0 m74))) = fX12_sea_81 0 mm := by
      rw [w1, bnd_s, kw, if_neg (fun z => g ((w2 11 (by decide)).mp z).1), bd, bnd_s]
    rcases h.name hA (i := 11) (by decide) with ⟨n1, n2⟩ | ⟨n1, n2⟩
    · obtain ⟨mc1, e1, R1, U1⟩ := h.advf hA g
      have tk : fX5_takeWord 4 11 mc = some mc1 := by
        simp only [fX5_takeWord, kc_s, c3, eq_self, gp_tt, bnd_s, n2, if_neg (show ¬ (1 : Int32) = 0 by decide), e1]
      obtain ⟨mc2, f2, z1, z2, z3⟩ := rest mc1 mm _ R1 g (hs.u hs15 U1) tk
      exact ⟨mc2, mm, f2, z1, md, z2, z3, fun z => absurd z g⟩
    · have tk : fX5_takeWord 4 11 mc = some mc := by
        have fe : fX5_fail 4 1 mc = some mc := by rw [fail_e _ _ c3, if_neg gc]
        simp only [fX5_takeWord, kc_s, c3, eq_self, gp_tt, bnd_s, n2, if_true, fe]
      obtain ⟨mc2, f2, z1, z2, z3⟩ := rest mc mm _ h g hs tk
      exact ⟨mc2, mm, f2, z1, md, z2, z3, fun z => absurd z g⟩
end
