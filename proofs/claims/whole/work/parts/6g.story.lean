section
variable {mc0 mm0 : Mem} {s : Nat} {B : Nat → Nat} {L : Nat}
theorem pcl0 : ∀ j, j < 10 → ∀ a, a < 32 → ∀ b, b < 32 → nI (32 * a + b) &&& (((1 : Int32) <<< (nI j &&& 31)) ^^^ (-1)) = nI ((32 * a + b) &&& (1023 ^^^ 2 ^ j)) := by decide +kernel
theorem pcl {j k : Nat} (hj : j < 10) (hk : k < 1024) : nI k &&& (((1 : Int32) <<< (nI j &&& 31)) ^^^ (-1)) = nI (k &&& (1023 ^^^ 2 ^ j)) := by
  have := pcl0 j hj (k / 32) (by omega) (k % 32) (by omega)
  rw [show 32 * (k / 32) + k % 32 = k by omega] at this
  exact this
theorem dsj {l r k : Nat} (hk : k < 10) (h : l &&& r = 0) : (l ||| 2 ^ k) &&& (r &&& (1023 ^^^ 2 ^ k)) = 0 := by
  apply Nat.eq_of_testBit_eq
  intro n
  have hn : (l.testBit n && r.testBit n) = false := by rw [← Nat.testBit_and, h, Nat.zero_testBit]
  rw [Nat.testBit_and, Nat.testBit_or, Nat.testBit_and, Nat.testBit_xor, Nat.zero_testBit]
  by_cases q : n = k
  · subst q
    have t : ∀ k, k < 10 → (1023 : Nat).testBit k = true := by decide
    rw [t n hk, Nat.testBit_two_pow_self]
    simp
  · rw [Nat.testBit_two_pow_of_ne (Ne.symm q), Bool.or_false]
    rw [← Bool.and_assoc, hn, Bool.false_and]
theorem dsj2 {l r k : Nat} (hk : k < 10) (h : l &&& r = 0) : (l &&& (1023 ^^^ 2 ^ k)) &&& (r ||| 2 ^ k) = 0 := by
  rw [Nat.and_comm]
  exact dsj hk (by rw [Nat.and_comm]; exact h)
theorem adT_e {n w : Nat} {d : Bool} {m : Mem} (hC : RCok m w s d) (hb : WI s) (hn : m.1 (s + 9) 6 = nI n) (hM : n < 6) (v : Int32) : fX1_addStory (s + 9) v m = some (uI (uI (uI (uI m (s + 14) n v) (s + 12) n 0) (s + 13) n 0) (s + 9) 6 (nI (n + 1))) := by
  have u1 : ∀ x, (uI m (s + 14) n x).1 (s + 9) 6 = nI n := fun x => by rw [uI_o (by omega)]; exact hn
  have u2 : ∀ x y, (uI (uI m (s + 14) n x) (s + 12) n y).1 (s + 9) 6 = nI n := fun x y => by rw [uI_o (by omega), uI_o (by omega)]; exact hn
  have u3 : ∀ x y z, (uI (uI (uI m (s + 14) n x) (s + 12) n y) (s + 13) n z).1 (s + 9) 6 = nI n := fun x y z => by rw [uI_o (by omega), uI_o (by omega), uI_o (by omega)]; exact hn
  simp only [fX1_addStory, kc_w hb, rc_w hC hb, nc_w hb, hn, if_neg (show ¬ (6 : Int32) ≤ nI n from nI_ge (b := 6) hM (by decide)), eq_self, gp_tt, bnd_s, lt1_e, uI_2, inb_nI hM (by decide), nI_clamp (show n < 2 ^ 31 by omega), u1, u2, u3, nI_1]
theorem adT_s {w : Nat} {d : Bool} {m : Mem} (hC : RCok m w s d) (hb : WI s) (hS : SF s m) (v : Int32) : ∃ m2, fX1_addStory (s + 9) v m = some m2 ∧ m2.2 = m.2 ∧ (∀ a, ¬ (s ≤ a ∧ a ≤ s + 14) → m2.1 a = m.1 a) ∧ SF s m2 := by
  obtain ⟨w', h, n, a, g, t, l1, l2, l3, l4, l5, l6, e1, e2, e3, e4, e5, e6⟩ := id hS
  rcases Nat.lt_or_ge t 6 with c | c
  · rw [adT_e hC hb e6 c]
    refine ⟨_, rfl, rfl, fun x hx => ?_, w', h, n, a, g, t + 1, l1, l2, l3, l4, l5, by omega, ?_, ?_, ?_, ?_, ?_, ?_⟩
    · rw [uI_o (by omega), uI_o (by omega), uI_o (by omega), uI_o (by omega)]
    · rw [uI_o (by omega), uI_o (by omega), uI_o (by omega), uI_o (by omega)]; exact e1
    · rw [uI_o (by omega), uI_o (by omega), uI_o (by omega), uI_o (by omega)]; exact e2
    · rw [uI_o (by omega), uI_o (by omega), uI_o (by omega), uI_o (by omega)]; exact e3
    · rw [uI_o (by omega), uI_o (by omega), uI_o (by omega), uI_o (by omega)]; exact e4
    · rw [uI_1, if_neg (by simp), uI_o (by omega), uI_o (by omega), uI_o (by omega)]; exact e5
    · rw [uI_1, if_pos ⟨rfl, rfl⟩]
  · refine ⟨m, ?_, rfl, fun _ _ => rfl, hS⟩
    simp only [fX1_addStory, kc_w hb, e6, if_pos (show (6 : Int32) ≤ nI t from nI_le (a := 6) c (by omega)), eq_self, gp_tt]
theorem tell_c {w i g k : Nat} {d : Bool} {m : Mem} (hC : RCok m w s d) (hb : WI s) (h6 : m.1 (s + 9) 6 = nI (i + 1)) (hi : i < 6) (h5 : m.1 (s + 9) 5 = nI g) (hg : g ≤ 10) (hk : k < g) : fX1_tellOfLatest (s + 9) (nI k) 1 m = some (uI (uI m (s + 12) i (m.1 (s + 12) i ||| ((1 : Int32) <<< (nI k &&& 31)))) (s + 13) i (m.1 (s + 13) i &&& (((1 : Int32) <<< (nI k &&& 31)) ^^^ (-1)))) ∧ fX1_tellOfLatest (s + 9) (nI k) 0 m = some (uI (uI m (s + 12) i (m.1 (s + 12) i &&& (((1 : Int32) <<< (nI k &&& 31)) ^^^ (-1)))) (s + 13) i (m.1 (s + 13) i ||| ((1 : Int32) <<< (nI k &&& 31)))) := by
  have n0 : ¬ nI (i + 1) = 0 := nI_ne0 (by omega) (by omega)
  have u13 : ∀ x, (uI m (s + 12) i x).1 (s + 13) i = m.1 (s + 13) i := fun x => by rw [uI_o (by omega)]
  constructor
  · simp only [fX1_tellOfLatest, fX1_tellOfLatest_60, kc_w hb, rc_w hC hb, nc_w hb, isSign_c hb, h6, h5, if_neg n0, if_neg (iw_in hk (show g < 2 ^ 31 by omega)), eq_self, gp_tt, bnd_s, lt1_e, uI_2, nI_m1, inb_nI hi (by decide), nI_clamp (show i < 2 ^ 31 by omega), if_neg (show ¬ (1 : Int32) = 0 by decide), u13]
  · simp only [fX1_tellOfLatest, fX1_tellOfLatest_60, kc_w hb, rc_w hC hb, nc_w hb, isSign_c hb, h6, h5, if_neg n0, if_neg (iw_in hk (show g < 2 ^ 31 by omega)), eq_self, gp_tt, bnd_s, lt1_e, uI_2, nI_m1, inb_nI hi (by decide), nI_clamp (show i < 2 ^ 31 by omega), if_true, u13]
/-- within a story -/
def MI (mc mm : Mem) (s i o : Nat) (v3 v4 : Int32) : Prop := GG 5 mc.1 s (mm.1 5) ∧ mm.1 5 5 = nI i ∧ i < 6 ∧ mc.1 (s + 9) 6 = nI (i + 1) ∧ mc.1 (s + 14) i = nI o ∧ ∃ l r, v3 = nI l ∧ v4 = nI r ∧ mc.1 (s + 12) i = nI l ∧ mc.1 (s + 13) i = nI r ∧ l < 2 ^ sv (mm.1 5) 4 ∧ r < 2 ^ sv (mm.1 5) 4 ∧ l &&& r = 0
theorem MI.u {mc mc2 mm mm2 : Mem} {i o : Nat} {v3 v4 : Int32} (hs : s = 15 ∨ s = 30) (h : MI mc mm s i o v3 v4) (h1 : UW mc mc2) (h2 : mm2.1 5 = mm.1 5) : MI mc2 mm2 s i o v3 v4 := by
  obtain ⟨a1, a2, a3, a4, a5, a6⟩ := h
  unfold MI
  rw [h2, h1 (s + 9) (by omega) (by omega), h1 (s + 14) (by omega) (by omega), h1 (s + 12) (by omega) (by omega), h1 (s + 13) (by omega) (by omega)]
  exact ⟨a1.u (fun a q _ => h1 a (by omega) (by omega)), a2, a3, a4, a5, a6⟩
theorem MI.t {mc mm : Mem} {i o : Nat} {v3 v4 x y : Int32} {l r : Nat} (h : MI mc mm s i o v3 v4) (hx : x = nI l) (hy : y = nI r) (hl : l < 2 ^ sv (mm.1 5) 4) (hr : r < 2 ^ sv (mm.1 5) 4) (hd : l &&& r = 0) : MI (uI (uI mc (s + 12) i x) (s + 13) i y) mm s i o x y := by
  obtain ⟨⟨⟨a1, a2, a3, a4, a5⟩, bb, cc, dd, ee, ff, gg⟩, h5, hi, h6, h14, -⟩ := h
  obtain ⟨b0, b1, b3, b4, b5, b6, b7⟩ := bb.b
  have fi : sv (mm.1 5) 5 = i := sv_i h5 (by omega)
  have k : ∀ c, c ≠ 12 → c ≠ 13 → (uI (uI mc (s + 12) i x) (s + 13) i y).1 (s + c) = mc.1 (s + c) := fun c h1 h2 => by rw [uI_o (by omega), uI_o (by omega)]
  refine ⟨⟨⟨a1.c b0 (k 1 (by decide) (by decide)) (k 3 (by decide) (by decide)) (k 4 (by decide) (by decide)) (fun _ _ => rfl), a2.c (k 2 (by decide) (by decide)) (fun _ _ _ => rfl), a3.c b3 (k 6 (by decide) (by decide)) (k 7 (by decide) (by decide)) (k 8 (by decide) (by decide)) (fun _ _ => rfl), a4.c b4 (by rw [k 9 (by decide) (by decide)]) (k 10 (by decide) (by decide)) (k 11 (by decide) (by decide)) (fun _ _ => rfl), a5.c b5 (fun j hj => ?_) (fun _ _ => rfl)⟩, bb, cc, dd, ee, fun q => (ff q).c (k 5 (by decide) (by decide)) (fun _ _ => rfl), gg⟩, h5, hi, ?_, ?_, l, r, hx, hy, ?_, ?_, hl, hr, hd⟩
  · rw [fi] at hj
    refine ⟨?_, ?_, by rw [k 14 (by decide) (by decide)]⟩
    · rw [uI_o (by omega), uI_1, if_neg (by omega)]
    · rw [uI_1, if_neg (by omega), uI_o (by omega)]
  · rw [k 9 (by decide) (by decide)]; exact h6
  · rw [k 14 (by decide) (by decide)]; exact h14
  · rw [uI_o (by omega), uI_1, if_pos ⟨rfl, rfl⟩]; exact hx
  · rw [uI_1, if_pos ⟨rfl, rfl⟩]; exact hy
/-- one sign that a story leaves or bars -/
theorem tel_b {f i o c : Nat} {mc mm : Mem} {v3 v4 : Int32} (at_ od_ is : Int32) (his : is = 0 ∨ is = 1) (hA : BA mc0 mm0 s B L) (h : RR mc0 mm0 s B L f mc mm) (hs : SF s mc) (g : mm.1 0 17 = 0) (hf : f < L) (hg : MI mc mm s i o v3 v4) : ∃ mc2 mm2 w3 w4 f2, fX5_readWhatItLeaves_43 4 (s + 9) (nI c) is mc = some (.inl (nI (c + 1), mc2)) ∧ fX12_readStory_70 0 at_ od_ v3 v4 is mm = some (.inl (w3, w4, mm2)) ∧ RR mc0 mm0 s B L f2 mc2 mm2 ∧ SF s mc2 ∧ mm2.1 5 = mm.1 5 ∧ f < f2 ∧ (mm2.1 0 17 = 0 → MI mc2 mm2 s i o w3 w4) := by
  have hs15 := hA.2.2.1
  have hb := hA.2.2.2.1
  have c3 := (h.cb hA).1.2.2
  obtain ⟨mc1, mm1, e1, e2, R1, g1, U1, F1⟩ := h.adv hA g
  have a5 := h.2.2.2.2.1
  have nx := (pNx_le (B := B) a5).2.2 hf
  have mb1 := R1.mb hA
  have hg1 := hg.u hs15 U1 F1
  obtain ⟨v, w, mc2, mm2, f2, e3, e4, R2, U2, F2, lf, G2, -, D2⟩ := R1.num2 hA 0 (mc1.1 (s + 9) 5 - 1) (mm1.1 5 4 - 1) (fun _ => by rw [hg1.1.1.2.2.2.1.1])
  have sf2 : SF s mc2 := (hs.u hs15 U1).u hs15 U2
  have mst : fX12_must 0 1 mm = some mm1 := by
    simp only [fX12_must, fX12_must_9, km_s, eq_self, gp_tt, if_neg (show ¬ (1 : Int32) = 0 by decide), g, if_true, e2, bnd_s]
  have kc := kc_w hb
  by_cases g2 : mm2.1 0 17 = 0
  · obtain ⟨-, -, k, hk1, rfl, rfl, ik⟩ := G2 g2
    have hg2 := hg1.u hs15 U2 F2
    obtain ⟨-, gc⟩ : True ∧ mc2.1 4 1 = 0 := ⟨trivial, (R2.good g2).1⟩
    have b4 := hg1.1.2.1.b.2.2.2.1
    have k4 := (sea_nI hg1.1.2.1 (j := 4) (by decide)).1
    have kk : k < sv (mm1.1 5) 4 := by
      rw [hg1.1.1.2.2.2.1.1, k4] at ik
      obtain ⟨z, z1, z2⟩ := iw_lt (by omega) ik
      have := nI_inj1 (by omega) (by omega) z2
      omega
    obtain ⟨w', d', rc2⟩ := R2.rc hA
    have n5 : mc2.1 (s + 9) 5 = nI (sv (mm1.1 5) 4) := by rw [← k4, U2 (s + 9) (by omega) (by omega)]; exact hg1.1.1.2.2.2.1.1
    obtain ⟨t1, t0⟩ := tell_c rc2 hb hg2.2.2.2.1 hg2.2.2.1 n5 b4 kk
    obtain ⟨l, r, rfl, rfl, p1, p2, pl, pr, pd⟩ := hg2.2.2.2.2.2
    have s24 : sv (mm2.1 5) 4 = sv (mm1.1 5) 4 := by rw [F2]
    have l10 : 2 ^ sv (mm2.1 5) 4 ≤ 1024 := by
      rw [s24]
      exact Nat.le_trans (Nat.pow_le_pow_right (by decide) b4) (by decide)
    have pk2 : 2 ^ k < 2 ^ sv (mm2.1 5) 4 := by rw [s24]; exact Nat.pow_lt_pow_right (by decide) kk
    have oL : l ||| 2 ^ k < 2 ^ sv (mm2.1 5) 4 := Nat.or_lt_two_pow pl pk2
    have oR : r ||| 2 ^ k < 2 ^ sv (mm2.1 5) 4 := Nat.or_lt_two_pow pr pk2
    have aL : l &&& (1023 ^^^ 2 ^ k) < 2 ^ sv (mm2.1 5) 4 := Nat.lt_of_le_of_lt Nat.and_le_left pl
    have aR : r &&& (1023 ^^^ 2 ^ k) < 2 ^ sv (mm2.1 5) 4 := Nat.lt_of_le_of_lt Nat.and_le_left pr
    have sh : (1 : Int32) <<< (nI k &&& 31) = nI (2 ^ k) := shl1 (by omega)
    have xo : ∀ z, z < 1024 → nI z ||| ((1 : Int32) <<< (nI k &&& 31)) = nI (z ||| 2 ^ k) := fun z _ => by rw [sh, nI_or]
    have xa : ∀ z, z < 1024 → nI z &&& (((1 : Int32) <<< (nI k &&& 31)) ^^^ (-1)) = nI (z &&& (1023 ^^^ 2 ^ k)) := fun z hz => pcl (by omega) hz
    rw [p1, p2] at t1 t0
    have sft : ∀ x y : Int32, SF s (uI (uI mc2 (s + 12) i x) (s + 13) i y) := fun x y => by
      unfold SF at sf2 ⊢
      rw [uI_o (by omega), uI_o (by omega), uI_o (by omega), uI_o (by omega), uI_o (by omega), uI_o (by omega)]
      exact sf2
    have RW : ∀ x y : Int32, RR mc0 mm0 s B L f2 (uI (uI mc2 (s + 12) i x) (s + 13) i y) mm2 := fun x y => RR.w (mc2 := uI (uI mc2 (s + 12) i x) (s + 13) i y) hA R2 rfl (fun a ha => by rw [uI_o (by omega), uI_o (by omega)])
    rcases his with rfl | rfl
    · refine ⟨_, mm2, _, _, f2, ?_, ?_, RW (nI l &&& (((1 : Int32) <<< (nI k &&& 31)) ^^^ (-1))) (nI r ||| ((1 : Int32) <<< (nI k &&& 31))), sft _ _, by rw [F2, F1], by omega, fun _ => hg2.t (xa l (by omega)) (xo r (by omega)) aL oR (dsj2 (by omega) pd)⟩
      · simp only [fX5_readWhatItLeaves_43, fX5_readWhatItLeaves_77, kc_s, kc, c3, eq_self, gp_tt, bnd_s, e1, e3, bnd2_s, gc, if_true, t0, lt1_e, nI_1]
      · simp only [fX12_readStory_70, fX12_readStory_112, fX12_readStory_133, km_s, eq_self, gp_tt, mst, bnd_s, rm_s mb1.1, clL, inL, e4, bnd2_s, lt1_e, if_true]
    · refine ⟨_, mm2, _, _, f2, ?_, ?_, RW (nI l ||| ((1 : Int32) <<< (nI k &&& 31))) (nI r &&& (((1 : Int32) <<< (nI k &&& 31)) ^^^ (-1))), sft _ _, by rw [F2, F1], by omega, fun _ => hg2.t (xo l (by omega)) (xa r (by omega)) oL aR (dsj (by omega) pd)⟩
      · simp only [fX5_readWhatItLeaves_43, fX5_readWhatItLeaves_77, kc_s, kc, c3, eq_self, gp_tt, bnd_s, e1, e3, bnd2_s, gc, if_true, t1, lt1_e, nI_1]
      · simp only [fX12_readStory_70, fX12_readStory_112, fX12_readStory_133, km_s, eq_self, gp_tt, mst, bnd_s, rm_s mb1.1, clL, inL, e4, bnd2_s, lt1_e, if_neg (show ¬ (1 : Int32) = 0 by decide)]
  · have gc := R2.badc g2
    have cl : fX5_readWhatItLeaves_43 4 (s + 9) (nI c) is mc = some (.inl (nI (c + 1), mc2)) := by
      simp only [fX5_readWhatItLeaves_43, fX5_readWhatItLeaves_77, kc_s, kc, c3, eq_self, gp_tt, bnd_s, e1, e3, bnd2_s, if_neg gc, lt1_e, nI_1]
    rcases his with rfl | rfl
    · refine ⟨mc2, mm2, v3 &&& (((1 : Int32) <<< (w &&& 31)) ^^^ (-1)), v4 ||| ((1 : Int32) <<< (w &&& 31)), f2, cl, ?_, R2, sf2, by rw [F2, F1], by omega, fun z => absurd z g2⟩
      simp only [fX12_readStory_70, fX12_readStory_112, fX12_readStory_133, km_s, eq_self, gp_tt, mst, bnd_s, rm_s mb1.1, clL, inL, e4, bnd2_s, lt1_e, if_true]
    · refine ⟨mc2, mm2, v3 ||| ((1 : Int32) <<< (w &&& 31)), v4 &&& (((1 : Int32) <<< (w &&& 31)) ^^^ (-1)), f2, cl, ?_, R2, sf2, by rw [F2, F1], by omega, fun z => absurd z g2⟩
      simp only [fX12_readStory_70, fX12_readStory_112, fX12_readStory_133, km_s, eq_self, gp_tt, mst, bnd_s, rm_s mb1.1, clL, inL, e4, bnd2_s, lt1_e, if_neg (show ¬ (1 : Int32) = 0 by decide)]
theorem inn_l {f i o : Nat} {mc mm : Mem} {v3 v4 : Int32} (at_ od_ : Int32) (hA : BA mc0 mm0 s B L) (h : RR mc0 mm0 s B L f mc mm) (hs : SF s mc) (hg : mm.1 0 17 = 0 → MI mc mm s i o v3 v4) : ∃ e1 w3 w4 mm2 f2, fX5_readWhatItLeaves 4 (s + 9) mc = some e1 ∧ iter (fun q => fX12_readStory_32b 0 at_ od_ q.1 q.2.1 q.2.2) FU (v3, v4, mm) = some (w3, w4, mm2) ∧ RR mc0 mm0 s B L f2 e1 mm2 ∧ SF s e1 ∧ mm2.1 5 = mm.1 5 ∧ (mm2.1 0 17 = 0 → mm.1 0 17 = 0 ∧ MI e1 mm2 s i o w3 w4) ∧ (¬ mm.1 0 17 = 0 → mm2 = mm) := by
  have kl : (119182682645875 : Int64) = lN (cW 22) := cwL.2.2.2.2.2.2.2.1
  have kb : (1650553459 : Int64) = lN (cW 23) := cwL.2.2.2.2.2.2.2.2
  obtain ⟨e1, e2, E1, E2, m1, f2, q1, q2, q3, q4, q5, q6⟩ := iter_run2 (b1 := fun q => fX5_readWhatItLeaves_2b 4 (s + 9) q.1 q.2) (b2 := fun q => fX12_readStory_32b 0 at_ od_ q.1 q.2.1 q.2.2) (fun s1 s2 => ∃ c f, s1.1 = nI c ∧ c ≤ f ∧ RR mc0 mm0 s B L f s1.2 s2.2.2 ∧ SF s s1.2 ∧ s2.2.2.1 5 = mm.1 5 ∧ (s2.2.2.1 0 17 = 0 → mm.1 0 17 = 0 ∧ MI s1.2 s2.2.2 s i o s2.1 s2.2.1) ∧ (¬ mm.1 0 17 = 0 → s2.2.2 = mm)) (fun s1 => 1000 - s1.1.toNatClampNeg) (fun e1 e2 => ∃ m1 f2, (e1 = .inl m1 ∨ e1 = .inr m1) ∧ RR mc0 mm0 s B L f2 m1 e2.2.2 ∧ SF s m1 ∧ e2.2.2.1 5 = mm.1 5 ∧ (e2.2.2.1 0 17 = 0 → mm.1 0 17 = 0 ∧ MI m1 e2.2.2 s i o e2.1 e2.2.1) ∧ (¬ mm.1 0 17 = 0 → e2.2.2 = mm)) (by
    rintro ⟨x1, m1⟩ ⟨y3, y4, m2⟩ ⟨c, f, q1, q2, q3, q4, q5, q6, q7⟩
    simp only at q1 q2 q3 q4 q5 q6 q7
    subst q1
    obtain ⟨⟨c1, c2, c3⟩, hL, c5, c6⟩ := q3.cb hA
    have a5 := q3.2.2.2.2.1
    have mu : c < 600 → 1000 - (nI (c + 1)).toNatClampNeg < 1000 - (nI c).toNatClampNeg := fun _ => by
      rw [nI_clamp (by omega), nI_clamp (by omega)]
      omega
    obtain ⟨r, w1, w2, w3⟩ := q3.word hA
    by_cases g : m2.1 0 17 = 0
    · obtain ⟨gm, hm⟩ := q6 g
      obtain ⟨gc, -⟩ := q3.good g
      have body : ∀ is : Int32, (is = 0 ∨ is = 1) → f < L → fX5_readWhatItLeaves_2b 4 (s + 9) (nI c) m1 = fX5_readWhatItLeaves_43 4 (s + 9) (nI c) is m1 → fX12_readStory_32b 0 at_ od_ y3 y4 m2 = fX12_readStory_70 0 at_ od_ y3 y4 is m2 → (∃ t1 t2, fX5_readWhatItLeaves_2b 4 (s + 9) (nI c) m1 = some (.inl t1) ∧ fX12_readStory_32b 0 at_ od_ y3 y4 m2 = some (.inl t2) ∧ (∃ c f, t1.1 = nI c ∧ c ≤ f ∧ RR mc0 mm0 s B L f t1.2 t2.2.2 ∧ SF s t1.2 ∧ t2.2.2.1 5 = mm.1 5 ∧ (t2.2.2.1 0 17 = 0 → mm.1 0 17 = 0 ∧ MI t1.2 t2.2.2 s i o t2.1 t2.2.1) ∧ (¬ mm.1 0 17 = 0 → t2.2.2 = mm)) ∧ 1000 - t1.1.toNatClampNeg < 1000 - (nI c).toNatClampNeg) := by
        intro is his hf b1 b2
        obtain ⟨mc2, mm2, w3, w4, f2, z1, z2, z3, z4, z5, z6, z7⟩ := tel_b (c := c) at_ od_ is his hA q3 q4 g hf hm
        exact ⟨(nI (c + 1), mc2), (w3, w4, mm2), by rw [b1]; exact z1, by rw [b2]; exact z2, ⟨c + 1, f2, rfl, by omega, z3, z4, by rw [z5]; exact q5, fun z => ⟨gm, z7 z⟩, fun z => absurd gm z⟩, mu (by omega)⟩
      rcases q3.name hA (i := 22) (by decide) with ⟨n1, n2⟩ | ⟨n1, n2⟩
      · have lf := pWn_lt n1
        refine Or.inl (body 1 (Or.inr rfl) lf ?_ ?_)
        · simp only [fX5_readWhatItLeaves_2b, if_neg (show ¬ (600 : Int32) ≤ nI c from nI_ge (b := 600) (by omega) (by decide)), kc_s, c3, eq_self, gp_tt, gc, if_true, bnd_s, n2, if_neg (show ¬ (1 : Int32) = 0 by decide)]
        · simp only [fX12_readStory_32b, fX12_readStory_54, km_s, eq_self, gp_tt, w1, bnd_s]
          rw [kl, if_pos ((w2 22 (by decide)).mpr ⟨g, n1⟩), if_pos ((w2 22 (by decide)).mpr ⟨g, n1⟩)]
      · have no : ¬ r = lN (cW 22) := fun z => n1 ((w2 22 (by decide)).mp z).2
        rcases q3.name hA (i := 23) (by decide) with ⟨n3, n4⟩ | ⟨n3, n4⟩
        · have lf := pWn_lt n3
          refine Or.inl (body 0 (Or.inl rfl) lf ?_ ?_)
          · simp only [fX5_readWhatItLeaves_2b, if_neg (show ¬ (600 : Int32) ≤ nI c from nI_ge (b := 600) (by omega) (by decide)), kc_s, c3, eq_self, gp_tt, gc, if_true, bnd_s, n2, n4, if_neg (show ¬ (1 : Int32) = 0 by decide)]
          · simp only [fX12_readStory_32b, fX12_readStory_54, km_s, eq_self, gp_tt, w1, bnd_s]
            rw [kl, kb, if_neg no, if_neg no, if_pos ((w2 23 (by decide)).mpr ⟨g, n3⟩)]
        · have no2 : ¬ r = lN (cW 23) := fun z => n3 ((w2 23 (by decide)).mp z).2
          have b2 : fX12_readStory_32b 0 at_ od_ y3 y4 m2 = some (.inr (y3, y4, m2)) := by
            simp only [fX12_readStory_32b, km_s, eq_self, gp_tt, w1, bnd_s]
            rw [kl, kb, if_neg no, if_neg no2]
          rcases Nat.lt_or_ge c 600 with cc | cc
          · refine Or.inr ⟨.inl m1, (y3, y4, m2), ?_, b2, m1, f, Or.inl rfl, q3, q4, q5, q6, q7⟩
            simp only [fX5_readWhatItLeaves_2b, if_neg (show ¬ (600 : Int32) ≤ nI c from nI_ge (b := 600) cc (by decide)), kc_s, c3, eq_self, gp_tt, gc, if_true, bnd_s, n2, n4]
          · refine Or.inr ⟨.inr m1, (y3, y4, m2), ?_, b2, m1, f, Or.inr rfl, q3, q4, q5, q6, q7⟩
            simp only [fX5_readWhatItLeaves_2b, if_pos (show (600 : Int32) ≤ nI c from nI_le (a := 600) cc (by omega))]
    · have gc := q3.badc g
      have r0 := w3 g
      have b2 : fX12_readStory_32b 0 at_ od_ y3 y4 m2 = some (.inr (y3, y4, m2)) := by
        simp only [fX12_readStory_32b, km_s, eq_self, gp_tt, w1, bnd_s]
        rw [kl, kb, if_neg (fun z => g ((w2 22 (by decide)).mp z).1), if_neg (fun z => g ((w2 23 (by decide)).mp z).1)]
      refine Or.inr ⟨.inr m1, (y3, y4, m2), ?_, b2, m1, f, Or.inr rfl, q3, q4, q5, q6, q7⟩
      simp only [fX5_readWhatItLeaves_2b, kc_s, eq_self, gp_tt, if_neg gc]
      split <;> rfl) FU ((0 : Int32), mc) (v3, v4, mm) ⟨0, f, rfl, Nat.zero_le _, h, hs, rfl, fun g => ⟨g, hg g⟩, fun _ => rfl⟩ (by have := FU_ge; show 1000 - (0 : Int32).toNatClampNeg < FU; omega)
  refine ⟨m1, e2.1, e2.2.1, e2.2.2, f2, ?_, E2, q2, q3, q4, q5, q6⟩
  unfold fX5_readWhatItLeaves fX5_readWhatItLeaves_2
  rw [lt1_e, E1, bnd_s]
  rcases q1 with rfl | rfl <;> rfl
theorem sb_t : ∀ i, i < 6 → sbL.getD (60 + 3 * i) 0 = 9 ∧ sbL.getD (61 + 3 * i) 0 = 1023 ∧ sbL.getD (62 + 3 * i) 0 = 1023 := by decide +kernel
theorem stU_g {i o l r : Nat} {I : Nat → Nat → Int32} {f g : Nat → Int32} (h : GG 5 I s f) (hf : f 5 = nI i) (hi : i < 6) (ho : 1 ≤ o ∧ o ≤ 9) (hl : l < 2 ^ sv f 4) (hr : r < 2 ^ sv f 4) (hd : l &&& r = 0) (g0 : g 5 = nI (i + 1)) (g1 : g (60 + 3 * i) = nI o) (g2 : g (61 + 3 * i) = nI l) (g4 : g (62 + 3 * i) = nI r) (g3 : ∀ x, x ≠ 5 → x ≠ 60 + 3 * i → x ≠ 61 + 3 * i → x ≠ 62 + 3 * i → g x = f x) (i0 : I (s + 9) 6 = nI (i + 1)) (i1 : I (s + 14) i = nI o) (i2 : I (s + 12) i = nI l) (i3 : I (s + 13) i = nI r) : GN 5 I s g ∧ g 5 = nI (i + 1) := by
  obtain ⟨⟨a1, a2, a3, a4, a5⟩, bb, ⟨c1, c2, c3, c4, c5⟩, dd, ee, ff, gg⟩ := h
  obtain ⟨b0, b1, b3, b4, b5, b6, b7⟩ := bb.b
  have fi : sv f 5 = i := sv_i hf (by omega)
  have gi : sv g 5 = i + 1 := sv_i g0 (by omega)
  have o' : ∀ x, (x < 60 ∨ 78 ≤ x) → x ≠ 5 → g x = f x := fun x hx hn => g3 x hn (by omega) (by omega) (by omega)
  have s2 := sb_t i hi
  have l10 : 2 ^ sv f 4 ≤ 1024 := Nat.le_trans (Nat.pow_le_pow_right (by decide) b4) (by decide)
  have B2 : SeaB g := bb.up (fun x => x = 5 ∨ x = 60 + 3 * i ∨ x = 61 + 3 * i ∨ x = 62 + 3 * i) (fun x hx q => g3 x (fun z => q (Or.inl z)) (fun z => q (Or.inr (Or.inl z))) (fun z => q (Or.inr (Or.inr (Or.inl z)))) (fun z => q (Or.inr (Or.inr (Or.inr z))))) (fun x hx q => by
    rcases q with rfl | rfl | rfl | rfl
    · exact ⟨i + 1, by have := sb_0; omega, g0⟩
    · exact ⟨o, by omega, g1⟩
    · exact ⟨l, by omega, g2⟩
    · exact ⟨r, by omega, g4⟩)
  refine ⟨⟨⟨⟨a1.c b0 rfl rfl rfl (fun x hx => o' x (by omega) (by omega)), a2.c rfl (fun x h1 h2 => o' x (by omega) (by omega)), a3.c b3 rfl rfl rfl (fun x hx => o' x (by omega) (by omega)), a4.c b4 rfl rfl rfl (fun x hx => o' x (by omega) (by omega)), fun j hj => ?_⟩, B2, ⟨c1.c b0 (fun x hx => o' x (by omega) (by omega)), c2.c (fun x hx => o' x (by omega) (by omega)), c3.c b3 (fun x hx => o' x (by omega) (by omega)), c4.c b4 (fun x hx => o' x (by omega) (by omega)), fun j hj => ?_⟩, ⟨by rw [sv_e (o' 6 (by omega) (by decide))]; exact dd.1, by rw [sv_e (o' 7 (by omega) (by decide))]; exact dd.2⟩, fun q => by rw [sv_e (o' 0 (by omega) (by decide))]; exact ee q, fun q => (ff q).c rfl (fun x hx => o' x (by omega) (by omega)), fun x h1 h2 => by omega⟩, by rw [i0, g0]⟩, g0⟩
  · rw [gi] at hj
    by_cases z : j = i
    · subst z
      rw [i1, i2, i3, g1, g2, g4]; exact ⟨rfl, rfl, rfl⟩
    · rw [g3 _ (by omega) (by omega) (by omega) (by omega), g3 _ (by omega) (by omega) (by omega) (by omega), g3 _ (by omega) (by omega) (by omega) (by omega)]
      exact a5 j (by omega)
  · rw [gi] at hj
    rw [sv_e (o' 4 (by omega) (by decide))]
    by_cases z : j = i
    · subst z
      rw [sv_i g1 (by omega), sv_i g2 (by omega), sv_i g4 (by omega)]
      exact ⟨ho.1, hl, hr, hd⟩
    · rw [sv_e (g3 (60 + 3 * j) (by omega) (by omega) (by omega) (by omega)), sv_e (g3 (61 + 3 * j) (by omega) (by omega) (by omega) (by omega)), sv_e (g3 (62 + 3 * j) (by omega) (by omega) (by omega) (by omega))]
      exact c5 j (by omega)
theorem stor_b {f i : Nat} {mc mm : Mem} (hA : BA mc0 mm0 s B L) (h : RR mc0 mm0 s B L f mc mm) (hs : SF s mc) (hg : mm.1 0 17 = 0 → GN 5 mc.1 s (mm.1 5) ∧ mm.1 5 5 = nI i ∧ i < 6) : ∃ v1 mc1 mc2 mc3 mc4 mm4 f4, fX5_takeNumber 4 1 9 mc = some (v1, mc1) ∧ fX1_addStory (s + 9) v1 mc1 = some mc2 ∧ fX5_readWhatItLeaves 4 (s + 9) mc2 = some mc3 ∧ fX5_takeEnd 4 mc3 = some mc4 ∧ (∀ m0, fX12_begins 0 5 6 m0 = some mm → fX12_readStory 0 m0 = some mm4) ∧ RR mc0 mm0 s B L f4 mc4 mm4 ∧ SF s mc4 ∧ (mm4.1 0 17 = 0 → GN 5 mc4.1 s (mm4.1 5) ∧ mm4.1 5 5 = nI (i + 1)) ∧ (¬ mm.1 0 17 = 0 → FO mm mm4) := by
  have hs15 := hA.2.2.1
  have hb := hA.2.2.2.1
  have mb := h.mb hA
  obtain ⟨v1, w1, mc1, mm1, f1, e1, e2, R1, U1, F1, -, G1, -, D1⟩ := h.num hA 1 9
  obtain ⟨w, d, rc1⟩ := R1.rc hA
  have sf1 : SF s mc1 := hs.u hs15 U1
  obtain ⟨mc2, e3, y2, y3, sf2⟩ := adT_s rc1 hb sf1 v1
  have R2 := R1.w hA y2 y3
  have mi : mm1.1 0 17 = 0 → ∃ o, 1 ≤ o ∧ o ≤ 9 ∧ w1 = nI o ∧ MI mc2 mm1 s i o 0 0 := by
    intro g1
    obtain ⟨g0, -, o, ho, eo1, eo2, io⟩ := G1 g1
    obtain ⟨gn, hc, hi⟩ := hg g0
    have ro := rng (lo := 1) (hi := 9) (by omega) (by decide) (by decide) io
    subst eo1 eo2
    have gn1 : GN 5 mc1.1 s (mm.1 5) := gn.u hs15 U1
    have cnt : mc1.1 (s + 9) 6 = nI i := by rw [gn1.2]; exact hc
    have ad := adT_e rc1 hb cnt hi (nI o)
    rw [ad] at e3
    have e3 := Option.some.inj e3
    subst e3
    have b5 := gn.1.2.1.b
    have fi : sv (mm.1 5) 5 = i := sv_i hc (by omega)
    obtain ⟨⟨⟨a1, a2, a3, a4, a5⟩, bb, cc, dd, ee, ff, gg⟩, nn⟩ := gn1
    obtain ⟨b0, b1, b3, b4, b5, b6, b7⟩ := bb.b
    have k : ∀ c, c ≠ 14 → c ≠ 12 → c ≠ 13 → c ≠ 9 → (uI (uI (uI (uI mc1 (s + 14) i (nI o)) (s + 12) i 0) (s + 13) i 0) (s + 9) 6 (nI (i + 1))).1 (s + c) = mc1.1 (s + c) := fun c h1 h2 h3 h4 => by rw [uI_o (by omega), uI_o (by omega), uI_o (by omega), uI_o (by omega)]
    refine ⟨o, ro.1, ro.2, rfl, ⟨⟨?_, ?_, ?_, ?_, ?_⟩, ?_, ?_, ?_, ?_, ?_, ?_⟩, ?_, hi, ?_, ?_, 0, 0, rfl, rfl, ?_, ?_, Nat.pow_pos (by decide), Nat.pow_pos (by decide), rfl⟩
    · rw [F1]; exact a1.c b0 (k 1 (by decide) (by decide) (by decide) (by decide)) (k 3 (by decide) (by decide) (by decide) (by decide)) (k 4 (by decide) (by decide) (by decide) (by decide)) (fun _ _ => rfl)
    · rw [F1]; exact a2.c (k 2 (by decide) (by decide) (by decide) (by decide)) (fun _ _ _ => rfl)
    · rw [F1]; exact a3.c b3 (k 6 (by decide) (by decide) (by decide) (by decide)) (k 7 (by decide) (by decide) (by decide) (by decide)) (k 8 (by decide) (by decide) (by decide) (by decide)) (fun _ _ => rfl)
    · rw [F1]; exact a4.c b4 (by rw [uI_1, if_neg (by simp), uI_o (by omega), uI_o (by omega), uI_o (by omega)]) (k 10 (by decide) (by decide) (by decide) (by decide)) (k 11 (by decide) (by decide) (by decide) (by decide)) (fun _ _ => rfl)
    · rw [F1]
      refine a5.c b5 (fun j hj => ?_) (fun _ _ => rfl)
      rw [fi] at hj
      refine ⟨?_, ?_, ?_⟩
      · rw [uI_o (by omega), uI_o (by omega), uI_1, if_neg (by omega), uI_o (by omega)]
      · rw [uI_o (by omega), uI_1, if_neg (by omega), uI_o (by omega), uI_o (by omega)]
      · rw [uI_o (by omega), uI_o (by omega), uI_o (by omega), uI_1, if_neg (by omega)]
    · rw [F1]; exact bb
    · rw [F1]; exact cc
    · rw [F1]; exact dd
    · rw [F1]; exact ee
    · rw [F1]; exact fun q => (ff q).c (k 5 (by decide) (by decide) (by decide) (by decide)) (fun _ _ => rfl)
    · rw [F1]; exact gg
    · rw [F1]; exact hc
    · rw [uI_1, if_pos ⟨rfl, rfl⟩]
    · rw [uI_o (by omega), uI_o (by omega), uI_o (by omega), uI_1, if_pos ⟨rfl, rfl⟩]
    · rw [uI_o (by omega), uI_o (by omega), uI_1, if_pos ⟨rfl, rfl⟩]; rfl
    · rw [uI_o (by omega), uI_1, if_pos ⟨rfl, rfl⟩]; rfl
  generalize hat : (60 : Int32) + (3 : Int32) * mm.1 5 5 = at_
  have go : ∀ o, (mm1.1 0 17 = 0 → 1 ≤ o ∧ o ≤ 9 ∧ w1 = nI o ∧ MI mc2 mm1 s i o 0 0) → ∃ v1 mc1 mc2 mc3 mc4 mm4 f4, fX5_takeNumber 4 1 9 mc = some (v1, mc1) ∧ fX1_addStory (s + 9) v1 mc1 = some mc2 ∧ fX5_readWhatItLeaves 4 (s + 9) mc2 = some mc3 ∧ fX5_takeEnd 4 mc3 = some mc4 ∧ (∀ m0, fX12_begins 0 5 6 m0 = some mm → fX12_readStory 0 m0 = some mm4) ∧ RR mc0 mm0 s B L f4 mc4 mm4 ∧ SF s mc4 ∧ (mm4.1 0 17 = 0 → GN 5 mc4.1 s (mm4.1 5) ∧ mm4.1 5 5 = nI (i + 1)) ∧ (¬ mm.1 0 17 = 0 → FO mm mm4) := by
    intro o hmi
    obtain ⟨mc3, w3, w4, mm2, f2, e5, e6, R3, sf3, F2, G2, D2⟩ := inn_l (i := i) (o := o) at_ w1 hA R2 sf2 (fun g => (hmi g).2.2.2)
    obtain ⟨mc4, mm3, q, f3, e7, e8, R4, U4, F3, G3, D3, D4⟩ := R3.ends hA (j := 5) (by decide)
    have e8 : fX12_ends 0 (5 : Int32) mm2 = some (q, mm3) := e8
    have mb3 := R4.mb hA
    have sf4 := sf3.u hs15 U4
    have pre : ∀ m0, fX12_begins 0 5 6 m0 = some mm → fX12_readStory 0 m0 = fX12_readStory_138 0 at_ w1 w3 w4 mm2 := by
      intro m0 hm0
      simp only [fX12_readStory, fX12_readStory_32, km_s, eq_self, gp_tt, hm0, bnd_s, rm_s mb.1, clL, inL, lt1_e, hat, e2, bnd2_s, e6]
    by_cases g : mm3.1 0 17 = 0
    · obtain ⟨g2, -, q1, c0⟩ := G3 g
      subst q1
      obtain ⟨g1, hM⟩ := G2 g2
      obtain ⟨o1, o2, rfl, -⟩ := hmi g1
      obtain ⟨g0, -⟩ := G1 g1
      obtain ⟨gn, hc, hi⟩ := hg g0
      have M4 := hM.u hs15 U4 (rfl : mm2.1 5 = mm2.1 5)
      obtain ⟨m1, m2, m3, m4, m5, l, r, rfl, rfl, p1, p2, pl, pr, pd⟩ := M4
      have ix : at_ = nI (60 + 3 * i) := by
        rw [← hat, hc, show (60 : Int32) = nI 60 from rfl, show (3 : Int32) = nI 3 from rfl, pk_mul, nI_add]
      have ix1 : nI (60 + 3 * i) + 1 = nI (61 + 3 * i) := by rw [nI_1, show 60 + 3 * i + 1 = 61 + 3 * i by omega]
      have ix2' : nI (60 + 3 * i) + 2 = nI (62 + 3 * i) := by rw [show (2 : Int32) = nI 2 from rfl, nI_add, show 60 + 3 * i + 2 = 62 + 3 * i by omega]
      generalize hm4 : uI (uI (uI mm3 5 (60 + 3 * i) (nI o)) 5 (61 + 3 * i) (nI l)) 5 (62 + 3 * i) (nI r) = mm4
      have fo : FO mm3 mm4 := ⟨by rw [← hm4]; rfl, fun y hy => by rw [← hm4, uI_o hy, uI_o hy, uI_o hy]⟩
      refine ⟨v1, mc1, mc2, mc3, mc4, mm4, f3, e1, e3, e5, e7, fun m0 hm0 => ?_, R4.m fo, sf4, fun _ => ?_, fun z => absurd g0 z⟩
      · rw [pre m0 hm0, ← hm4, ix]
        simp only [fX12_readStory_138, km_s, eq_self, gp_tt, e8, bnd2_s, if_neg (show ¬ (1 : Int32) = 0 by decide), rm_s mb3.1, bnd_s, lt1_e, uI_2, inb_nI (show 60 + 3 * i < 206 by omega) (by decide), nI_clamp (show 60 + 3 * i < 2 ^ 31 by omega), ix1, ix2', inb_nI (show 61 + 3 * i < 206 by omega) (by decide), nI_clamp (show 61 + 3 * i < 2 ^ 31 by omega), inb_nI (show 62 + 3 * i < 206 by omega) (by decide), nI_clamp (show 62 + 3 * i < 2 ^ 31 by omega)]
      · refine stU_g m1 m2 hi ⟨o1, o2⟩ pl pr pd ?_ ?_ ?_ ?_ (fun y h1 h2 h3 h4 => ?_) m4 m5 p1 p2
        · rw [← hm4, uI_1, if_neg (by omega), uI_1, if_neg (by omega), uI_1, if_neg (by omega), c0, m2, nI_1]
        · rw [← hm4, uI_1, if_neg (by omega), uI_1, if_neg (by omega), uI_1, if_pos ⟨rfl, rfl⟩]
        · rw [← hm4, uI_1, if_neg (by omega), uI_1, if_pos ⟨rfl, rfl⟩]
        · rw [← hm4, uI_1, if_pos ⟨rfl, rfl⟩]
        · rw [← hm4, uI_1, if_neg (fun z => h4 z.2), uI_1, if_neg (fun z => h3 z.2), uI_1, if_neg (fun z => h2 z.2)]; exact F3 y h1
    · have q0 := D3 g
      subst q0
      refine ⟨v1, mc1, mc2, mc3, mc4, mm3, f3, e1, e3, e5, e7, fun m0 hm0 => ?_, R4, sf4, fun z => absurd z g, fun z => ?_⟩
      · rw [pre m0 hm0]
        simp only [fX12_readStory_138, km_s, eq_self, gp_tt, e8, bnd2_s, if_true]
      · have x1 := D1 z
        subst x1
        have x2 := D2 z
        subst x2
        exact D4 z
  by_cases g1 : mm1.1 0 17 = 0
  · obtain ⟨o, o1, o2, o3, o4⟩ := mi g1
    exact go o (fun _ => ⟨o1, o2, o3, o4⟩)
  · exact go 0 (fun z => absurd z g1)
theorem stor_l {f : Nat} {mc mm : Mem} (hA : BA mc0 mm0 s B L) (h : RR mc0 mm0 s B L f mc mm) (hs : SF s mc) (hg : mm.1 0 17 = 0 → GN 5 mc.1 s (mm.1 5) ∧ mm.1 5 5 = 0) : ∃ e1 e2 f2, iter (fun q => fX5_readStories_2b 4 (s + 9) q.1 q.2) FU ((0 : Int32), mc) = some e1 ∧ iter (fun q => fX12_sea_117b 0 q) FU mm = some e2 ∧ RR mc0 mm0 s B L f2 e1 e2 ∧ SF s e1 ∧ (e2.1 0 17 = 0 → GN 5 e1.1 s (e2.1 5)) := by
  have hs15 := hA.2.2.1
  have kw : (495874699897 : Int64) = lN (cW 21) := cwL.2.2.2.2.2.2.1
  have kc := kc_w hA.2.2.2.1
  obtain ⟨e1, e2, E1, E2, f2, Q⟩ := loop_g (b1 := fun q => fX5_readStories_2b 4 (s + 9) q.1 q.2) (b2 := fun q => fX12_sea_117b 0 q) (MAX := 6) (by decide) (fun i mc mm => ∃ f, RR mc0 mm0 s B L f mc mm ∧ SF s mc ∧ (mm.1 0 17 = 0 → GN 5 mc.1 s (mm.1 5) ∧ mm.1 5 5 = nI i)) (fun e1 e2 => ∃ f2, RR mc0 mm0 s B L f2 e1 e2 ∧ SF s e1 ∧ (e2.1 0 17 = 0 → GN 5 e1.1 s (e2.1 5))) (by
    rintro i mc mm hi ⟨f, h, hs, hg⟩
    have l0 : ¬ (6 : Int32) < nI i := nI_nlt (a := 6) hi (by decide)
    obtain ⟨r, w1, w2⟩ := h.begs hA (i := 21) (c := i) (R := 6) (j := 5) (by decide) hi (by decide) (by decide) (fun g => (hg g).2)
    rcases w2 with ⟨x1, x2, x3⟩ | ⟨x1, g, x3, mcB, mmB, y1, y2, y3, y4, y5, y6⟩ | ⟨x1, g, x3, mcB, mmB, y1, y2, y3, y4, y5, y6⟩
    · have x2 : fX5_begins 4 21 (nI i) (6 : Int32) mc = some (0, mc) := x2
      refine Or.inr (Or.inl ⟨mc, ?_, ?_, f, h, hs, fun g => (hg g).1⟩)
      · simp only [fX5_readStories_2b, if_neg l0, kc_s, eq_self, gp_tt, x2, bnd2_s, if_true]
      · simp only [fX12_sea_117b, km_s, eq_self, gp_tt, w1, bnd_s]
        rw [kw, if_neg x1]
    · have y1 : fX5_begins 4 21 (nI i) (6 : Int32) mc = some (1, mcB) := y1
      have y2 : fX12_begins 0 (5 : Int32) (6 : Int32) mm = some mmB := y2
      obtain ⟨v1, mc1, mc2, mc3, mc4, mm4, f4, a1, a2, a3, a4, a5, a6, a7, a8, a9⟩ := stor_b (i := i) hA y3 (hs.u hs15 y5) (fun _ => ⟨by rw [y6]; exact (hg g).1.u hs15 y5, by rw [y6]; exact (hg g).2, x3⟩)
      refine Or.inl ⟨mc4, mm4, x3, ?_, ?_, f4, a6, a7, fun z => a8 z⟩
      · simp only [fX5_readStories_2b, if_neg l0, kc_s, kc, eq_self, gp_tt, y1, bnd2_s, if_neg (show ¬ (1 : Int32) = 0 by decide), a1, a2, a3, bnd_s, a4, lt1_e, nI_1]
      · simp only [fX12_sea_117b, km_s, eq_self, gp_tt, w1, bnd_s]
        rw [kw, if_pos x1, a5 mm y2, bnd_s]
    · have y1 : fX5_begins 4 21 (nI i) (6 : Int32) mc = some (0, mcB) := y1
      have y2 : fX12_begins 0 (5 : Int32) (6 : Int32) mm = some mmB := y2
      obtain ⟨v1, mc1, mc2, mc3, mc4, mm4, f4, a1, a2, a3, a4, a5, a6, a7, a8, a9⟩ := stor_b (i := i) hA y3 (hs.u hs15 y5) (fun z => absurd z y4)
      have RF := y3.m (a9 y4)
      have gf : ¬ mm4.1 0 17 = 0 := by rw [(a9 y4).2 0 (by decide)]; exact y4
      obtain ⟨r2, u1, u2, u3⟩ := RF.word hA
      refine Or.inr (Or.inr ⟨mcB, mm4, ?_, ?_, ?_, f, RF, hs.u hs15 y5, fun z => absurd z gf⟩)
      · simp only [fX5_readStories_2b, if_neg l0, kc_s, eq_self, gp_tt, y1, bnd2_s, if_true]
      · simp only [fX12_sea_117b, km_s, eq_self, gp_tt, w1, bnd_s]
        rw [kw, if_pos x1, a5 mm y2, bnd_s]
      · simp only [fX12_sea_117b, km_s, eq_self, gp_tt, u1, bnd_s]
        rw [kw, if_neg (fun z => gf ((u2 21 (by decide)).mp z).1)]) ⟨f, h, hs, fun g => hg g⟩
  exact ⟨e1, e2, f2, E1, E2, Q⟩
end
