theorem so_le {sea : Nat → Int32} (hB : SeaB sea) : ∀ n, n ≤ sv sea 0 → so sea n ≤ 9 * n := by
  intro n
  induction n with
  | zero => intro _; exact Nat.le_refl _
  | succ n ih =>
    intro hn
    have := (wind_v hB (show n < sv sea 0 by omega)).2.2.2.2
    have := ih (by omega)
    rw [so_s]
    omega
theorem so_ge {sea : Nat → Int32} (hp : ∀ j, j < sv sea 0 → 1 ≤ sv sea (13 + 2 * j)) : ∀ n, n ≤ sv sea 0 → n ≤ so sea n := by
  intro n
  induction n with
  | zero => intro _; exact Nat.le_refl _
  | succ n ih =>
    intro hn
    have := hp n (by omega)
    have := ih (by omega)
    rw [so_s]
    omega
/-- the wind that comes -/
theorem draw_eq {mc mm : Mem} {b w s D : Nat} {d : Bool} {there : Int32} {now : Nat → Int32} (hC : RCok mc w s d) (hM : RMok mm) (hb : WI b) (hB : SeaB (mm.1 4)) (hW : WR mc.1 b (mm.1 4) now there) (h1 : 1 ≤ sv (mm.1 4) 0) (hp : ∀ j, j < sv (mm.1 4) 0 → 1 ≤ sv (mm.1 4) (13 + 2 * j)) (hD : D < 2 ^ 62) : ∃ j A, j < sv (mm.1 4) 0 ∧ fX9_drawWind (b + 1) (lN D) mc = some (nI j) ∧ fX12_allOdds 0 mm = some (nI A) ∧ ¬ (nI A).toInt64 = 0 ∧ fX12_windBy 0 (lN D - lN D / (nI A).toInt64 * (nI A).toInt64) mm = some (nI j) := by
  have hA := so_ge hp _ (Nat.le_refl _)
  have hA2 := so_le hB _ (Nat.le_refl _)
  obtain ⟨e0, b0⟩ := sea_nI hB (j := 0) (by decide)
  have b0 : sv (mm.1 4) 0 ≤ 4 := b0
  have eA := allOdds_m hM hB
  have cA := hW.2.1.2.2.2
  generalize hAA : so (mm.1 4) (sv (mm.1 4) 0) = A at hA hA2 eA cA
  have hr : D % A < A := Nat.mod_lt _ (by omega)
  have e64 : (nI A).toInt64 = lN A := nI_l (by omega)
  have n0 : ¬ lN A = (0 : Int64) := fun q => by
    have := (pk_lEQ (a := A) (b := 0) (by omega) (by decide)).mp q
    omega
  obtain ⟨j, hj, hmin⟩ := pk_least (fun j => D % A < so (mm.1 4) (j + 1)) ⟨sv (mm.1 4) 0 - 1, by
    show D % A < so (mm.1 4) (sv (mm.1 4) 0 - 1 + 1)
    rw [show sv (mm.1 4) 0 - 1 + 1 = sv (mm.1 4) 0 by omega, hAA]
    exact hr⟩
  have hjn : j < sv (mm.1 4) 0 := by
    rcases Nat.lt_or_ge j (sv (mm.1 4) 0) with q | q
    · exact q
    · refine absurd ?_ (hmin (sv (mm.1 4) 0 - 1) (by omega))
      show D % A < so (mm.1 4) (sv (mm.1 4) 0 - 1 + 1)
      rw [show sv (mm.1 4) 0 - 1 + 1 = sv (mm.1 4) 0 by omega, hAA]
      exact hr
  have sb : ∀ k, k ≤ sv (mm.1 4) 0 → so (mm.1 4) k ≤ 36 := fun k hk => by
    have := so_le hB k hk
    omega
  have rem : lN D - lN D / lN A * lN A = lN (D % A) := pk_lRem (by omega) (by omega) (by omega)
  refine ⟨j, A, hjn, ?_, eA, by rw [e64]; exact n0, ?_⟩
  · unfold fX9_drawWind
    rw [gp_pos (kc_w hb).2.1, cA, if_pos (show (0 : Int32) < nI A from nI_lt (a := 0) (by omega) (by omega)), e64, gp_pos n0, lt1_e, lt1_e, lt1_e, rem]
    unfold fX9_drawWind_23
    rw [show ((0 : Int32), (0 : Int32)) = (fun k => (nI (so (mm.1 4) k), nI k)) 0 from rfl, iter_traj (fun k => (nI (so (mm.1 4) k), nI k)) j (Sum.inl (nI j)) (by omega) ?_ ?_, bnd_s]
    · rfl
    · intro k hk
      have wk := (wind_v hB (show k < sv (mm.1 4) 0 by omega)).2.2.2.1
      have hs := sb (k + 1) (by omega)
      have q : lN (so (mm.1 4) (k + 1)) ≤ lN (D % A) := (pk_lLE (by omega) (by omega)).mpr (Nat.not_lt.mp (hmin k hk))
      simp only [fX9_drawWind_23b, kc_w hb, rc_w hC hb, nc_w hb, eq_self, gp_tt, bnd_s, lt1_e, hW.2.1.2.2.1, e0, if_neg (nI_ge (show k < sv (mm.1 4) 0 by omega) (by omega)), inb_nI (show k < 4 by omega) (by decide), nI_clamp (show k < 2 ^ 31 by omega), (hW.2.2.1 k (by omega)).2]
      rw [wk, nI_add, ← so_s, nI_l (show so (mm.1 4) (k + 1) < 2 ^ 31 by omega), if_pos q, nI_1]
    · have wk := (wind_v hB hjn).2.2.2.1
      have hs := sb (j + 1) (by omega)
      have q : ¬ lN (so (mm.1 4) (j + 1)) ≤ lN (D % A) := fun q => absurd ((pk_lLE (by omega) (by omega)).mp q) (Nat.not_le.mpr hj)
      simp only [fX9_drawWind_23b, kc_w hb, rc_w hC hb, nc_w hb, eq_self, gp_tt, bnd_s, lt1_e, hW.2.1.2.2.1, e0, if_neg (nI_ge hjn (by omega)), inb_nI (show j < 4 by omega) (by decide), nI_clamp (show j < 2 ^ 31 by omega), (hW.2.2.1 j hjn).2]
      rw [wk, nI_add, ← so_s, nI_l (show so (mm.1 4) (j + 1) < 2 ^ 31 by omega), if_neg q]
  · rw [e64, rem]
    have w0 := (wind_v hB (show 0 < sv (mm.1 4) 0 by omega)).2.2.2
    have o0 : fX12_oddsOf 0 (0 : Int32) mm = some (mm.1 4 13) := oddsOf_m hM (k := 0) (by decide)
    simp only [fX12_windBy, fX12_windBy_10, lt1_e, km_s, eq_self, gp_tt, o0, bnd_s]
    have s1 : (mm.1 4 13).toInt64 = lN (so (mm.1 4) (0 + 1)) := by
      rw [so_s, show so (mm.1 4) 0 = 0 from rfl, Nat.zero_add, show mm.1 4 13 = nI (sv (mm.1 4) (13 + 2 * 0)) from w0.1]
      exact nI_l (by have := w0.2; omega)
    rw [s1, show ((0 : Int32), lN (so (mm.1 4) (0 + 1))) = (fun k => (nI k, lN (so (mm.1 4) (k + 1)))) 0 from rfl, iter_traj (fun k => (nI k, lN (so (mm.1 4) (k + 1)))) j (nI j) (by omega) ?_ ?_, bnd_s]
    · intro k hk
      have wk := (wind_v hB (show k + 1 < sv (mm.1 4) 0 by omega)).2.2.2
      have hs := sb (k + 1) (by omega)
      have q : ¬ lN (D % A) < lN (so (mm.1 4) (k + 1)) := fun q => hmin k hk ((pk_lLT (by omega) (by omega)).mp q)
      simp only [fX12_windBy_10b, if_neg q, lt1_e, km_s, eq_self, gp_tt, nI_1, oddsOf_m hM (show k + 1 < 90 by omega), bnd_s]
      rw [wk.1, nI_l (show sv (mm.1 4) (13 + 2 * (k + 1)) < 2 ^ 31 by have := wk.2; omega), lN_add, ← so_s]
    · have hs := sb (j + 1) (by omega)
      have q : lN (D % A) < lN (so (mm.1 4) (j + 1)) := (pk_lLT (by omega) (by omega)).mpr hj
      simp only [fX12_windBy_10b, if_pos q]
/-- hours that went by -/
def JJ (mc0 mm0 : Mem) (b : Nat) (mc mm : Mem) : Prop := mc.2 = mc0.2 ∧ mm.2 = mm0.2 ∧ (∀ a, a ≠ b + 5 → mc.1 a = mc0.1 a) ∧ (∀ a, a ≠ 6 → mm.1 a = mm0.1 a) ∧ WR mc.1 b (mm.1 4) (mm.1 6) (mm0.1 0 7) ∧ SH (mm.1 4) (mm.1 6)
theorem JJ.step {mc0 mm0 mc mm : Mem} {b w s k vm : Nat} {d : Bool} (hC : RCok mc0 w s d) (hM : RMok mm0) (hb : WI b) (hB : SeaB (mm0.1 4)) (h : JJ mc0 mm0 b mc mm) (hk : k < sv (mm0.1 4) 0) (hvm : vm < 2) : ∃ mc2 mm2, fX4_passHour (b + 5) (b + 1) (nI k) (nI vm) mc = some mc2 ∧ fX12_oneHour 0 (nI k) (nI vm) mm = some mm2 ∧ JJ mc0 mm0 b mc2 mm2 := by
  obtain ⟨j1, j2, j3, j4, j5, j6⟩ := h
  have s4 : mm.1 4 = mm0.1 4 := j4 4 (by decide)
  obtain ⟨mc2, mm2, e1, e2, f1, f2, f3, f4, f5, f6⟩ := hour_eq (mc := mc) (mm := mm) (b := b) (w := w) (s := s) (d := d) (fun a ha x hx => by rw [j1]; exact hC a ha x hx) (fun x hx => by rw [j2]; exact hM x hx) hb (by rw [s4]; exact hB) j5 j6 (by rw [s4]; exact hk) hvm
  exact ⟨mc2, mm2, e1, e2, f1.trans j1, f2.trans j2, fun a ha => (f3 a ha).trans (j3 a ha), fun a ha => (f4 a ha).trans (j4 a ha), f5, f6⟩
theorem JJ.rel {mc0 mm0 mc mm : Mem} {w s : Nat} {d : Bool} (a1 : RMok mm0) (a2 : RCok mc0 w s d) (a3 : WS w s) (a4 : RowsR mc0.1 mm0.1) (a5 : TapeR mc0.1 mm0.1) (a6 : MiscR mc0.1 mm0.1) (a9 : ∀ k, k < 2 → ImgR mc0.1 mm0.1 k) (a10 : TraceR mc0.1 mm0.1) (hS : Sok (mm0.1 4) (mm0.1 6) (mm0.1 0 7)) (there : mm0.1 0 7 = 1) (h : JJ mc0 mm0 w mc mm) : Rel mc mm := by
  obtain ⟨j1, j2, j3, j4, j5, j6⟩ := h
  have z0 : mm.1 0 = mm0.1 0 := j4 0 (by decide)
  refine rel_world a1 a2 a3 a4 a5 a6 a9 a10 (by rw [j1]) (by rw [j2]) (fun a ha => j3 a (by omega)) ⟨⟨j4 1 (by decide), j4 2 (by decide), j4 3 (by decide), j4 7 (by decide), j4 13 (by decide), j4 14 (by decide), j4 15 (by decide), j4 16 (by decide)⟩, by rw [z0], by rw [z0], by rw [z0], by rw [z0]⟩ ?_ ?_ (fun q => by rw [z0]; exact q)
  · rw [z0]; exact j5
  · rw [z0]
    have s4 : mm.1 4 = mm0.1 4 := j4 4 (by decide)
    rw [s4] at j6 ⊢
    obtain ⟨s1, s2, s3, s5, s6, s7, s8⟩ := hS
    exact ⟨s1, s2, j6.2.1, Or.inr j6.1, fun _ => ⟨there, j6.2.2⟩, s7, s8⟩
theorem JJ.start {mc mm : Mem} {w : Nat} (hW : WR mc.1 w (mm.1 4) (mm.1 6) (mm.1 0 7)) (hS : Sok (mm.1 4) (mm.1 6) (mm.1 0 7)) (a0 : mm.1 6 0 = 1) : JJ mc mm w mc mm := ⟨rfl, rfl, fun _ _ => rfl, fun _ _ => rfl, hW, a0, hS.2.2.1, (hS.2.2.2.2.1 a0).2⟩
theorem put1 {sea now : Nat → Int32} {there : Int32} (hS : Sok sea now there) (h0 : ¬ now 0 = 0) : now 0 = 1 ∧ there = 1 := by
  rcases hS.2.2.2.1 with q | q
  · exact absurd q.1 h0
  · exact ⟨q, (hS.2.2.2.2.1 q).1⟩
theorem op9 : Op9 Rel := by
  intro mc mm h v1 v2 v3
  have h' := h.thrown
  unfold fX12_sailed
  rw [gp_pos km_s.1, lt1_e]
  generalize uI mm 0 0 0 = m0 at h' ⊢
  clear h
  obtain ⟨hM, w, s, d, hC, hws, hRows, hTape, hMisc, hW, hS, hImg, hTr⟩ := id h'
  simp only [fX11_sailed, isWithin_e, in_1_100, in_0_1, in_1_999999, bnd_s, lt1_e, km_s, kc_s, rc_s hC, rc_w hC hws.w, kc_w hws.w, rm_s hM, eq_self, gp_tt, clL, inL, hW.2.2.2.2.1.2.2.2.1]
  by_cases h0 : m0.1 6 0 = 0
  · exact ⟨_, _, _, if_pos h0, if_pos h0, h'⟩
  simp only [if_neg h0]
  by_cases h1 : iw v1 1 100 = 0
  · exact ⟨_, _, _, if_pos h1, if_pos h1, h'⟩
  simp only [if_neg h1]
  by_cases h2 : iw v2 0 1 = 0
  · exact ⟨_, _, _, if_pos h2, if_pos h2, h'⟩
  simp only [if_neg h2]
  by_cases h3 : iw v3 1 999999 = 0
  · exact ⟨_, _, _, if_pos h3, if_pos h3, h'⟩
  simp only [if_neg h3]
  obtain ⟨g1, g2⟩ := iw_ne0 h1
  obtain ⟨n, hn, rfl⟩ := nI_of2 (M := 100) (n := 100) rfl (Int32.not_lt.mpr (Int32.le_trans (by decide) g1)) g2
  obtain ⟨vm, hvm, rfl⟩ := iw_nI h2 (n := 1) rfl
  obtain ⟨g3, g4⟩ := iw_ne0 h3
  obtain ⟨s0, hs0, rfl⟩ := nI_of2 (M := 999999) (n := 999999) rfl (Int32.not_lt.mpr (Int32.le_trans (by decide) g3)) g4
  obtain ⟨a0, there⟩ := put1 hS h0
  obtain ⟨t6, t7, t0, t11, tO, -⟩ := hS.2.2.2.2.2.1 there
  rw [nI_l (show s0 < 2 ^ 31 by omega)]
  obtain ⟨e1, e2, E1, E2, Q⟩ := iter_run2 (b1 := fun s => fX11_sailed_57b 0 (nI n) (nI vm) s.1 s.2.1 s.2.2) (b2 := fun s => fX12_sailed_63b 0 (nI n) (nI vm) s.1 s.2.1 s.2.2) (fun s1 s2 => ∃ D k, D < 2147483647 ∧ k ≤ n ∧ s1.1 = lN D ∧ s1.2.1 = nI k ∧ s2.1 = lN D ∧ s2.2.1 = nI k ∧ JJ mc m0 w s1.2.2 s2.2.2) (fun s1 => 200 - s1.2.1.toNatClampNeg) (fun e1 e2 => JJ mc m0 w e1 e2) (by
    rintro ⟨a1, k1, m1⟩ ⟨a2, k2, m2⟩ ⟨D, k, hD, hk, q1, q2, q3, q4, J⟩
    simp only at q1 q2 q3 q4 J
    subst q1 q2 q3 q4
    rcases Nat.lt_or_ge k n with c | c
    · have eD : lN D * 16807 - lN D * 16807 / 2147483647 * 2147483647 = lN (D * 16807 % 2147483647) := by
        rw [show (16807 : Int64) = lN 16807 from rfl, show (2147483647 : Int64) = lN 2147483647 from rfl, lN_mul, pk_lRem (by omega) (by decide) (by decide)]
      have hD2 : D * 16807 % 2147483647 < 2147483647 := Nat.mod_lt _ (by decide)
      obtain ⟨j1, j2, j3, j4, j5, j6⟩ := id J
      have s4 : m2.1 4 = m0.1 4 := j4 4 (by decide)
      have hC1 : RCok m1 w s d := fun a ha x hx => by rw [j1]; exact hC a ha x hx
      have hM2 : RMok m2 := fun x hx => by rw [j2]; exact hM x hx
      obtain ⟨j, A, hj, d1, d2, d3, d4⟩ := draw_eq (mc := m1) (mm := m2) (b := w) (D := D * 16807 % 2147483647) hC1 hM2 hws.w (by rw [s4]; exact hS.2.1) j5 (by rw [s4]; exact t0) (by rw [s4]; exact tO) (by omega)
      obtain ⟨mc2, mm2, p1, p2, p3⟩ := JJ.step (vm := vm) hC hM hws.w hS.2.1 J (by rw [s4] at hj; exact hj) (by omega)
      refine Or.inl ⟨(lN (D * 16807 % 2147483647), nI (k + 1), mc2), (lN (D * 16807 % 2147483647), nI (k + 1), mm2), ?_, ?_, ⟨_, k + 1, hD2, by omega, rfl, rfl, rfl, rfl, p3⟩, ?_⟩
      · have n1 : ¬ (2147483647 : Int64) = 0 := by decide
        simp only [fX11_sailed_57b, fX11_sailed_111, if_neg (nI_ge c (by omega)), gp_pos n1, lt1_e, eD, kc_s, rc_s hC1, rc_w hC1 hws.w, kc_w hws.w, eq_self, gp_tt, bnd_s, d1]
        rcases (by omega : vm = 0 ∨ vm = 1) with rfl | rfl
        · have p1 : fX4_passHour (w + 5) (w + 1) (nI j) (0 : Int32) m1 = some mc2 := p1
          rw [if_neg (show ¬ nI 0 = 1 by decide), p1, bnd_s, nI_1]
        · have p1 : fX4_passHour (w + 5) (w + 1) (nI j) (1 : Int32) m1 = some mc2 := p1
          rw [if_pos (show nI 1 = 1 by decide), p1, bnd_s, nI_1]
      · have n1 : ¬ (2147483647 : Int64) = 0 := by decide
        simp only [fX12_sailed_63b, fX12_sailed_104, if_neg (nI_ge c (by omega)), gp_pos n1, lt1_e, eD, km_s, eq_self, gp_tt, bnd_s, d2, gp_pos d3, d4]
        rcases (by omega : vm = 0 ∨ vm = 1) with rfl | rfl
        · have p2 : fX12_oneHour 0 (nI j) (0 : Int32) m2 = some mm2 := p2
          rw [if_neg (show ¬ nI 0 = 1 by decide), p2, bnd_s, nI_1]
        · have p2 : fX12_oneHour 0 (nI j) (1 : Int32) m2 = some mm2 := p2
          rw [if_pos (show nI 1 = 1 by decide), p2, bnd_s, nI_1]
      · simp only [nI_clamp (show k + 1 < 2 ^ 31 by omega), nI_clamp (show k < 2 ^ 31 by omega)]
        omega
    · have : k = n := by omega
      subst this
      refine Or.inr ⟨m1, m2, ?_, ?_, J⟩
      · simp only [fX11_sailed_57b, if_pos (nI_le (Nat.le_refl k) (by omega))]
      · simp only [fX12_sailed_63b, if_pos (nI_le (Nat.le_refl k) (by omega))]) FU (lN s0, (0 : Int32), mc) (lN s0, (0 : Int32), m0) ⟨s0, 0, by omega, Nat.zero_le _, rfl, rfl, rfl, rfl, JJ.start hW hS a0⟩ (by have := FU_ge; show 200 - (0 : Int32).toNatClampNeg < FU; omega)
  unfold fX11_sailed_57 fX12_sailed_63
  rw [E1, E2, bnd_s, bnd_s]
  obtain ⟨j1, j2, j3, j4, j5, j6⟩ := id Q
  have hC1 : RCok e1 w s d := fun a ha x hx => by rw [j1]; exact hC a ha x hx
  have hM2 : RMok e2 := fun x hx => by rw [j2]; exact hM x hx
  simp only [fX11_sailed_120, fX12_sailed_113, kc_s, km_s, rc_s hC1, rc_w hC1 hws.w, kc_w hws.w, rm_s hM2, eq_self, gp_tt, bnd_s, clL, inL, j5.2.2.2.2.1.2.2.2.2.2.2.1]
  exact ⟨_, _, _, rfl, rfl, Q.rel hM hC hws hRows hTape hMisc hImg hTr hS there⟩
theorem op10 : Op10 Rel := by
  intro mc mm h v1 v2 v3
  have h' := h.thrown
  unfold fX12_blown
  rw [gp_pos km_s.1, lt1_e]
  generalize uI mm 0 0 0 = m0 at h' ⊢
  clear h
  obtain ⟨hM, w, s, d, hC, hws, hRows, hTape, hMisc, hW, hS, hImg, hTr⟩ := id h'
  simp only [fX11_blown, isWithin_e, isRow_e, in_1_40, bnd_s, lt1_e, km_s, kc_s, rc_s hC, rc_w hC hws.w, kc_w hws.w, rm_s hM, eq_self, gp_tt, clL, inL, hW.2.2.2.2.1.2.2.2.1]
  by_cases h0 : m0.1 6 0 = 0
  · exact ⟨_, _, _, if_pos h0, if_pos h0, h'⟩
  simp only [if_neg h0]
  by_cases h1 : iw v1 0 7 = 0
  · exact ⟨_, _, _, if_pos h1, if_pos h1, h'⟩
  simp only [if_neg h1]
  by_cases h2 : iw v3 1 40 = 0
  · exact ⟨_, _, _, if_pos h2, if_pos h2, h'⟩
  simp only [if_neg h2]
  obtain ⟨r, hr, rfl⟩ := iw_nI h1 (n := 7) rfl
  have hr : r < 8 := by omega
  obtain ⟨k1, k2, k3⟩ := kc_r r hr
  obtain ⟨r1, r2⟩ := rc_r hC r hr
  obtain ⟨p1, p2⟩ := hRows r hr
  obtain ⟨g1, g2⟩ := iw_ne0 h2
  obtain ⟨n, hn, rfl⟩ := nI_of2 (M := 40) (n := 40) rfl (Int32.not_lt.mpr (Int32.le_trans (by decide) g1)) g2
  simp only [inb_nI hr (by decide), nI_clamp (show r < 2 ^ 31 by omega), gp_tt, eq_self, r1, k1, bnd_s, fX6_isMissing, p1]
  have fnd : ∀ v : Int32, Rel (uI mc 0 9 v) (uI m0 0 1 v) := fun v => h'.find rfl ⟨rfl, rfl, rfl, rfl, rfl, rfl, rfl, rfl, rfl, rfl⟩ ⟨rfl, rfl, rfl, rfl, rfl⟩
  rcases p2 with p2 | ⟨l, q1, q2, q3, q4, q5⟩
  · simp only [p2, if_true, if_neg (show ¬ (0 : Int32) ≤ -1 by decide), if_neg (show ¬ (1 : Int32) = 0 by decide), found_e, finding_e, bnd_s, bnd2_s]
    exact ⟨_, _, _, rfl, rfl, fnd 1⟩
  have nl : ∀ l, l < 3 → ¬ nI l = (-1 : Int32) ∧ (0 : Int32) ≤ nI l := by decide
  obtain ⟨na, hna, ena⟩ := q4
  simp only [q2, if_neg (nl l q1).1, if_pos (nl l q1).2, if_true, holds_c hr, bnd_s, q3, ena, fX12_blown_76, km_s, eq_self, gp_tt, found_e, finding_e, bnd2_s]
  by_cases c1 : v2 < 0
  · simp only [if_pos c1, if_true]
    exact ⟨_, _, _, rfl, rfl, fnd 2⟩
  obtain ⟨i, hi, rfl⟩ := nI_of c1
  simp only [if_neg c1, if_neg (nI_pos (show n < 2 ^ 31 by omega))]
  by_cases c2 : na < i + n
  · simp only [if_pos ((fitN hna hi (show n < 2 ^ 31 by omega)).mpr c2), if_neg (fun q => absurd ((fitG hna hi (show n < 2 ^ 31 by omega)).mp q) (by omega)), if_true]
    exact ⟨_, _, _, rfl, rfl, fnd 2⟩
  simp only [if_neg (fun q => c2 ((fitN hna hi (show n < 2 ^ 31 by omega)).mp q)), if_pos ((fitG hna hi (show n < 2 ^ 31 by omega)).mpr (by omega)), if_neg (show ¬ (1 : Int32) = 0 by decide)]
  obtain ⟨e0, b0⟩ := sea_nI hS.2.1 (j := 0) (by decide)
  have b0 : sv (m0.1 4) 0 ≤ 4 := b0
  -- are all items winds?
  obtain ⟨e1, e2, E1, E2, Q⟩ := iter_run2 (b1 := fun s => fX6_isAllWithin_3b (45 + 2 * r) (nI i) (nI n) (m0.1 4 0 - 1) s mc) (b2 := fun s => fX12_blown_85b 0 (nI r) (nI i) (nI n) s m0) (fun s1 s2 => ∃ k, k ≤ n ∧ s1 = nI (i + k) ∧ s2 = nI k ∧ ∀ t, t < k → ∃ x, x < sv (m0.1 4) 0 ∧ m0.1 3 (40 * r + i + t) = nI x) (fun s1 => 400 - s1.toNatClampNeg) (fun e1 e2 => (e1 = .inl () ∧ e2 = .inl ()) ∨ (e1 = .inr () ∧ e2 = .inr () ∧ ∀ t, t < n → ∃ x, x < sv (m0.1 4) 0 ∧ m0.1 3 (40 * r + i + t) = nI x)) (by
    rintro s1 s2 ⟨k, hk, rfl, rfl, hall⟩
    rcases Nat.lt_or_ge k n with c | c
    · have it : mc.1 (46 + 2 * r) (i + k) = m0.1 3 (40 * r + i + k) := by rw [q5 _ (by omega), Nat.add_assoc]
      have b1 : ∀ y, fX6_isAllWithin_3b (45 + 2 * r) (nI i) (nI n) (m0.1 4 0 - 1) (nI (i + k)) mc = y ↔ (if iw (m0.1 3 (40 * r + i + k)) 0 (m0.1 4 0 - 1) = 0 then some (.inr (.inl ())) else some (.inl (nI (i + k + 1)))) = y := by
        intro y
        simp only [fX6_isAllWithin_3b, nI_add, if_neg (nI_ge (show i + k < i + n by omega) (by omega)), k1, k2, k3, r2, eq_self, gp_tt, bnd_s, inb_nI (show i + k < 40 by omega) (by decide), nI_clamp (show i + k < 2 ^ 31 by omega), it, isWithin_e, lt1_e, nI_1]
      have b2 : ∀ y, fX12_blown_85b 0 (nI r) (nI i) (nI n) (nI k) m0 = y ↔ (if iw (m0.1 3 (40 * r + i + k)) 0 (m0.1 4 0 - 1) = 0 then some (.inr (.inl ())) else some (.inl (nI (k + 1)))) = y := by
        intro y
        simp only [fX12_blown_85b, if_neg (nI_ge c (by omega)), km_s, rm_s hM, eq_self, gp_tt, bnd_s, a40, nI_add, inb_nI (show 40 * r + i + k < 320 by omega) (by decide), nI_clamp (show 40 * r + i + k < 2 ^ 31 by omega), clL, inL, in_lo0, lt1_e, nI_1]
      by_cases q : iw (m0.1 3 (40 * r + i + k)) 0 (m0.1 4 0 - 1) = 0
      · refine Or.inr ⟨.inl (), .inl (), (b1 _).mpr (if_pos q), (b2 _).mpr (if_pos q), Or.inl ⟨rfl, rfl⟩⟩
      · refine Or.inl ⟨nI (i + k + 1), nI (k + 1), (b1 _).mpr (if_neg q), (b2 _).mpr (if_neg q), ⟨k + 1, by omega, by rw [Nat.add_assoc], rfl, fun t ht => ?_⟩, ?_⟩
        · rcases Nat.lt_or_ge t k with c2 | c2
          · exact hall t c2
          · have : t = k := by omega
            subst this
            rw [e0] at q
            exact iw_lt (by omega) q
        · show 400 - (nI (i + k + 1)).toNatClampNeg < 400 - (nI (i + k)).toNatClampNeg
          rw [nI_clamp (by omega), nI_clamp (by omega)]
          omega
    · have : k = n := by omega
      subst this
      refine Or.inr ⟨.inr (), .inr (), ?_, ?_, Or.inr ⟨rfl, rfl, hall⟩⟩
      · simp only [fX6_isAllWithin_3b, nI_add, if_pos (nI_le (Nat.le_refl (i + k)) (by omega))]
      · simp only [fX12_blown_85b, if_pos (nI_le (Nat.le_refl k) (by omega))]) FU (nI i) (0 : Int32) ⟨0, Nat.zero_le _, rfl, rfl, fun t ht => by omega⟩ (by have := FU_ge; omega)
  simp only [fX6_isAllWithin, fX6_isAllWithin_3, fX12_blown_85, hW.2.1.2.2.1]
  rw [E1, E2, bnd_s, bnd_s]
  rcases Q with ⟨rfl, rfl⟩ | ⟨rfl, rfl, hall⟩
  · exact ⟨_, _, _, rfl, rfl, h'⟩
  simp only [Sum.elim_inr, bnd_s, if_neg (show ¬ (1 : Int32) = 0 by decide)]
  obtain ⟨a0, there⟩ := put1 hS h0
  unfold fX11_blown_108 fX12_blown_132
  rw [gp_pos km_s.1, lt1_e, lt1_e]
  have hf := fnd 0
  generalize hm1 : uI m0 0 1 0 = m1 at hf
  have u1 : ∀ a, a ≠ 0 → m1.1 a = m0.1 a := fun a ha => by rw [← hm1, uI_o ha]
  have hM1 : RMok m1 := by rw [← hm1]; exact hM
  have u7 : m1.1 0 7 = m0.1 0 7 := by rw [← hm1]; rfl
  unfold fX12_blown_140
  obtain ⟨e1, e2, E1, E2, Q⟩ := iter_run2 (b1 := fun s => fX11_blown_108b 0 (nI i) (nI n) (45 + 2 * r) s.1 s.2) (b2 := fun s => fX12_blown_140b 0 (nI r) (nI i) (nI n) s.1 s.2) (fun s1 s2 => ∃ k, k ≤ n ∧ s1.1 = nI (i + k) ∧ s2.1 = nI k ∧ JJ mc m1 w s1.2 s2.2) (fun s1 => 400 - s1.1.toNatClampNeg) (fun e1 e2 => JJ mc m1 w e1 e2) (by
    rintro ⟨x1, n1⟩ ⟨x2, n2⟩ ⟨k, hk, q1, q2, J⟩
    simp only at q1 q2 J
    subst q1 q2
    rcases Nat.lt_or_ge k n with c | c
    · obtain ⟨j1, j2, j3, j4, j5, j6⟩ := id J
      obtain ⟨x, hx, ex⟩ := hall k c
      have hw2 : w = 15 ∨ w = 30 := by rcases hws with ⟨q, -⟩ | ⟨q, -⟩ <;> omega
      have it : n1.1 (46 + 2 * r) (i + k) = nI x := by rw [j3 _ (by omega), q5 _ (by omega), ← Nat.add_assoc]; exact ex
      have im : n2.1 3 (40 * r + i + k) = nI x := by rw [j4 3 (by decide), u1 3 (by decide)]; exact ex
      have hC1 : RCok n1 w s d := fun a ha x hx => by rw [j1]; exact hC a ha x hx
      have hM2 : RMok n2 := fun x hx => by rw [j2]; exact hM1 x hx
      obtain ⟨s1, s2, p1, p2, p3⟩ := JJ.step (vm := 0) hC hM1 hws.w (by rw [u1 4 (by decide)]; exact hS.2.1) J (by rw [u1 4 (by decide)]; exact hx) (by decide)
      have p1 : fX4_passHour (w + 5) (w + 1) (nI x) (0 : Int32) n1 = some s1 := p1
      have p2 : fX12_oneHour 0 (nI x) (0 : Int32) n2 = some s2 := p2
      refine Or.inl ⟨(nI (i + k + 1), s1), (nI (k + 1), s2), ?_, ?_, ⟨k + 1, by omega, by rw [Nat.add_assoc], rfl, p3⟩, ?_⟩
      · simp only [fX11_blown_108b, nI_add, if_neg (nI_ge (show i + k < i + n by omega) (by omega)), kc_s, rc_s hC1, rc_w hC1 hws.w, kc_w hws.w, k1, k2, k3, (rc_r hC1 r hr).2, eq_self, gp_tt, bnd_s, inb_nI (show i + k < 40 by omega) (by decide), nI_clamp (show i + k < 2 ^ 31 by omega), it, p1, lt1_e, nI_1]
      · simp only [fX12_blown_140b, if_neg (nI_ge c (by omega)), km_s, rm_s hM2, eq_self, gp_tt, bnd_s, a40, nI_add, inb_nI (show 40 * r + i + k < 320 by omega) (by decide), nI_clamp (show 40 * r + i + k < 2 ^ 31 by omega), im, p2, lt1_e, nI_1]
      · show 400 - (nI (i + k + 1)).toNatClampNeg < 400 - (nI (i + k)).toNatClampNeg
        rw [nI_clamp (by omega), nI_clamp (by omega)]
        omega
    · have : k = n := by omega
      subst this
      refine Or.inr ⟨n1, n2, ?_, ?_, J⟩
      · simp only [fX11_blown_108b, nI_add, if_pos (nI_le (Nat.le_refl (i + k)) (by omega))]
      · simp only [fX12_blown_140b, if_pos (nI_le (Nat.le_refl k) (by omega))]) FU (nI i, mc) ((0 : Int32), m1) ⟨0, Nat.zero_le _, rfl, rfl, ⟨rfl, rfl, fun _ _ => rfl, fun _ _ => rfl, by rw [u1 4 (by decide), u1 6 (by decide), u7]; exact hW, by rw [u1 4 (by decide), u1 6 (by decide)]; exact ⟨a0, hS.2.2.1, (hS.2.2.2.2.1 a0).2⟩⟩⟩ (by have := FU_ge; show 400 - (nI i).toNatClampNeg < FU; omega)
  rw [E1, E2, bnd_s, bnd_s]
  obtain ⟨j1, j2, j3, j4, j5, j6⟩ := id Q
  have hC1 : RCok e1 w s d := fun a ha x hx => by rw [j1]; exact hC a ha x hx
  have hM2 : RMok e2 := fun x hx => by rw [j2]; exact hM1 x hx
  simp only [fX11_blown_148, fX12_blown_171, kc_s, km_s, rc_s hC1, rc_w hC1 hws.w, kc_w hws.w, rm_s hM2, eq_self, gp_tt, bnd_s, clL, inL, j5.2.2.2.2.1.2.2.2.2.2.2.1, fine_e, bnd2_s]
  refine ⟨_, _, _, rfl, rfl, ?_⟩
  have hw2 : w = 15 ∨ w = 30 := by rcases hws with ⟨q, -⟩ | ⟨q, -⟩ <;> omega
  -- the standing finding is none, on both sides
  have hfS : Sok (m1.1 4) (m1.1 6) (m1.1 0 7) := by rw [u1 4 (by decide), u1 6 (by decide), u7]; exact hS
  have hf' := id hf
  have Q2 : JJ (uI mc 0 9 0) m1 w (uI e1 0 9 0) e2 := by
    refine ⟨by rw [uI_2, uI_2]; exact j1, j2, fun a ha => ?_, j4, ?_, j6⟩
    · by_cases c : a = 0
      · subst c
        funext x
        rw [uI_1, uI_1, j3 0 (by omega)]
      · rw [uI_o c, uI_o c]; exact j3 a ha
    · exact j5.c (fun a q _ => uI_o (by omega))
  have cR : RowsR (uI mc 0 9 0).1 m1.1 := hRows.c (fun a q _ => uI_o (by omega)) (u1 1 (by decide)) (u1 2 (by decide)) (u1 3 (by decide))
  have cT : TapeR (uI mc 0 9 0).1 m1.1 := hTape.c rfl rfl (by rw [← hm1]; rfl) (u1 7 (by decide))
  have cM : MiscR (uI mc 0 9 0).1 m1.1 := ⟨by rw [← hm1]; exact hMisc.1, by rw [← hm1]; rfl⟩
  have cI : ∀ k, k < 2 → ImgR (uI mc 0 9 0).1 m1.1 k := fun k hk => (hImg k hk).c (fun a q _ => uI_o (by omega)) (by rw [u1 13 (by decide)]) (u1 14 (by decide)) (u1 15 (by decide)) (fun q => by rw [u7]; exact q)
  have cTr : TraceR (uI mc 0 9 0).1 m1.1 := hTr.c rfl rfl (by rw [← hm1]; rfl) (u1 16 (by decide))
  exact JJ.rel (mc0 := uI mc 0 9 0) (mm0 := m1) (d := d) hM1 hC hws cR cT cM cI cTr hfS (by rw [u7]; exact there) Q2
