theorem power_c (A N : Nat) (hN : N ≤ 100) : fX11_power (lN A) (nI N) = some (lN (A ^ N)) := by
  unfold fX11_power fX11_power_5
  rw [lt1_e, lt1_e, show ((1 : Int64), (0 : Int32)) = (fun k => (lN (A ^ k), nI k)) 0 from rfl, iter_traj (fun k => (lN (A ^ k), nI k)) N (lN (A ^ N)) (by omega) ?_ ?_, bnd_s]
  · intro k hk
    simp only [fX11_power_5b, if_neg (nI_ge hk (by omega)), lt1_e, lN_mul, nI_1, Nat.pow_succ]
  · simp only [fX11_power_5b, if_pos (nI_le (Nat.le_refl N) (by omega))]
theorem allTo_m {m : Mem} (hM : RMok m) (hB : SeaB (m.1 4)) (N : Nat) (hN : N ≤ 100) : fX12_allTo 0 (nI N) m = some (lN (so (m.1 4) (sv (m.1 4) 0) ^ N)) := by
  have eA := allOdds_m hM hB
  have hA := so_le hB _ (Nat.le_refl _)
  have b0 : sv (m.1 4) 0 ≤ 4 := (sea_nI hB (j := 0) (by decide)).2
  generalize so (m.1 4) (sv (m.1 4) 0) = A at eA hA
  unfold fX12_allTo fX12_allTo_5
  rw [lt1_e, lt1_e, show ((1 : Int64), (0 : Int32)) = (fun k => (lN (A ^ k), nI k)) 0 from rfl, iter_traj (fun k => (lN (A ^ k), nI k)) N (lN (A ^ N)) (by omega) ?_ ?_, bnd_s]
  · intro k hk
    simp only [fX12_allTo_5b, if_neg (nI_ge hk (by omega)), km_s, eq_self, gp_tt, eA, bnd_s, nI_l (show A < 2 ^ 31 by omega), lt1_e, lN_mul, nI_1, Nat.pow_succ]
  · simp only [fX12_allTo_5b, if_pos (nI_le (Nat.le_refl N) (by omega))]
theorem ins_01 (a b W H : Int32) : ins a b W H = 0 ∨ ins a b W H = 1 := by
  unfold ins
  split
  · exact Or.inl rfl
  · split
    · exact Or.inl rfl
    · exact Or.inr rfl
theorem cell_both {mc m0 : Mem} {w s : Nat} {d : Bool} {now : Nat → Int32} {there : Int32} (hC : RCok mc w s d) (hM : RMok m0) (hb : WI w) (hB : SeaB (m0.1 4)) (hW : WR mc.1 w (m0.1 4) now there) (v : Int32) : (fX9_isCell (w + 1) v mc = some 0 ∧ fX12_isAny 0 v m0 = some 0) ∨ ∃ k, k < 128 ∧ v = nI k ∧ k % 16 < sv (m0.1 4) 6 ∧ k / 16 < sv (m0.1 4) 7 ∧ fX9_isCell (w + 1) v mc = some 1 ∧ fX12_isAny 0 v m0 = some 1 := by
  obtain ⟨e6, b6⟩ := sea_nI hB (j := 6) (by decide)
  obtain ⟨e7, b7⟩ := sea_nI hB (j := 7) (by decide)
  have b6 : sv (m0.1 4) 6 ≤ 16 := b6
  have b7 : sv (m0.1 4) 7 ≤ 8 := b7
  have n16 : ¬ (16 : Int32) = 0 := by decide
  by_cases h0 : v < 0
  · refine Or.inl ⟨?_, ?_⟩
    · simp only [fX9_isCell, isWithin_e, bnd_s, if_pos (iw_0.mpr (Or.inl h0))]
    · simp only [fX12_isAny, if_pos h0]
  obtain ⟨k, hk, rfl⟩ := nI_of h0
  have eC : fX9_isCell (w + 1) (nI k) mc = if iw (nI k) 0 127 = 0 then some 0 else if ins (nI k - nI k / 16 * 16) (nI k / 16) (m0.1 4 6) (m0.1 4 7) = 0 then some 0 else some 1 := by
    simp only [fX9_isCell, isWithin_e, bnd_s, gp_pos n16, kc_w hb, eq_self, gp_tt, inside_c hb, hW.2.1.1, hW.2.1.2.1]
  have eM : fX12_isAny 0 (nI k) m0 = if ins (nI k - nI k / 16 * 16) (nI k / 16) (m0.1 4 6) (m0.1 4 7) = 0 then some 0 else some 1 := by
    simp only [fX12_isAny, if_neg h0, gp_pos n16, km_s, eq_self, gp_tt, cell_m hM, bnd_s]
  rw [eC, eM, e6, e7]
  have d16 : nI k / 16 = nI (k / 16) := pk_div (d := 16) hk (by decide) (by decide)
  rcases Nat.lt_or_ge k 128 with c | c
  · rw [if_neg (show ¬ iw (nI k) 0 127 = 0 from iw_in (n := 128) c (by decide))]
    have r16 : nI k - nI k / 16 * 16 = nI (k % 16) := pk_rem (d := 16) hk (by decide) (by decide)
    rw [r16, d16]
    by_cases q : ins (nI (k % 16)) (nI (k / 16)) (nI (sv (m0.1 4) 6)) (nI (sv (m0.1 4) 7)) = 0
    · rw [if_pos q]; exact Or.inl ⟨rfl, rfl⟩
    · obtain ⟨x, y, hx, hy, ex, ey⟩ := ins_n b6 b7 q
      have e1 := nI_inj1 (by omega) (by omega) ex
      have e2 := nI_inj1 (by omega) (by omega) ey
      rw [if_neg q]
      exact Or.inr ⟨k, c, rfl, by omega, by omega, rfl, rfl⟩
  · have q : ins (nI k - nI k / 16 * 16) (nI k / 16) (nI (sv (m0.1 4) 6)) (nI (sv (m0.1 4) 7)) = 0 := by
      apply Classical.byContradiction
      intro q
      obtain ⟨x, y, hx, hy, ex, ey⟩ := ins_n b6 b7 q
      rw [d16] at ey
      have e2 := nI_inj1 (by omega) (by omega) ey
      omega
    have i0 : iw (nI k) 0 127 = 0 := iw_0.mpr (Or.inr (show (127 : Int32) < nI k from nI_lt (a := 127) (by omega) hk))
    rw [if_pos i0, if_pos q]
    exact Or.inl ⟨rfl, rfl⟩
theorem open_both {mc m0 : Mem} {w s : Nat} {d : Bool} {now : Nat → Int32} {there : Int32} (hC : RCok mc w s d) (hM : RMok m0) (hb : WI w) (hB : SeaB (m0.1 4)) (hW : WR mc.1 w (m0.1 4) now there) (v : Int32) : (fX9_isOpen (w + 1) v mc = some 0 ∧ fX12_isOpen 0 v m0 = some 0) ∨ ∃ k, k < 128 ∧ v = nI k ∧ k % 16 < sv (m0.1 4) 6 ∧ k / 16 < sv (m0.1 4) 7 ∧ fX9_isOpen (w + 1) v mc = some 1 ∧ fX12_isOpen 0 v m0 = some 1 := by
  rcases cell_both hC hM hb hB hW v with ⟨h1, h2⟩ | ⟨k, hk, rfl, hx, hy, h1, h2⟩
  · refine Or.inl ⟨?_, ?_⟩
    · simp only [fX9_isOpen, kc_w hb, eq_self, gp_tt, h1, bnd_s, if_true]
    · simp only [fX12_isOpen, km_s, eq_self, gp_tt, h2, bnd_s, if_true]
  · have kk : k = 16 * (k / 16) + k % 16 := by omega
    have lc := land_c hC hb hW hB hx hy
    rw [← kk] at lc
    have lm := land_m hM hk
    have hl : ld (m0.1 4) k = 0 ∨ ld (m0.1 4) k = 1 := by unfold ld; split <;> simp
    have n1 : ¬ (1 : Int32) = 0 := by decide
    rcases hl with q | q
    · refine Or.inr ⟨k, hk, rfl, hx, hy, ?_, ?_⟩
      · simp only [fX9_isOpen, kc_w hb, eq_self, gp_tt, h1, bnd_s, if_neg n1, lc, q, if_true]
      · simp only [fX12_isOpen, km_s, eq_self, gp_tt, h2, bnd_s, if_neg n1, lm, q, if_true]
    · refine Or.inl ⟨?_, ?_⟩
      · simp only [fX9_isOpen, kc_w hb, eq_self, gp_tt, h1, bnd_s, if_neg n1, lc, q]
      · simp only [fX12_isOpen, km_s, eq_self, gp_tt, h2, bnd_s, if_neg n1, lm, q]
theorem there_1 {sea now : Nat → Int32} {there : Int32} (hS : Sok sea now there) (h : 0 < sv sea 6) : there = 1 := by
  rcases hS.1 with q | q
  · have := hS.2.2.2.2.2.2 q 6 (by decide)
    unfold sv at h
    rw [this] at h
    exact absurd h (by decide)
  · exact q
/-- the drift's rows alone have changed -/
theorem rel_drift {mc m0 mc2 mm2 : Mem} {w s : Nat} {d d2 : Bool} (hws : WS w s) (hRows : RowsR mc.1 m0.1) (hTape : TapeR mc.1 m0.1) (hMisc : MiscR mc.1 m0.1) (hW : WR mc.1 w (m0.1 4) (m0.1 6) (m0.1 0 7)) (hS : Sok (m0.1 4) (m0.1 6) (m0.1 0 7)) (hImg : ∀ k, k < 2 → ImgR mc.1 m0.1 k) (hTr : TraceR mc.1 m0.1) (hC2 : RCok mc2 w s d2) (hf : ∀ a, a ≠ 9 → a ≠ 11 → mc2.1 a = mc.1 a) (hM2 : RMok mm2) (e : mm2.1 = m0.1) : Rel mc2 mm2 := by
  have hw : w = 15 ∨ w = 30 := by rcases hws with ⟨q, -⟩ | ⟨q, -⟩ <;> omega
  refine ⟨hM2, w, s, d2, hC2, hws, ?_, ?_, ?_, ?_, ?_, fun k hk => ?_, ?_⟩
  · rw [e]; exact hRows.c (fun a q _ => hf a (by omega) (by omega)) rfl rfl rfl
  · rw [e]; exact hTape.c (by rw [hf 2 (by decide) (by decide)]) (hf 3 (by decide) (by decide)) rfl rfl
  · rw [e]; exact hMisc.c (by rw [hf 0 (by decide) (by decide)]) (by rw [hf 0 (by decide) (by decide)]) rfl rfl
  · rw [e]; exact hW.c (fun a q _ => hf a (by omega) (by omega))
  · rw [e]; exact hS
  · rw [e]; exact (hImg k hk).c (fun a q _ => hf a (by omega) (by omega)) rfl rfl rfl (fun q => q)
  · rw [e]; exact hTr.c (by rw [hf 13 (by decide) (by decide)]) (hf 14 (by decide) (by decide)) rfl rfl
theorem pow_b {n k : Nat} (hn : n ≤ 4) (hk : k ≤ 9) : n ^ k < 2 ^ 31 := by
  have h1 : n ^ k ≤ 4 ^ k := Nat.pow_le_pow_left hn k
  have h2 : 4 ^ k ≤ 4 ^ 9 := Nat.pow_le_pow_right (by decide) hk
  have h3 : (4 : Nat) ^ 9 < 2 ^ 31 := by decide
  omega
theorem go_c {m : Mem} {w s c h N : Nat} {d : Bool} {sea now : Nat → Int32} {there : Int32} (hC : RCok m w s d) (hws : WS w s) (hW : WR m.1 w sea now there) (hB : SeaB sea) (hl : ∀ x y, x < 16 → y < 8 → sea (78 + 16 * y + x) = 1 → x < sv sea 6 ∧ y < sv sea 7) (hc : c < 128) (hh : h < 8) (hN : N ≤ 8) : ∃ m2 d2, fX3_go 7 (w + 1) (nI c) (nI h) (nI N) m = some m2 ∧ DC m m2 w s d2 (hrs (tg sea h) (od sea) (sv sea 0) c N).1 (hrs (tg sea h) (od sea) (sv sea 0) c N).2 := by
  have b0 : sv sea 0 ≤ 4 := (sea_nI hB (j := 0) (by decide)).2
  obtain ⟨m1, E1, Q1⟩ := begin_d hC hc
  unfold fX3_go fX3_go_8
  rw [gp_pos kc_s.2.2.2.2.2.2.2.1, E1, bnd_s, lt1_e]
  obtain ⟨e, E, Q⟩ := iter_run (b := fun s => fX3_go_8b 7 (w + 1) (nI h) (nI N) s.1 s.2) (fun q => ∃ k d', k ≤ N ∧ q.1 = nI k ∧ DC m q.2 w s d' (hrs (tg sea h) (od sea) (sv sea 0) c k).1 (hrs (tg sea h) (od sea) (sv sea 0) c k).2) (fun q => 10 - q.1.toNatClampNeg) (fun e => ∃ d', DC m e w s d' (hrs (tg sea h) (od sea) (sv sea 0) c N).1 (hrs (tg sea h) (od sea) (sv sea 0) c N).2) (by
    rintro ⟨v, n1⟩ ⟨k, d', hk, q1, q2⟩
    simp only at q1 q2
    subst q1
    rcases Nat.lt_or_ge k N with c1 | c1
    · obtain ⟨m2, e1, e2⟩ := passHour_c hws hW hB hl q2 (fun x hx => Nat.lt_of_le_of_lt (hrs_b (fun c j hc _ => tg_lt hB h hc j) k hx).2 (pow_b b0 (by omega))) hh
      refine Or.inl ⟨(nI (k + 1), m2), ?_, ⟨k + 1, !d', by omega, rfl, e2⟩, ?_⟩
      · simp only [fX3_go_8b, if_neg (nI_ge c1 (by omega)), kc_s, eq_self, gp_tt, e1, bnd_s, lt1_e, nI_1]
      · show 10 - (nI (k + 1)).toNatClampNeg < 10 - (nI k).toNatClampNeg
        rw [nI_clamp (by omega), nI_clamp (by omega)]
        omega
    · have : k = N := by omega
      subst this
      refine Or.inr ⟨n1, ?_, d', q2⟩
      simp only [fX3_go_8b, if_pos (nI_le (Nat.le_refl k) (by omega))]) FU ((0 : Int32), m1) ⟨0, d, Nat.zero_le _, rfl, Q1⟩ (by have := FU_ge; show 10 - (0 : Int32).toNatClampNeg < FU; omega)
  rw [E, bnd_s]
  obtain ⟨d', Q⟩ := Q
  exact ⟨e, d', rfl, Q⟩
theorem goHours_m {m : Mem} {c h N : Nat} (hM : RMok m) (hB : SeaB (m.1 4)) (hc : c < 128) (hh : h < 8) (hN : N ≤ 8) : ∃ m2, fX12_goHours 0 (nI c) (nI h) (nI N) m = some m2 ∧ MC m m2 (hrs (tg (m.1 4) h) (od (m.1 4)) (sv (m.1 4) 0) c N).1 (hrs (tg (m.1 4) h) (od (m.1 4)) (sv (m.1 4) 0) c N).2 := by
  have b0 : sv (m.1 4) 0 ≤ 4 := (sea_nI hB (j := 0) (by decide)).2
  obtain ⟨m1, E1, Q1⟩ := layOne_m hM hc
  unfold fX12_goHours fX12_goHours_8
  rw [gp_pos km_s.1, E1, bnd_s, lt1_e]
  obtain ⟨e, E, Q⟩ := iter_run (b := fun s => fX12_goHours_8b 0 (nI h) (nI N) s.1 s.2) (fun q => ∃ k, k ≤ N ∧ q.1 = nI k ∧ MC m q.2 (hrs (tg (m.1 4) h) (od (m.1 4)) (sv (m.1 4) 0) c k).1 (hrs (tg (m.1 4) h) (od (m.1 4)) (sv (m.1 4) 0) c k).2) (fun q => 10 - q.1.toNatClampNeg) (fun e => MC m e (hrs (tg (m.1 4) h) (od (m.1 4)) (sv (m.1 4) 0) c N).1 (hrs (tg (m.1 4) h) (od (m.1 4)) (sv (m.1 4) 0) c N).2) (by
    rintro ⟨v, n1⟩ ⟨k, hk, q1, q2⟩
    simp only at q1 q2
    subst q1
    rcases Nat.lt_or_ge k N with c1 | c1
    · obtain ⟨m2, e1, e2⟩ := goHour_m hB q2 (fun x hx => Nat.lt_of_le_of_lt (hrs_b (fun c j hc _ => tg_lt hB h hc j) k hx).2 (pow_b b0 (by omega))) hh
      refine Or.inl ⟨(nI (k + 1), m2), ?_, ⟨k + 1, by omega, rfl, e2⟩, ?_⟩
      · simp only [fX12_goHours_8b, if_neg (nI_ge c1 (by omega)), km_s, eq_self, gp_tt, e1, bnd_s, lt1_e, nI_1]
      · show 10 - (nI (k + 1)).toNatClampNeg < 10 - (nI k).toNatClampNeg
        rw [nI_clamp (by omega), nI_clamp (by omega)]
        omega
    · have : k = N := by omega
      subst this
      refine Or.inr ⟨n1, ?_, q2⟩
      simp only [fX12_goHours_8b, if_pos (nI_le (Nat.le_refl k) (by omega))]) FU ((0 : Int32), m1) ⟨0, Nat.zero_le _, rfl, Q1⟩ (by have := FU_ge; show 10 - (0 : Int32).toNatClampNeg < FU; omega)
  rw [E, bnd_s]
  exact ⟨e, rfl, Q⟩
theorem A36 {sea : Nat → Int32} (hB : SeaB sea) : so sea (sv sea 0) ≤ 36 := by
  have b0 : sv sea 0 ≤ 4 := (sea_nI hB (j := 0) (by decide)).2
  have := so_le hB _ (Nat.le_refl _)
  omega
theorem A8 {A k : Nat} (hA : A ≤ 36) (hk : k ≤ 8) : A ^ k ≤ 36 ^ 8 := by
  have h1 : A ^ k ≤ 36 ^ k := Nat.pow_le_pow_left hA k
  have h2 : 36 ^ k ≤ 36 ^ 8 := Nat.pow_le_pow_right (by decide) hk
  omega
theorem op12 : Op12 Rel := by
  intro mc mm h v1 v2 v3 v4 v5
  have h' := h.thrown
  unfold fX12_herself
  rw [gp_pos km_s.1, lt1_e]
  generalize uI mm 0 0 0 = m0 at h' ⊢
  clear h
  obtain ⟨hM, w, s, d, hC, hws, hRows, hTape, hMisc, hW, hS, hImg, hTr⟩ := id h'
  have hB := hS.2.1
  simp only [fX11_herself, isWithin_e, isHead_e, in_0_8, in_0_2, bnd_s, kc_s, km_s, rc_s hC, rc_w hC hws.w, kc_w hws.w, rm_s hM, eq_self, gp_tt]
  rcases open_both hC hM hws.w hB hW v1 with ⟨o1, o2⟩ | ⟨c, hc, rfl, hx, hy, o1, o2⟩
  · simp only [o1, o2, bnd_s, if_true]
    exact ⟨_, _, _, rfl, rfl, h'⟩
  have n1 : ¬ (1 : Int32) = 0 := by decide
  simp only [o1, o2, bnd_s, if_neg n1]
  rcases cell_both hC hM hws.w hB hW v2 with ⟨o3, o4⟩ | ⟨t, ht, rfl, hx2, hy2, o3, o4⟩
  · simp only [o3, o4, bnd_s, if_true]
    exact ⟨_, _, _, rfl, rfl, h'⟩
  simp only [o3, o4, bnd_s, if_neg n1]
  by_cases h1 : iw v3 0 7 = 0
  · exact ⟨_, _, _, if_pos h1, if_pos h1, h'⟩
  simp only [if_neg h1]
  by_cases h2 : iw v4 0 8 = 0
  · exact ⟨_, _, _, if_pos h2, if_pos h2, h'⟩
  simp only [if_neg h2]
  by_cases h3 : iw v5 0 2 = 0
  · exact ⟨_, _, _, if_pos h3, if_pos h3, h'⟩
  simp only [if_neg h3]
  obtain ⟨hd, hhd, rfl⟩ := iw_nI h1 (n := 7) rfl
  obtain ⟨N, hN, rfl⟩ := iw_nI h2 (n := 8) rfl
  have there := there_1 hS (show 0 < sv (m0.1 4) 6 by omega)
  obtain ⟨t6, t7, t0, t11, tO, -, -, -, tl⟩ := hS.2.2.2.2.2.1 there
  obtain ⟨m1, d1, E1, Q1⟩ := go_c hC hws hW hB tl hc (show hd < 8 by omega) hN
  obtain ⟨m2, E2, Q2⟩ := goHours_m hM hB hc (show hd < 8 by omega) hN
  rw [E1, E2, bnd_s, bnd_s]
  obtain ⟨hC1, hf1, -, hx1⟩ := Q1
  obtain ⟨hM2, e2, -, hx2'⟩ := Q2
  have rel := rel_drift (d := d) hws hRows hTape hMisc hW hS hImg hTr hC1 hf1 hM2 e2
  have hw : w = 15 ∨ w = 30 := by rcases hws with ⟨q, -⟩ | ⟨q, -⟩ <;> omega
  obtain ⟨g1, g2⟩ := hx1 t ht
  obtain ⟨g3, g4⟩ := hx2' t ht
  obtain ⟨bd1, bd2⟩ := hrs_b (T := tg (m0.1 4) hd) (O := od (m0.1 4)) (n := sv (m0.1 4) 0) (c0 := c) (fun c j hc _ => tg_lt hB hd hc j) N ht
  have b0 : sv (m0.1 4) 0 ≤ 4 := (sea_nI hB (j := 0) (by decide)).2
  obtain ⟨x1, x2, x3, x4, x5, x6, x7, x8⟩ := wr_d d1
  obtain ⟨r0, r1, -⟩ := rc_d hC1
  by_cases h4 : v5 = 2
  · rw [if_pos h4, if_pos h4]
    simp only [kc_s, km_s, rc_s hC1, r1, rm_s hM2, x3, x4, eq_self, gp_tt, bnd_s, inb_nI ht (by decide), nI_clamp (show t < 2 ^ 31 by omega), g2, g4]
    refine ⟨_, _, _, rfl, ?_, rel⟩
    rw [nI_l (Nat.lt_of_le_of_lt bd2 (pow_b b0 (by omega)))]
  · rw [if_neg h4, if_neg h4]
    have a36 := A36 hB
    have Ap : 1 ≤ so (m0.1 4) (sv (m0.1 4) 0) := Nat.le_trans t0 (so_ge tO _ (Nat.le_refl _))
    have ea := allTo_m (m := m2) hM2 (by rw [e2]; exact hB) N (by omega)
    rw [e2] at ea
    have cA : m1.1 (w + 1) 6 = nI (so (m0.1 4) (sv (m0.1 4) 0)) := by rw [hf1 (w + 1) (by omega) (by omega)]; exact hW.2.1.2.2.2
    rw [← so_od] at bd1
    generalize so (m0.1 4) (sv (m0.1 4) 0) = A at a36 Ap ea cA bd1
    have ec := power_c A N (by omega)
    have l36 : A ^ N ≤ 36 ^ 8 := A8 a36 hN
    have l46 : (36 : Nat) ^ 8 < 2 ^ 46 := by decide
    obtain ⟨r, f1, f2⟩ := frac_eq (a := (hrs (tg (m0.1 4) hd) (od (m0.1 4)) (sv (m0.1 4) 0) c N).1 t) (b := A ^ N) v5 (by omega) (by omega) (Nat.pow_pos (by omega))
    simp only [kc_s, km_s, rc_s hC1, rc_w hC1 hws.w, kc_w hws.w, r0, rm_s hM2, x1, x2, eq_self, gp_tt, bnd_s, inb_nI ht (by decide), nI_clamp (show t < 2 ^ 31 by omega), g1, g3, cA, nI_l (show A < 2 ^ 31 by omega), ec, ea, f1, f2]
    exact ⟨_, _, _, rfl, rfl, rel⟩
/-- the first of the likeliest cells -/
def bs (F : Nat → Nat) : Nat → Nat
  | 0 => 0
  | k + 1 => if F (k + 1) ≤ F (bs F k) then bs F k else k + 1
theorem bs_s (F : Nat → Nat) (k : Nat) : bs F (k + 1) = if F (k + 1) ≤ F (bs F k) then bs F k else k + 1 := rfl
theorem bs_le (F : Nat → Nat) : ∀ k, bs F k ≤ k := by
  intro k
  induction k with
  | zero => exact Nat.le_refl _
  | succ k ih =>
    rw [bs_s]
    split
    · omega
    · exact Nat.le_refl _
theorem op16 : Op16 Rel := by
  intro mc mm h v1 v2 v3
  have h' := h.thrown
  unfold fX12_boat
  rw [gp_pos km_s.1, lt1_e]
  generalize uI mm 0 0 0 = m0 at h' ⊢
  clear h
  obtain ⟨hM, w, s, d, hC, hws, hRows, hTape, hMisc, hW, hS, hImg, hTr⟩ := id h'
  have hB := hS.2.1
  simp only [fX11_boat, isWithin_e, isHead_e, in_0_8, bnd_s, kc_s, km_s, rc_s hC, rc_w hC hws.w, kc_w hws.w, rm_s hM, eq_self, gp_tt]
  rcases open_both hC hM hws.w hB hW v1 with ⟨o1, o2⟩ | ⟨c, hc, rfl, hx, hy, o1, o2⟩
  · simp only [o1, o2, bnd_s, if_true]
    exact ⟨_, _, _, rfl, rfl, h'⟩
  have n1 : ¬ (1 : Int32) = 0 := by decide
  simp only [o1, o2, bnd_s, if_neg n1]
  by_cases h1 : iw v2 0 7 = 0
  · exact ⟨_, _, _, if_pos h1, if_pos h1, h'⟩
  simp only [if_neg h1]
  by_cases h2 : iw v3 0 8 = 0
  · exact ⟨_, _, _, if_pos h2, if_pos h2, h'⟩
  simp only [if_neg h2]
  obtain ⟨hd, hhd, rfl⟩ := iw_nI h1 (n := 7) rfl
  obtain ⟨N, hN, rfl⟩ := iw_nI h2 (n := 8) rfl
  have there := there_1 hS (show 0 < sv (m0.1 4) 6 by omega)
  obtain ⟨t6, t7, t0, t11, tO, -, -, -, tl⟩ := hS.2.2.2.2.2.1 there
  obtain ⟨m1, d1, E1, Q1⟩ := go_c hC hws hW hB tl hc (show hd < 8 by omega) hN
  obtain ⟨m2, E2, Q2⟩ := goHours_m hM hB hc (show hd < 8 by omega) hN
  rw [E1, E2, bnd_s, bnd_s]
  obtain ⟨hC1, hf1, -, hx1⟩ := Q1
  obtain ⟨hM2, e2, -, hx2'⟩ := Q2
  have rel := rel_drift (d := d) hws hRows hTape hMisc hW hS hImg hTr hC1 hf1 hM2 e2
  obtain ⟨x1, x2, x3, x4, x5, x6, x7, x8⟩ := wr_d d1
  obtain ⟨r0, r1, -⟩ := rc_d hC1
  have a36 := A36 hB
  rw [so_od] at a36
  have bd : ∀ x, x < 128 → (hrs (tg (m0.1 4) hd) (od (m0.1 4)) (sv (m0.1 4) 0) c N).1 x < 2 ^ 63 := fun x hx => by
    have q1 := (hrs_b (T := tg (m0.1 4) hd) (O := od (m0.1 4)) (n := sv (m0.1 4) 0) (c0 := c) (fun c j hc _ => tg_lt hB hd hc j) N hx).1
    have q2 := A8 a36 hN
    have q3 : (36 : Nat) ^ 8 < 2 ^ 63 := by decide
    omega
  have F1 : ∀ x, x < 128 → m1.2.1 (wa d1) x = lN ((hrs (tg (m0.1 4) hd) (od (m0.1 4)) (sv (m0.1 4) 0) c N).1 x) := fun x hx => (hx1 x hx).1
  have F2 : ∀ x, x < 128 → m2.2.1 8 x = lN ((hrs (tg (m0.1 4) hd) (od (m0.1 4)) (sv (m0.1 4) 0) c N).1 x) := fun x hx => (hx2' x hx).1
  generalize (hrs (tg (m0.1 4) hd) (od (m0.1 4)) (sv (m0.1 4) 0) c N).1 = F at bd F1 F2
  have t1 : fX3_likeliestCell 7 m1 = some (nI (bs F 127)) := by
    unfold fX3_likeliestCell fX3_likeliestCell_4
    rw [lt1_e, lt1_e, show ((0 : Int32), (1 : Int32)) = (fun k => (nI (bs F k), nI (k + 1))) 0 from rfl, iter_traj (fun k => (nI (bs F k), nI (k + 1))) 127 (nI (bs F 127)) (by omega) ?_ ?_, bnd_s]
    · intro k hk
      have bk := bs_le F k
      simp only [fX3_likeliestCell_4b, fX3_likeliestCell_29, if_neg (show ¬ (128 : Int32) ≤ nI (k + 1) from nI_ge (b := 128) (by omega) (by decide)), kc_s, r0, x1, x2, eq_self, gp_tt, bnd_s, lt1_e, inb_nI (show k + 1 < 128 by omega) (by decide), inb_nI (show bs F k < 128 by omega) (by decide), nI_clamp (show k + 1 < 2 ^ 31 by omega), nI_clamp (show bs F k < 2 ^ 31 by omega), F1 (k + 1) (by omega), F1 (bs F k) (by omega), nI_1, bs_s]
      by_cases q : F (k + 1) ≤ F (bs F k)
      · rw [if_pos ((pk_lLE (bd _ (by omega)) (bd _ (by omega))).mpr q), if_pos q]
      · rw [if_neg (fun z => q ((pk_lLE (bd _ (by omega)) (bd _ (by omega))).mp z)), if_neg q]
    · simp only [fX3_likeliestCell_4b, if_pos (show (128 : Int32) ≤ nI (127 + 1) by decide)]
  have t2 : fX12_boat_49 0 0 1 m2 = some ((nI (bs F 127)).toInt64, m2) := by
    unfold fX12_boat_49
    rw [show ((0 : Int32), (1 : Int32)) = (fun k => (nI (bs F k), nI (k + 1))) 0 from rfl, iter_traj (fun k => (nI (bs F k), nI (k + 1))) 127 (nI (bs F 127)) (by omega) ?_ ?_, bnd_s]
    · intro k hk
      have bk := bs_le F k
      simp only [fX12_boat_49b, fX12_boat_82, if_neg (show ¬ (128 : Int32) ≤ nI (k + 1) from nI_ge (b := 128) (by omega) (by decide)), km_s, rm_s hM2, eq_self, gp_tt, bnd_s, lt1_e, inb_nI (show k + 1 < 128 by omega) (by decide), inb_nI (show bs F k < 128 by omega) (by decide), nI_clamp (show k + 1 < 2 ^ 31 by omega), nI_clamp (show bs F k < 2 ^ 31 by omega), F2 (k + 1) (by omega), F2 (bs F k) (by omega), nI_1, bs_s]
      by_cases q : F (k + 1) ≤ F (bs F k)
      · rw [if_pos ((pk_lLE (bd _ (by omega)) (bd _ (by omega))).mpr q), if_pos q]
      · rw [if_neg (fun z => q ((pk_lLE (bd _ (by omega)) (bd _ (by omega))).mp z)), if_neg q]
    · simp only [fX12_boat_49b, if_pos (show (128 : Int32) ≤ nI (127 + 1) by decide)]
  simp only [rc_s hC1, kc_s, eq_self, gp_tt, bnd_s, t1, lt1_e, t2]
  exact ⟨_, _, _, rfl, rfl, rel⟩
/-- what brings her there in k hours, all over one divisor -/
def xk (sea : Nat → Int32) (h c t k : Nat) : Nat := (hrs (tg sea h) (od sea) (sv sea 0) c k).1 t * so sea (sv sea 0) ^ (8 - k)
theorem xk_le {sea : Nat → Int32} (hB : SeaB sea) (h c : Nat) {t k : Nat} (ht : t < 128) (hk : k ≤ 8) : xk sea h c t k ≤ 36 ^ 8 := by
  have q1 := (hrs_b (T := tg sea h) (O := od sea) (n := sv sea 0) (c0 := c) (fun c j hc _ => tg_lt hB h hc j) k ht).1
  rw [← so_od] at q1
  unfold xk
  refine Nat.le_trans (Nat.mul_le_mul_right _ q1) ?_
  rw [← Nat.pow_add, show k + (8 - k) = 8 by omega]
  exact A8 (A36 hB) (Nat.le_refl _)
theorem time_c {m : Mem} {w s c t h : Nat} {d : Bool} {sea now : Nat → Int32} {there : Int32} (hC : RCok m w s d) (hws : WS w s) (hW : WR m.1 w sea now there) (hB : SeaB sea) (hl : ∀ x y, x < 16 → y < 8 → sea (78 + 16 * y + x) = 1 → x < sv sea 6 ∧ y < sv sea 7) (hc : c < 128) (ht : t < 128) (hh : h < 8) : ∃ m2 d2, fX3_timeArrivals 7 (w + 1) (nI c) (nI t) (nI h) m = some m2 ∧ RCok m2 w s d2 ∧ (∀ a, a ≠ 9 → a ≠ 11 → m2.1 a = m.1 a) ∧ ∀ k, k < 9 → m2.2.1 12 k = lN (xk sea h c t k) := by
  have b0 : sv sea 0 ≤ 4 := (sea_nI hB (j := 0) (by decide)).2
  have hw : w = 15 ∨ w = 30 := by rcases hws with ⟨q, -⟩ | ⟨q, -⟩ <;> omega
  have a36 := A36 hB
  obtain ⟨m1, E1, Q1⟩ := begin_d hC hc
  unfold fX3_timeArrivals fX3_timeArrivals_8
  rw [gp_pos kc_s.2.2.2.2.2.2.2.1, E1, bnd_s, lt1_e]
  -- the last step of an hour
  have fin : ∀ (n1 : Mem) (k : Nat) (d' : Bool), k < 9 → RCok n1 w s d' → (∀ a, a ≠ 9 → a ≠ 11 → n1.1 a = m.1 a) → (∀ x, x < 128 → n1.2.1 (wa d') x = lN ((hrs (tg sea h) (od sea) (sv sea 0) c k).1 x)) → fX3_timeArrivals_27 7 (w + 1) (nI t) (nI h) (nI k) n1 = some (.inl (nI (k + 1), uJ n1 12 k (lN (xk sea h c t k)))) := by
    intro n1 k d' hk hC' hf' hx'
    obtain ⟨x1, x2, x3, x4, x5, x6, x7, x8⟩ := wr_d d'
    obtain ⟨r0, r1, r2, r3, r4⟩ := rc_d hC'
    have cA : n1.1 (w + 1) 6 = nI (so sea (sv sea 0)) := by rw [hf' (w + 1) (by omega) (by omega)]; exact hW.2.1.2.2.2
    have e8 : (8 : Int32) - nI k = nI (8 - k) := pk_sub (a := 8) (by omega)
    simp only [fX3_timeArrivals_27, kc_s, kc_w hws.w, r0, r4, x1, x2, eq_self, gp_tt, bnd_s, inb_nI ht (by decide), nI_clamp (show t < 2 ^ 31 by omega), cA, nI_l (show so sea (sv sea 0) < 2 ^ 31 by omega), e8, power_c _ (8 - k) (show 8 - k ≤ 100 by omega), inb_nI hk (by decide), nI_clamp (show k < 2 ^ 31 by omega), lt1_e, hx' t ht, lN_mul, nI_1]
    rfl
  obtain ⟨e, E, Q⟩ := iter_run (b := fun s => fX3_timeArrivals_8b 7 (w + 1) (nI t) (nI h) s.1 s.2) (fun q => ∃ k d', k ≤ 9 ∧ q.1 = nI k ∧ RCok q.2 w s d' ∧ (∀ a, a ≠ 9 → a ≠ 11 → q.2.1 a = m.1 a) ∧ (∀ x, x < 128 → q.2.2.1 (wa d') x = lN ((hrs (tg sea h) (od sea) (sv sea 0) c (k - 1)).1 x) ∧ q.2.1 (ra d') x = nI ((hrs (tg sea h) (od sea) (sv sea 0) c (k - 1)).2 x)) ∧ ∀ i, i < k → q.2.2.1 12 i = lN (xk sea h c t i)) (fun q => 10 - q.1.toNatClampNeg) (fun e => ∃ d', RCok e w s d' ∧ (∀ a, a ≠ 9 → a ≠ 11 → e.1 a = m.1 a) ∧ ∀ k, k < 9 → e.2.1 12 k = lN (xk sea h c t k)) (by
    rintro ⟨v, n1⟩ ⟨k, d', hk, q1, hC', hf', hx', ha'⟩
    simp only at q1 hC' hf' hx' ha'
    subst q1
    have mu : k < 9 → 10 - (nI (k + 1)).toNatClampNeg < 10 - (nI k).toNatClampNeg := fun _ => by
      rw [nI_clamp (by omega), nI_clamp (by omega)]
      omega
    rcases Nat.lt_or_ge k 9 with c1 | c1
    · have ng : ¬ (8 : Int32) < nI k := nI_nlt (b := k) (a := 8) (by omega) (by decide)
      rcases Nat.eq_zero_or_pos k with k0 | k0
      · subst k0
        refine Or.inl ⟨(nI (0 + 1), uJ n1 12 0 (lN (xk sea h c t 0))), ?_, ⟨1, d', by omega, rfl, hC', hf', fun x hx => ?_, fun i hi => ?_⟩, mu c1⟩
        · simp only [fX3_timeArrivals_8b, if_neg ng, if_pos (show nI 0 ≤ 0 by decide)]
          exact fin n1 0 d' (by decide) hC' hf' (fun x hx => (hx' x hx).1)
        · obtain ⟨y1, y2⟩ := hx' x hx
          refine ⟨?_, y2⟩
          show (uJ n1 12 0 _).2.1 (wa d') x = _
          rw [uJ_o (wr_d d').2.2.2.2.2.2.1]; exact y1
        · have : i = 0 := by omega
          subst this
          show (uJ n1 12 0 _).2.1 12 0 = _
          rw [uJ_2, if_pos ⟨rfl, rfl⟩]
      · have hW' : WR n1.1 w sea now there := hW.c (fun a q _ => hf' a (by omega) (by omega))
        obtain ⟨m2, e1, e2⟩ := passHour_c (m0 := n1) hws hW' hB hl ⟨hC', fun _ _ _ => rfl, rfl, hx'⟩ (fun x hx => Nat.lt_of_le_of_lt (hrs_b (fun c j hc _ => tg_lt hB h hc j) (k - 1) hx).2 (pow_b b0 (by omega))) hh
        rw [← hrs_s, show k - 1 + 1 = k by omega] at e2
        obtain ⟨hC2, hf2, h12, hx2⟩ := e2
        have hf3 : ∀ a, a ≠ 9 → a ≠ 11 → m2.1 a = m.1 a := fun a h9 h11 => (hf2 a h9 h11).trans (hf' a h9 h11)
        refine Or.inl ⟨(nI (k + 1), uJ m2 12 k (lN (xk sea h c t k))), ?_, ⟨k + 1, !d', by omega, rfl, hC2, hf3, fun x hx => ?_, fun i hi => ?_⟩, mu c1⟩
        · simp only [fX3_timeArrivals_8b, if_neg ng, if_neg (nI_nle k0 (show k < 2 ^ 31 by omega)), kc_s, eq_self, gp_tt, e1, bnd_s]
          exact fin m2 k (!d') c1 hC2 hf3 (fun x hx => (hx2 x hx).1)
        · obtain ⟨y1, y2⟩ := hx2 x hx
          rw [Nat.add_sub_cancel]
          refine ⟨?_, y2⟩
          show (uJ m2 12 k _).2.1 (wa (!d')) x = _
          rw [uJ_o (wr_d (!d')).2.2.2.2.2.2.1]; exact y1
        · show (uJ m2 12 k _).2.1 12 i = _
          rw [uJ_2]
          by_cases q : i = k
          · rw [if_pos ⟨rfl, q⟩, q]
          · rw [if_neg (fun z => q z.2), h12]; exact ha' i (by omega)
    · have : k = 9 := by omega
      subst this
      refine Or.inr ⟨n1, ?_, d', hC', hf', ha'⟩
      simp only [fX3_timeArrivals_8b, if_pos (show (8 : Int32) < nI 9 by decide)]) FU ((0 : Int32), m1) ⟨0, d, by decide, rfl, Q1.1, Q1.2.1, Q1.2.2.2, fun i hi => by omega⟩ (by have := FU_ge; show 10 - (0 : Int32).toNatClampNeg < FU; omega)
  rw [E, bnd_s]
  obtain ⟨d', Q⟩ := Q
  exact ⟨e, d', rfl, Q⟩
theorem op13 : Op13 Rel := by
  intro mc mm h v1 v2
  have h' := h.thrown
  unfold fX12_could
  rw [gp_pos km_s.1, lt1_e]
  generalize uI mm 0 0 0 = m0 at h' ⊢
  clear h
  obtain ⟨hM, w, s, d, hC, hws, hRows, hTape, hMisc, hW, hS, hImg, hTr⟩ := id h'
  have hB := hS.2.1
  simp only [fX11_could, bnd_s, lt1_e, kc_s, km_s, rc_s hC, rc_w hC hws.w, kc_w hws.w, rm_s hM, eq_self, gp_tt, hW.2.2.2.2.1.1]
  rcases open_both hC hM hws.w hB hW v1 with ⟨o1, o2⟩ | ⟨c, hc, rfl, hx, hy, o1, o2⟩
  · simp only [o1, o2, bnd_s, if_true]
    exact ⟨_, _, _, rfl, rfl, h'⟩
  have n1 : ¬ (1 : Int32) = 0 := by decide
  simp only [o1, o2, bnd_s, if_neg n1]
  rcases cell_both hC hM hws.w hB hW v2 with ⟨o3, o4⟩ | ⟨t, ht, rfl, hx2, hy2, o3, o4⟩
  · simp only [o3, o4, bnd_s, if_true]
    exact ⟨_, _, _, rfl, rfl, h'⟩
  simp only [o3, o4, bnd_s, if_neg n1]
  obtain ⟨hd, hhd, e7⟩ := hS.2.2.1
  have there := there_1 hS (show 0 < sv (m0.1 4) 6 by omega)
  obtain ⟨t6, t7, t0, t11, tO, -, -, -, tl⟩ := hS.2.2.2.2.2.1 there
  have b0 : sv (m0.1 4) 0 ≤ 4 := (sea_nI hB (j := 0) (by decide)).2
  have Ap : 1 ≤ so (m0.1 4) (sv (m0.1 4) 0) := Nat.le_trans t0 (so_ge tO _ (Nat.le_refl _))
  rw [e7]
  obtain ⟨m1, d1, E1, hC1, hf1, ha1⟩ := time_c hC hws hW hB tl hc ht hhd
  obtain ⟨l1, L1, Q1⟩ := layOne_m hM hc
  rw [E1, L1, bnd_s, bnd_s]
  generalize hP : (fun k => !decide ((hrs (tg (m0.1 4) hd) (od (m0.1 4)) (sv (m0.1 4) 0) c k).2 t = 0)) = P
  obtain ⟨r0, r1, r2, r3, r4⟩ := rc_d hC1
  have t1 : iter (fun s => fX11_could_63b 0 s.1 s.2 m1) FU ((0 : Int32), (0 : Int32)) = some (ow P 9) := by
    refine iter_traj (fun k => (ow P k, nI k)) 9 _ (by decide) (fun k hk => ?_) ?_
    · simp only [fX11_could_63b, fX11_could_92, if_neg (show ¬ (8 : Int32) < nI k from nI_nlt (b := k) (a := 8) (by omega) (by decide)), kc_s, rc_s hC1, r4, eq_self, gp_tt, bnd_s, lt1_e, inb_nI hk (by decide), nI_clamp (show k < 2 ^ 31 by omega), ha1 k hk, nI_1, ow_s]
      have z := hrs_z (T := tg (m0.1 4) hd) (O := od (m0.1 4)) (n := sv (m0.1 4) 0) (c0 := c) (fun i hi => tO i hi) k t
      have xb := xk_le hB hd c ht (show k ≤ 8 by omega)
      have q36 : (36 : Nat) ^ 8 < 2 ^ 63 := by decide
      have lz : lN (xk (m0.1 4) hd c t k) ≤ (0 : Int64) ↔ xk (m0.1 4) hd c t k = 0 := by
        rw [show (0 : Int64) = lN 0 from rfl, pk_lLE (by omega) (by decide)]
        omega
      have xz : xk (m0.1 4) hd c t k = 0 ↔ (hrs (tg (m0.1 4) hd) (od (m0.1 4)) (sv (m0.1 4) 0) c k).2 t = 0 := by
        rw [← z]
        unfold xk
        rw [Nat.mul_eq_zero]
        have pp : so (m0.1 4) (sv (m0.1 4) 0) ^ (8 - k) ≠ 0 := Nat.ne_of_gt (Nat.pow_pos (by omega))
        exact ⟨fun q => q.resolve_right pp, Or.inl⟩
      have pk : (P k = true) ↔ ¬ (hrs (tg (m0.1 4) hd) (od (m0.1 4)) (sv (m0.1 4) 0) c k).2 t = 0 := by rw [← hP]; simp
      by_cases q : (hrs (tg (m0.1 4) hd) (od (m0.1 4)) (sv (m0.1 4) 0) c k).2 t = 0
      · rw [if_pos (lz.mpr (xz.mpr q)), if_neg (fun x => pk.mp x q)]
      · rw [if_neg (fun x => q (xz.mp (lz.mp x))), if_pos (pk.mpr q)]
    · simp only [fX11_could_63b, if_pos (show (8 : Int32) < nI 9 by decide)]
  obtain ⟨e, E, Q⟩ := iter_run (b := fun s => fX12_could_35b 0 (nI t) s.1 s.2.1 s.2.2) (fun q => ∃ k, k ≤ 9 ∧ q.1 = ow P k ∧ q.2.1 = nI k ∧ MC m0 q.2.2 (hrs (tg (m0.1 4) hd) (od (m0.1 4)) (sv (m0.1 4) 0) c k).1 (hrs (tg (m0.1 4) hd) (od (m0.1 4)) (sv (m0.1 4) 0) c k).2) (fun q => 10 - q.2.1.toNatClampNeg) (fun e => e.1 = ow P 9 ∧ RMok e.2 ∧ e.2.1 = m0.1) (by
    rintro ⟨a, v, n1'⟩ ⟨k, hk, q0, q1, q2⟩
    simp only at q0 q1 q2
    subst q0 q1
    obtain ⟨hM2, e2, e12, hxx⟩ := id q2
    rcases Nat.lt_or_ge k 9 with c1 | c1
    · have rb := Nat.lt_of_le_of_lt (hrs_b (T := tg (m0.1 4) hd) (O := od (m0.1 4)) (n := sv (m0.1 4) 0) (c0 := c) (fun c j hc _ => tg_lt hB hd hc j) k ht).2 (pow_b b0 (by omega))
      obtain ⟨m2, e1, e2'⟩ := goHour_m hB q2 (fun x hx => Nat.lt_of_le_of_lt (hrs_b (fun c j hc _ => tg_lt hB hd hc j) k hx).2 (pow_b b0 (by omega))) hhd
      have h67 : n1'.1 6 7 = nI hd := by rw [e2]; exact e7
      refine Or.inl ⟨(ow P (k + 1), nI (k + 1), m2), ?_, ⟨k + 1, by omega, rfl, rfl, e2'⟩, ?_⟩
      · simp only [fX12_could_35b, fX12_could_62, if_neg (show ¬ (9 : Int32) ≤ nI k from nI_ge (b := 9) c1 (by decide)), km_s, rm_s hM2, eq_self, gp_tt, bnd_s, lt1_e, inb_nI ht (by decide), nI_clamp (show t < 2 ^ 31 by omega), (hxx t ht).2, clL, inL, h67, e1, nI_1, ow_s]
        have lz : lN ((hrs (tg (m0.1 4) hd) (od (m0.1 4)) (sv (m0.1 4) 0) c k).2 t) ≤ (0 : Int64) ↔ (hrs (tg (m0.1 4) hd) (od (m0.1 4)) (sv (m0.1 4) 0) c k).2 t = 0 := by
          rw [show (0 : Int64) = lN 0 from rfl, pk_lLE (by omega) (by decide)]
          omega
        have pk : (P k = true) ↔ ¬ (hrs (tg (m0.1 4) hd) (od (m0.1 4)) (sv (m0.1 4) 0) c k).2 t = 0 := by rw [← hP]; simp
        by_cases q : (hrs (tg (m0.1 4) hd) (od (m0.1 4)) (sv (m0.1 4) 0) c k).2 t = 0
        · rw [if_pos (lz.mpr q), if_neg (fun x => pk.mp x q), Int32.or_zero]
        · rw [if_neg (fun x => q (lz.mp x)), if_pos (pk.mpr q)]
      · show 10 - (nI (k + 1)).toNatClampNeg < 10 - (nI k).toNatClampNeg
        rw [nI_clamp (by omega), nI_clamp (by omega)]
        omega
    · have : k = 9 := by omega
      subst this
      refine Or.inr ⟨(ow P 9, n1'), ?_, rfl, hM2, e2⟩
      simp only [fX12_could_35b, if_pos (show (9 : Int32) ≤ nI 9 by decide)]) FU ((0 : Int32), (0 : Int32), l1) ⟨0, by decide, rfl, rfl, Q1⟩ (by have := FU_ge; show 10 - (0 : Int32).toNatClampNeg < FU; omega)
  unfold fX11_could_63 fX12_could_35
  rw [t1, E, bnd_s, bnd_s, Q.1]
  exact ⟨_, _, _, rfl, rfl, rel_drift (d := d) hws hRows hTape hMisc hW hS hImg hTr hC1 hf1 Q.2.1 Q.2.2⟩
/-- of a set of hours: what each brings -/
def bk (sea : Nat → Int32) (S h c t k : Nat) : Nat := if bit S k = true then xk sea h c t k else 0
theorem bk_le {sea : Nat → Int32} (hB : SeaB sea) (S h c : Nat) {t k : Nat} (ht : t < 128) (hk : k ≤ 8) : bk sea S h c t k ≤ 36 ^ 8 := by
  unfold bk
  split
  · exact xk_le hB h c ht hk
  · exact Nat.zero_le _
theorem brings_m {m : Mem} {S c t h : Nat} (hM : RMok m) (hB : SeaB (m.1 4)) (hS : S < 512) (hc : c < 128) (ht : t < 128) (hh : h < 8) (e7 : m.1 6 7 = nI h) : ∃ m2, fX12_findBrings 0 (nI S) (nI c) (nI t) m = some m2 ∧ RMok m2 ∧ m2.1 = m.1 ∧ (∀ k, k < 9 → m2.2.1 12 k = lN (bk (m.1 4) S h c t k)) ∧ m2.2.1 0 24 = lN (sm (bk (m.1 4) S h c t) 9) := by
  have b0 : sv (m.1 4) 0 ≤ 4 := (sea_nI hB (j := 0) (by decide)).2
  obtain ⟨l1, L1, Q1⟩ := layOne_m (m := uJ m 0 24 0) hM hc
  unfold fX12_findBrings fX12_findBrings_13
  rw [gp_pos km_s.1, lt1_e, L1, bnd_s, lt1_e]
  obtain ⟨e, E, Q⟩ := iter_run (b := fun s => fX12_findBrings_13b 0 (nI S) (nI t) s.1 s.2) (fun q => ∃ k, k ≤ 9 ∧ q.1 = nI k ∧ RMok q.2 ∧ q.2.1 = m.1 ∧ (∀ x, x < 128 → q.2.2.1 8 x = lN ((hrs (tg (m.1 4) h) (od (m.1 4)) (sv (m.1 4) 0) c k).1 x) ∧ q.2.2.1 9 x = lN ((hrs (tg (m.1 4) h) (od (m.1 4)) (sv (m.1 4) 0) c k).2 x)) ∧ (∀ i, i < k → q.2.2.1 12 i = lN (bk (m.1 4) S h c t i)) ∧ q.2.2.1 0 24 = lN (sm (bk (m.1 4) S h c t) k)) (fun q => 10 - q.1.toNatClampNeg) (fun e => RMok e ∧ e.1 = m.1 ∧ (∀ k, k < 9 → e.2.1 12 k = lN (bk (m.1 4) S h c t k)) ∧ e.2.1 0 24 = lN (sm (bk (m.1 4) S h c t) 9)) (by
    rintro ⟨v, n1⟩ ⟨k, hk, q1, hM1, f1, hx, ha, hs⟩
    simp only at q1 hM1 f1 hx ha hs
    subst q1
    rcases Nat.lt_or_ge k 9 with c1 | c1
    · have s4 : n1.1 4 = m.1 4 := by rw [f1]
      have step : ∃ m2, fX12_findBrings_56 0 (nI S) (nI t) (nI k) 12 (nI k) (lN (bk (m.1 4) S h c t k)) n1 = some (.inl (nI (k + 1), m2)) ∧ RMok m2 ∧ m2.1 = m.1 ∧ (∀ x, x < 128 → m2.2.1 8 x = lN ((hrs (tg (m.1 4) h) (od (m.1 4)) (sv (m.1 4) 0) c (k + 1)).1 x) ∧ m2.2.1 9 x = lN ((hrs (tg (m.1 4) h) (od (m.1 4)) (sv (m.1 4) 0) c (k + 1)).2 x)) ∧ (∀ i, i < k + 1 → m2.2.1 12 i = lN (bk (m.1 4) S h c t i)) ∧ m2.2.1 0 24 = lN (sm (bk (m.1 4) S h c t) (k + 1)) := by
        generalize hB' : lN (bk (m.1 4) S h c t k) = B
        generalize hn2 : uJ (uJ n1 12 k B) 0 24 (n1.2.1 0 24 + B) = n2
        have n21 : n2.1 = m.1 := by rw [← hn2]; exact f1
        have n22 : RMok n2 := by rw [← hn2]; exact hM1
        have n24 : n2.1 4 = m.1 4 := by rw [n21]
        have n2x : ∀ a, a ≠ 12 → a ≠ 0 → n2.2.1 a = n1.2.1 a := fun a h1 h2 => by rw [← hn2, uJ_o h2, uJ_o h1]
        obtain ⟨m2, e1, e2⟩ := goHour_m (m0 := n2) (m := n2) (h := h) (F := (hrs (tg (m.1 4) h) (od (m.1 4)) (sv (m.1 4) 0) c k).1) (R := (hrs (tg (m.1 4) h) (od (m.1 4)) (sv (m.1 4) 0) c k).2) (by rw [n24]; exact hB) ⟨n22, rfl, ⟨rfl, rfl⟩, fun x hx' => by rw [n2x 8 (by decide) (by decide), n2x 9 (by decide) (by decide)]; exact hx x hx'⟩ (fun x hx => Nat.lt_of_le_of_lt (hrs_b (fun c j hc _ => tg_lt hB h hc j) k hx).2 (pow_b b0 (by omega))) hh
        rw [n24, ← hrs_s] at e2
        obtain ⟨g1, g2, ⟨g3, g4⟩, g5⟩ := e2
        have z0 : (uJ n1 12 k B).2.1 0 24 = n1.2.1 0 24 := by rw [uJ_o (by decide)]
        have z12' : (uJ n1 12 k B).2.1 12 k = B := by rw [uJ_2, if_pos ⟨rfl, rfl⟩]
        have u2 : ∀ y, (uJ n1 12 k y).2.2 = n1.2.2 := fun y => rfl
        have u3 : n2.2.2 0 8 = some 6 := (rm_s n22).2.2.2.2.2.1
        have h67 : n2.1 6 7 = nI h := by rw [n21]; exact e7
        refine ⟨m2, ?_, g1, g2.trans n21, g5, fun i hi => ?_, ?_⟩
        · simp only [fX12_findBrings_56, km_s, rm_s hM1, u2, eq_self, gp_tt, bnd_s, lt1_e, inb_nI c1 (by decide), nI_clamp (show k < 2 ^ 31 by omega), z0, z12', hn2, u3, clL, inL, h67, e1, nI_1]
        · rw [g3, ← hn2, uJ_o (by decide), uJ_2]
          by_cases q : i = k
          · rw [if_pos ⟨rfl, q⟩, q, hB']
          · rw [if_neg (fun z => q z.2)]; exact ha i (by omega)
        · rw [g4, ← hn2, uJ_2, if_pos ⟨rfl, rfl⟩, hs, ← hB', lN_add, sm_s]
      obtain ⟨m2, e1, e2, e3, e4, e5, e6⟩ := step
      refine Or.inl ⟨(nI (k + 1), m2), ?_, ⟨k + 1, by omega, rfl, e2, e3, e4, e5, e6⟩, ?_⟩
      · have e8 : (8 : Int32) - nI k = nI (8 - k) := pk_sub (a := 8) (by omega)
        have ea := allTo_m (m := n1) hM1 (by rw [s4]; exact hB) (8 - k) (by omega)
        rw [s4] at ea
        have bb := bt_nI (x := S) (n := k) (by omega) (by omega)
        simp only [fX12_findBrings_13b, if_neg (show ¬ (9 : Int32) ≤ nI k from nI_ge (b := 9) c1 (by decide)), km_s, rm_s hM1, eq_self, gp_tt, bnd_s, bt_v, bb, inb_nI ht (by decide), nI_clamp (show t < 2 ^ 31 by omega), e8, ea, (hx t ht).1, lN_mul]
        by_cases q : bit S k = true
        · rw [if_pos q, if_pos rfl]
          rw [show bk (m.1 4) S h c t k = xk (m.1 4) h c t k from if_pos q] at e1
          exact e1
        · rw [if_neg q, if_neg (by decide)]
          rw [show bk (m.1 4) S h c t k = 0 from if_neg q] at e1
          exact e1
      · show 10 - (nI (k + 1)).toNatClampNeg < 10 - (nI k).toNatClampNeg
        rw [nI_clamp (by omega), nI_clamp (by omega)]
        omega
    · have : k = 9 := by omega
      subst this
      refine Or.inr ⟨n1, ?_, hM1, f1, ha, hs⟩
      simp only [fX12_findBrings_13b, if_pos (show (9 : Int32) ≤ nI 9 by decide)]) FU ((0 : Int32), l1) ⟨0, by decide, rfl, Q1.1, Q1.2.1, Q1.2.2.2, fun i hi => by omega, by rw [show ((0 : Int32), l1).2.2.1 0 = (uJ m 0 24 0).2.1 0 from Q1.2.2.1.2]; rfl⟩ (by have := FU_ge; show 10 - (0 : Int32).toNatClampNeg < FU; omega)
  rw [E, bnd_s]
  exact ⟨e, rfl, Q⟩
theorem setH_e (v : Int32) : fX11_isSetOfHours v = some (iw v 1 511) := by
  simp only [fX11_isSetOfHours, isWithin_e, bnd_s, gp_pos (iw_zb _ _ _)]
theorem op14 : Op14 Rel := by
  intro mc mm h v1 v2 v3
  have h' := h.thrown
  unfold fX12_leftAt
  rw [gp_pos km_s.1, lt1_e]
  generalize uI mm 0 0 0 = m0 at h' ⊢
  clear h
  obtain ⟨hM, w, s, d, hC, hws, hRows, hTape, hMisc, hW, hS, hImg, hTr⟩ := id h'
  have hB := hS.2.1
  simp only [fX11_leftAt, setH_e, in_1_511, bnd_s, lt1_e, kc_s, km_s, rc_s hC, rc_w hC hws.w, kc_w hws.w, rm_s hM, eq_self, gp_tt, hW.2.2.2.2.1.1]
  by_cases h1 : iw v1 1 511 = 0
  · exact ⟨_, _, _, if_pos h1, if_pos h1, h'⟩
  simp only [if_neg h1]
  obtain ⟨g1, g2⟩ := iw_ne0 h1
  obtain ⟨S, hS5, rfl⟩ := nI_of2 (M := 511) (n := 511) rfl (Int32.not_lt.mpr (Int32.le_trans (by decide) g1)) g2
  rcases open_both hC hM hws.w hB hW v2 with ⟨o1, o2⟩ | ⟨c, hc, rfl, hx, hy, o1, o2⟩
  · simp only [o1, o2, bnd_s, if_true]
    exact ⟨_, _, _, rfl, rfl, h'⟩
  have n1 : ¬ (1 : Int32) = 0 := by decide
  simp only [o1, o2, bnd_s, if_neg n1]
  rcases cell_both hC hM hws.w hB hW v3 with ⟨o3, o4⟩ | ⟨t, ht, rfl, hx2, hy2, o3, o4⟩
  · simp only [o3, o4, bnd_s, if_true]
    exact ⟨_, _, _, rfl, rfl, h'⟩
  simp only [o3, o4, bnd_s, if_neg n1]
  obtain ⟨hd, hhd, e7⟩ := hS.2.2.1
  have there := there_1 hS (show 0 < sv (m0.1 4) 6 by omega)
  obtain ⟨t6, t7, t0, t11, tO, -, -, -, tl⟩ := hS.2.2.2.2.2.1 there
  obtain ⟨m2, E2, hM2, e2, ha2, hs2⟩ := brings_m hM hB (show S < 512 by omega) hc ht hhd e7
  rw [e7]
  obtain ⟨m1, d1, E1, hC1, hf1, ha1⟩ := time_c hC hws hW hB tl hc ht hhd
  rw [E1, E2, bnd_s, bnd_s]
  obtain ⟨r0, r1, r2, r3, r4⟩ := rc_d hC1
  have q36 : (36 : Nat) ^ 8 < 2 ^ 63 := by decide
  have lb : ∀ k, k ≤ 9 → (lk (bk (m0.1 4) S hd c t) k).2 ≤ 36 ^ 8 := fun k hk => lk_le k (fun j hj => bk_le hB S hd c ht (by omega))
  have t1 : iter (fun s => fX11_leftAt_75b 0 (nI S) s.1 s.2.1 s.2.2 m1) FU ((-1000000 : Int32), (0 : Int64), (0 : Int32)) = some (lk (bk (m0.1 4) S hd c t) 9).1 := by
    refine iter_traj (fun k => ((lk (bk (m0.1 4) S hd c t) k).1, lN (lk (bk (m0.1 4) S hd c t) k).2, nI k)) 9 _ (by decide) (fun k hk => ?_) ?_
    · have bb := bt_nI (x := S) (n := k) (by omega) (by omega)
      have l1 := lb k (by omega)
      have l2 := xk_le hB hd c ht (show k ≤ 8 by omega)
      simp only [fX11_leftAt_75b, fX11_leftAt_123, if_neg (show ¬ (8 : Int32) < nI k from nI_nlt (b := k) (a := 8) (by omega) (by decide)), isIn_e, bb, kc_s, rc_s hC1, r4, eq_self, gp_tt, bnd_s, lt1_e, inb_nI hk (by decide), nI_clamp (show k < 2 ^ 31 by omega), ha1 k hk, nI_1, lk_s]
      by_cases q : bit S k = true
      · have eb : bk (m0.1 4) S hd c t k = xk (m0.1 4) hd c t k := if_pos q
        rw [if_pos q, if_neg n1, eb]
        by_cases q2 : xk (m0.1 4) hd c t k ≤ (lk (bk (m0.1 4) S hd c t) k).2
        · rw [if_pos ((pk_lLE (by omega) (by omega)).mpr q2), if_pos q2]
        · rw [if_neg (fun z => q2 ((pk_lLE (by omega) (by omega)).mp z)), if_neg q2]
      · have eb : bk (m0.1 4) S hd c t k = 0 := if_neg q
        rw [if_neg q, if_pos rfl, eb, if_pos (Nat.zero_le _)]
    · simp only [fX11_leftAt_75b, if_pos (show (8 : Int32) < nI 9 by decide)]
  have t2 : iter (fun s => fX12_leftAt_54b 0 s.1 s.2.1 s.2.2 m2) FU ((-1000000 : Int32), (0 : Int64), (0 : Int32)) = some (lk (bk (m0.1 4) S hd c t) 9).1 := by
    refine iter_traj (fun k => ((lk (bk (m0.1 4) S hd c t) k).1, lN (lk (bk (m0.1 4) S hd c t) k).2, nI k)) 9 _ (by decide) (fun k hk => ?_) ?_
    · have l1 := lb k (by omega)
      have l2 := bk_le hB S hd c ht (show k ≤ 8 by omega)
      simp only [fX12_leftAt_54b, fX12_leftAt_87, if_neg (show ¬ (9 : Int32) ≤ nI k from nI_ge (b := 9) hk (by decide)), km_s, rm_s hM2, eq_self, gp_tt, bnd_s, lt1_e, inb_nI hk (by decide), nI_clamp (show k < 2 ^ 31 by omega), ha2 k hk, nI_1, lk_s]
      by_cases q2 : bk (m0.1 4) S hd c t k ≤ (lk (bk (m0.1 4) S hd c t) k).2
      · rw [if_pos ((pk_lLE (by omega) (by omega)).mpr q2), if_pos q2]
      · rw [if_neg (fun z => q2 ((pk_lLE (by omega) (by omega)).mp z)), if_neg q2]
    · simp only [fX12_leftAt_54b, if_pos (show (9 : Int32) ≤ nI 9 by decide)]
  unfold fX11_leftAt_75 fX12_leftAt_54
  rw [t1, t2, bnd_s, bnd_s]
  exact ⟨_, _, _, rfl, rfl, rel_drift (d := d) hws hRows hTape hMisc hW hS hImg hTr hC1 hf1 hM2 e2⟩
theorem op15 : Op15 Rel := by
  intro mc mm h v1 v2 v3 v4 v5
  have h' := h.thrown
  unfold fX12_leftOdds
  rw [gp_pos km_s.1, lt1_e]
  generalize uI mm 0 0 0 = m0 at h' ⊢
  clear h
  obtain ⟨hM, w, s, d, hC, hws, hRows, hTape, hMisc, hW, hS, hImg, hTr⟩ := id h'
  have hB := hS.2.1
  simp only [fX11_leftOdds, setH_e, in_1_511, in_0_8, in_0_1, isWithin_e, isIn_e, bt_v, bnd_s, lt1_e, kc_s, km_s, rc_s hC, rc_w hC hws.w, kc_w hws.w, rm_s hM, eq_self, gp_tt, hW.2.2.2.2.1.1]
  by_cases h1 : iw v1 1 511 = 0
  · exact ⟨_, _, _, if_pos h1, if_pos h1, h'⟩
  simp only [if_neg h1]
  obtain ⟨g1, g2⟩ := iw_ne0 h1
  obtain ⟨S, hS5, rfl⟩ := nI_of2 (M := 511) (n := 511) rfl (Int32.not_lt.mpr (Int32.le_trans (by decide) g1)) g2
  rcases open_both hC hM hws.w hB hW v2 with ⟨o1, o2⟩ | ⟨c, hc, rfl, hx, hy, o1, o2⟩
  · simp only [o1, o2, bnd_s, if_true]
    exact ⟨_, _, _, rfl, rfl, h'⟩
  have n1 : ¬ (1 : Int32) = 0 := by decide
  simp only [o1, o2, bnd_s, if_neg n1]
  rcases cell_both hC hM hws.w hB hW v3 with ⟨o3, o4⟩ | ⟨t, ht, rfl, hx2, hy2, o3, o4⟩
  · simp only [o3, o4, bnd_s, if_true]
    exact ⟨_, _, _, rfl, rfl, h'⟩
  simp only [o3, o4, bnd_s, if_neg n1]
  by_cases h2 : iw v4 0 8 = 0
  · exact ⟨_, _, _, if_pos h2, if_pos h2, h'⟩
  simp only [if_neg h2]
  by_cases h3 : bt (nI S) v4 = 0
  · exact ⟨_, _, _, if_pos h3, if_pos h3, h'⟩
  simp only [if_neg h3]
  by_cases h4 : iw v5 0 1 = 0
  · exact ⟨_, _, _, if_pos h4, if_pos h4, h'⟩
  simp only [if_neg h4]
  obtain ⟨N, hN, rfl⟩ := iw_nI h2 (n := 8) rfl
  obtain ⟨hd, hhd, e7⟩ := hS.2.2.1
  have there := there_1 hS (show 0 < sv (m0.1 4) 6 by omega)
  obtain ⟨t6, t7, t0, t11, tO, -, -, -, tl⟩ := hS.2.2.2.2.2.1 there
  obtain ⟨m2, E2, hM2, e2, ha2, hs2⟩ := brings_m hM hB (show S < 512 by omega) hc ht hhd e7
  rw [e7]
  obtain ⟨m1, d1, E1, hC1, hf1, ha1⟩ := time_c hC hws hW hB tl hc ht hhd
  rw [E1, E2, bnd_s, bnd_s]
  obtain ⟨r0, r1, r2, r3, r4⟩ := rc_d hC1
  have rel := rel_drift (d := d) hws hRows hTape hMisc hW hS hImg hTr hC1 hf1 hM2 e2
  have bN : bit S N = true := by
    apply Classical.byContradiction
    intro q
    rw [bt_nI (x := S) (n := N) (by omega) (by omega), if_neg q] at h3
    exact h3 rfl
  have eN : bk (m0.1 4) S hd c t N = xk (m0.1 4) hd c t N := if_pos bN
  have t1 : iter (fun s => fX11_leftOdds_105b 0 (nI S) (nI N) v5 s.1 s.2 m1) FU ((0 : Int64), (0 : Int32)) = some (lN (sm (bk (m0.1 4) S hd c t) 9)) := by
    refine iter_traj (fun k => (lN (sm (bk (m0.1 4) S hd c t) k), nI k)) 9 _ (by decide) (fun k hk => ?_) ?_
    · have bb := bt_nI (x := S) (n := k) (by omega) (by omega)
      simp only [fX11_leftOdds_105b, fX11_leftOdds_136, if_neg (show ¬ (8 : Int32) < nI k from nI_nlt (b := k) (a := 8) (by omega) (by decide)), isIn_e, bb, kc_s, rc_s hC1, r4, eq_self, gp_tt, bnd_s, lt1_e, inb_nI hk (by decide), nI_clamp (show k < 2 ^ 31 by omega), ha1 k hk, nI_1, sm_s, lN_add]
      by_cases q : bit S k = true
      · have eb : bk (m0.1 4) S hd c t k = xk (m0.1 4) hd c t k := if_pos q
        rw [if_pos q, if_neg n1, eb]
      · have eb : bk (m0.1 4) S hd c t k = 0 := if_neg q
        rw [if_neg q, if_pos rfl, eb]
        rfl
    · simp only [fX11_leftOdds_105b, if_pos (show (8 : Int32) < nI 9 by decide)]
  unfold fX11_leftOdds_105
  rw [t1, bnd_s, hs2]
  unfold fX11_leftOdds_142
  have all : sm (bk (m0.1 4) S hd c t) 9 ≤ 9 * 36 ^ 8 := sm_le 9 (fun j hj => bk_le hB S hd c ht (by omega))
  have l46 : 9 * (36 : Nat) ^ 8 < 2 ^ 46 := by decide
  have xb := xk_le hB hd c ht hN
  have az : lN (sm (bk (m0.1 4) S hd c t) 9) = (0 : Int64) ↔ sm (bk (m0.1 4) S hd c t) 9 = 0 := by
    rw [show (0 : Int64) = lN 0 from rfl, pk_lEQ (by omega) (by decide)]
  by_cases q : sm (bk (m0.1 4) S hd c t) 9 = 0
  · rw [if_pos (az.mpr q), if_pos (az.mpr q)]
    exact ⟨_, _, _, rfl, rfl, rel⟩
  · rw [if_neg (fun z => q (az.mp z)), if_neg (fun z => q (az.mp z))]
    obtain ⟨r, f1, f2⟩ := frac_eq (a := xk (m0.1 4) hd c t N) (b := sm (bk (m0.1 4) S hd c t) 9) v5 (by omega) (by omega) (by omega)
    simp only [kc_s, km_s, rc_s hC1, r4, rm_s hM2, eq_self, gp_tt, bnd_s, inb_nI (show N < 9 by omega) (by decide), nI_clamp (show N < 2 ^ 31 by omega), ha1 N (by omega), ha2 N (by omega), eN, f1, f2]
    exact ⟨_, _, _, rfl, rfl, rel⟩
