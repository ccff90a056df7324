/-- the latest finding alone has changed -/
theorem Rel.find {mc mm mm2 : Mem} {v : Int32} (h : Rel mc mm) (h1 : mm2.2.2 = mm.2.2) (h2 : mm2.1 1 = mm.1 1 ∧ mm2.1 2 = mm.1 2 ∧ mm2.1 3 = mm.1 3 ∧ mm2.1 4 = mm.1 4 ∧ mm2.1 6 = mm.1 6 ∧ mm2.1 7 = mm.1 7 ∧ mm2.1 13 = mm.1 13 ∧ mm2.1 14 = mm.1 14 ∧ mm2.1 15 = mm.1 15 ∧ mm2.1 16 = mm.1 16) (h3 : mm2.1 0 1 = v ∧ mm2.1 0 7 = mm.1 0 7 ∧ mm2.1 0 10 = mm.1 0 10 ∧ mm2.1 0 11 = mm.1 0 11 ∧ mm2.1 0 30 = mm.1 0 30) : Rel (uI mc 0 9 v) mm2 := by
  obtain ⟨a1, w, s, d, a2, a3, a4, a5, a6, a7, a8, a9, a10⟩ := h
  obtain ⟨e1, e2, e3, e4, e6, e7, e13, e14, e15, e16⟩ := h2
  obtain ⟨f1, f7, f10, f11, f30⟩ := h3
  have hw : w = 15 ∨ w = 30 := by rcases a3 with ⟨h, -⟩ | ⟨h, -⟩ <;> omega
  refine ⟨fun k hk => by rw [h1]; exact a1 k hk, w, s, d, a2, a3, a4.c (fun a _ _ => uI_o (by omega)) e1 e2 e3, a5.c rfl rfl f10 e7, ⟨?_, ?_⟩, ?_, ?_, fun k hk => (a9 k hk).c (fun a _ _ => uI_o (by omega)) (by rw [e13]) e14 e15 (fun q => by rw [f7]; exact q), a10.c rfl rfl f30 e16⟩
  · rw [f11]; exact a6.1
  · rw [f1]; rfl
  · rw [e4, e6, f7]; exact a7.c (fun a _ _ => uI_o (by omega))
  · rw [e4, e6, f7]; exact a8
theorem kind_eq : ∀ k, k < 8 → ∀ v, v < 8 → fX11_isKindOf (nI k) (nI v) = fX12_isOf (nI k) (nI v) ∧ (fX12_isOf (nI k) (nI v) = some 0 ∨ fX12_isOf (nI k) (nI v) = some 1) := by decide +kernel
theorem op34 : Op34 Rel := by
  intro mc mm h v1 v2
  obtain ⟨hM, w, s, d, hC, hws, hRows, hTape, hMisc, hW, hS, hImg, hTr⟩ := id h
  obtain ⟨eS, bS⟩ := sea_nI hS.2.1 (j := 4) (by decide)
  have bS : sv (mm.1 4) 4 ≤ 10 := bS
  simp only [fX11_as, fX12_as, isWithin_e, in_0_7, bnd_s, lt1_e, km_s, kc_s, rc_s hC, rc_w hC hws.w, kc_w hws.w, nc_w hws.w, rm_s hM, eq_self, gp_tt, isSign_c hws.w, isSign_m hM.th, hW.2.2.2.2.2.2.2.1.1, th_1]
  rw [eS]
  by_cases h1 : iw v1 0 (nI (sv (mm.1 4) 4) - 1) = 0
  · exact ⟨_, _, _, if_pos h1, if_pos h1, h.thrown⟩
  obtain ⟨k, hk, rfl⟩ := iw_lt (by omega) h1
  simp only [if_neg h1]
  by_cases h2 : iw v2 0 7 = 0
  · exact ⟨_, _, _, if_pos h2, if_pos h2, h.thrown⟩
  obtain ⟨c, hc, rfl⟩ := iw_nI h2 (n := 7) rfl
  have e : fX12_signOf 0 (nI k) (0 : Int32) (uI (uI mm 0 0 0) 0 1 0) = some (mm.1 4 (40 + 2 * k)) := signOf_m (m := uI (uI mm 0 0 0) 0 1 0) hM (k := k) (c := 0) (by omega)
  simp only [if_neg h2, inb_nI (show k < 10 by omega) (by decide), gp_tt, eq_self, nI_clamp (show k < 2 ^ 31 by omega), e, bnd_s, (hW.2.2.2.2.2.2.2.2.1 k hk).1]
  obtain ⟨eK, bK⟩ := sea_nI hS.2.1 (j := 40 + 2 * k) (by omega)
  have hb : ∀ k, k < 10 → sbL.getD (40 + 2 * k) 0 ≤ 7 := by decide +kernel
  have bK := Nat.le_trans bK (hb k (by omega))
  rw [eK]
  obtain ⟨q1, q2⟩ := kind_eq (sv (mm.1 4) (40 + 2 * k)) (by omega) c (by omega)
  rw [q1]
  rcases q2 with q2 | q2
  · rw [q2]
    refine ⟨_, _, _, rfl, rfl, ?_⟩
    exact h.find rfl ⟨rfl, rfl, rfl, rfl, rfl, rfl, rfl, rfl, rfl, rfl⟩ ⟨rfl, rfl, rfl, rfl, rfl⟩
  · rw [q2]
    refine ⟨_, _, _, rfl, rfl, ?_⟩
    exact h.find rfl ⟨rfl, rfl, rfl, rfl, rfl, rfl, rfl, rfl, rfl, rfl⟩ ⟨rfl, rfl, rfl, rfl, rfl⟩
def ow (P : Nat → Bool) : Nat → Int32
  | 0 => 0
  | n + 1 => if P n = true then ow P n ||| ((1 : Int32) <<< (nI n &&& 31)) else ow P n
theorem ow_s (P : Nat → Bool) (n : Nat) : ow P (n + 1) = if P n = true then ow P n ||| ((1 : Int32) <<< (nI n &&& 31)) else ow P n := rfl
theorem ow_c {P Q : Nat → Bool} {n : Nat} (h : ∀ j, j < n → P j = Q j) : ow P n = ow Q n := by
  induction n with
  | zero => rfl
  | succ n ih => rw [ow_s, ow_s, ih (fun j hj => h j (by omega)), h n (by omega)]
def pO (kd gn : Nat → Int32) (g : Int32) (j : Nat) : Bool := !(decide (kd j = 7)) && !(decide (g < gn j))
def pM (kd gn : Nat → Int32) (g : Int32) (j : Nat) : Bool := decide (kd j = 7) || (decide (kd j = 6) && !(decide (gn j ≤ g)))
theorem underOath_c {m : Mem} {b n w s : Nat} {d : Bool} (hC : RCok m w s d) (hb : WI b) (g : Int32) (hn : n ≤ 10) (h5 : m.1 (b + 9) 5 = nI n) : fX1_underOath (b + 9) g m = some (ow (pO (m.1 (b + 10)) (m.1 (b + 11)) g) n) := by
  simp only [fX1_underOath, fX1_underOath_4, lt1_e]
  generalize hP : pO (m.1 (b + 10)) (m.1 (b + 11)) g = P
  rw [show ((0 : Int32), (0 : Int32)) = (fun k => (ow P k, nI k)) 0 from rfl, iter_traj (fun k => (ow P k, nI k)) n (ow P n) (by omega) ?_ ?_, bnd_s]
  · intro k hk
    simp only [fX1_underOath_4b, fX1_underOath_39, kc_w hb, nc_w hb, rc_w hC hb, eq_self, gp_tt, h5, bnd_s, lt1_e, if_neg (nI_ge hk (by omega)), inb_nI (show k < 10 by omega) (by decide), nI_clamp (show k < 2 ^ 31 by omega), nI_1]
    rw [ow_s, ← hP, pO]
    by_cases h1 : m.1 (b + 10) k = 7
    · simp [h1]
    · by_cases h2 : g < m.1 (b + 11) k <;> simp [h1, h2]
  · simp only [fX1_underOath_4b, kc_w hb, eq_self, gp_tt, h5, if_pos (nI_le (Nat.le_refl n) (by omega))]
theorem inventedFor_c {m : Mem} {b n w s : Nat} {d : Bool} (hC : RCok m w s d) (hb : WI b) (g : Int32) (hn : n ≤ 10) (h5 : m.1 (b + 9) 5 = nI n) : fX1_inventedFor (b + 9) g m = some (ow (pM (m.1 (b + 10)) (m.1 (b + 11)) g) n) := by
  simp only [fX1_inventedFor, fX1_inventedFor_4, lt1_e]
  generalize hP : pM (m.1 (b + 10)) (m.1 (b + 11)) g = P
  rw [show ((0 : Int32), (0 : Int32)) = (fun k => (ow P k, nI k)) 0 from rfl, iter_traj (fun k => (ow P k, nI k)) n (ow P n) (by omega) ?_ ?_, bnd_s]
  · intro k hk
    simp only [fX1_inventedFor_4b, fX1_inventedFor_44, fX1_inventedFor_50, kc_w hb, nc_w hb, rc_w hC hb, eq_self, gp_tt, h5, bnd_s, lt1_e, if_neg (nI_ge hk (by omega)), inb_nI (show k < 10 by omega) (by decide), nI_clamp (show k < 2 ^ 31 by omega), nI_1]
    rw [ow_s, ← hP, pM]
    by_cases h1 : m.1 (b + 10) k = 7
    · simp [h1]
    · by_cases h3 : m.1 (b + 10) k = 6
      · by_cases h2 : m.1 (b + 11) k ≤ g <;> simp [h3, h2]
      · simp [h1, h3]
  · simp only [fX1_inventedFor_4b, kc_w hb, eq_self, gp_tt, h5, if_pos (nI_le (Nat.le_refl n) (by omega))]
theorem sworn_m {m : Mem} {n : Nat} (hM : RMok m) (g : Int32) (hn : n ≤ 10) (h4 : m.1 4 4 = nI n) : fX12_sworn 0 g 0 m = some (ow (pO (fun j => m.1 4 (40 + 2 * j)) (fun j => m.1 4 (41 + 2 * j)) g) n) ∧ fX12_sworn 0 g 1 m = some (ow (pM (fun j => m.1 4 (40 + 2 * j)) (fun j => m.1 4 (41 + 2 * j)) g) n) := by
  have e0 : ∀ k, k < 10 → fX12_signOf 0 (nI k) (0 : Int32) m = some (m.1 4 (40 + 2 * k)) := fun k hk => signOf_m hM (k := k) (c := 0) (by omega)
  have e1 : ∀ k, k < 10 → fX12_signOf 0 (nI k) (1 : Int32) m = some (m.1 4 (41 + 2 * k)) := fun k hk => by
    rw [show 41 + 2 * k = 40 + 2 * k + 1 by omega]
    exact signOf_m hM (k := k) (c := 1) (by omega)
  constructor
  · simp only [fX12_sworn, fX12_sworn_5, lt1_e]
    generalize hP : pO (fun j => m.1 4 (40 + 2 * j)) (fun j => m.1 4 (41 + 2 * j)) g = P
    rw [show ((0 : Int32), (0 : Int32)) = (fun k => (ow P k, nI k)) 0 from rfl, iter_traj (fun k => (ow P k, nI k)) n (ow P n) (by omega) ?_ ?_, bnd_s]
    · intro k hk
      simp only [fX12_sworn_5b, fX12_sworn_84, fX12_sworn_85, fX12_sworn_101, km_s, rm_s hM, eq_self, gp_tt, bnd_s, clL, inL, h4, lt1_e, if_neg (nI_ge hk (by omega)), e0 k (by omega), e1 k (by omega), nI_1, if_true]
      rw [ow_s, ← hP, pO]
      by_cases h1 : m.1 4 (40 + 2 * k) = 7
      · simp [h1]
      · by_cases h2 : g < m.1 4 (41 + 2 * k) <;> simp [h1, h2]
    · simp only [fX12_sworn_5b, km_s, rm_s hM, eq_self, gp_tt, bnd_s, clL, inL, h4, if_pos (nI_le (Nat.le_refl n) (by omega))]
  · simp only [fX12_sworn, fX12_sworn_5, lt1_e]
    generalize hP : pM (fun j => m.1 4 (40 + 2 * j)) (fun j => m.1 4 (41 + 2 * j)) g = P
    rw [show ((0 : Int32), (0 : Int32)) = (fun k => (ow P k, nI k)) 0 from rfl, iter_traj (fun k => (ow P k, nI k)) n (ow P n) (by omega) ?_ ?_, bnd_s]
    · intro k hk
      simp only [fX12_sworn_5b, fX12_sworn_54, fX12_sworn_58, fX12_sworn_85, fX12_sworn_101, km_s, rm_s hM, eq_self, gp_tt, bnd_s, clL, inL, h4, lt1_e, if_neg (nI_ge hk (by omega)), e0 k (by omega), e1 k (by omega), nI_1, if_neg (show ¬ (1 : Int32) = 0 by decide)]
      rw [ow_s, ← hP, pM]
      by_cases h1 : m.1 4 (40 + 2 * k) = 7
      · simp [h1]
      · by_cases h3 : m.1 4 (40 + 2 * k) = 6
        · by_cases h2 : m.1 4 (41 + 2 * k) ≤ g <;> simp [h3, h2]
        · simp [h1, h3]
    · simp only [fX12_sworn_5b, km_s, rm_s hM, eq_self, gp_tt, bnd_s, clL, inL, h4, if_pos (nI_le (Nat.le_refl n) (by omega))]
theorem op25 : Op25 Rel := by
  intro mc mm h v1
  obtain ⟨hM, w, s, d, hC, hws, hRows, hTape, hMisc, hW, hS, hImg, hTr⟩ := id h
  obtain ⟨eS, bS⟩ := sea_nI hS.2.1 (j := 4) (by decide)
  have bS : sv (mm.1 4) 4 ≤ 10 := bS
  have h5 : mc.1 (w + 9) 5 = nI (sv (mm.1 4) 4) := by rw [hW.2.2.2.2.2.2.2.1.1]; exact eS
  simp only [fX11_oath, fX12_oath, isWithin_e, in_0_9, bnd_s, lt1_e, km_s, kc_s, rc_s hC, rc_w hC hws.w, kc_w hws.w, rm_s hM, th_1, eq_self, gp_tt, hW.1, underOath_c hC hws.w v1 bS h5, (sworn_m hM.th v1 bS eS).1]
  by_cases h1 : mm.1 0 7 = 0
  · exact ⟨_, _, if_pos h1, if_pos h1, h.thrown⟩
  simp only [if_neg h1]
  by_cases h2 : iw v1 0 9 = 0
  · exact ⟨_, _, if_pos h2, if_pos h2, h.thrown⟩
  simp only [if_neg h2]
  refine ⟨_, _, rfl, ?_, h.thrown⟩
  rw [ow_c (P := pO (mc.1 (w + 10)) (mc.1 (w + 11)) v1) (Q := pO (fun j => mm.1 4 (40 + 2 * j)) (fun j => mm.1 4 (41 + 2 * j)) v1) (fun j hj => by
    obtain ⟨q1, q2⟩ := hW.2.2.2.2.2.2.2.2.1 j hj
    simp only [pO, q1, q2])]
theorem op26 : Op26 Rel := by
  intro mc mm h v1
  obtain ⟨hM, w, s, d, hC, hws, hRows, hTape, hMisc, hW, hS, hImg, hTr⟩ := id h
  obtain ⟨eS, bS⟩ := sea_nI hS.2.1 (j := 4) (by decide)
  have bS : sv (mm.1 4) 4 ≤ 10 := bS
  have h5 : mc.1 (w + 9) 5 = nI (sv (mm.1 4) 4) := by rw [hW.2.2.2.2.2.2.2.1.1]; exact eS
  simp only [fX11_madeUp, fX12_madeUp, isWithin_e, in_0_9, bnd_s, lt1_e, km_s, kc_s, rc_s hC, rc_w hC hws.w, kc_w hws.w, rm_s hM, th_1, eq_self, gp_tt, hW.1, inventedFor_c hC hws.w v1 bS h5, (sworn_m hM.th v1 bS eS).2]
  by_cases h1 : mm.1 0 7 = 0
  · exact ⟨_, _, if_pos h1, if_pos h1, h.thrown⟩
  simp only [if_neg h1]
  by_cases h2 : iw v1 0 9 = 0
  · exact ⟨_, _, if_pos h2, if_pos h2, h.thrown⟩
  simp only [if_neg h2]
  refine ⟨_, _, rfl, ?_, h.thrown⟩
  rw [ow_c (P := pM (mc.1 (w + 10)) (mc.1 (w + 11)) v1) (Q := pM (fun j => mm.1 4 (40 + 2 * j)) (fun j => mm.1 4 (41 + 2 * j)) v1) (fun j hj => by
    obtain ⟨q1, q2⟩ := hW.2.2.2.2.2.2.2.2.1 j hj
    simp only [pM, q1, q2])]
theorem op29 : Op29 Rel := by
  intro mc mm h v1 v2 v3
  obtain ⟨hM, w, s, d, hC, hws, hRows, hTape, hMisc, hW, hS, hImg, hTr⟩ := id h
  obtain ⟨eT, bT⟩ := sea_nI hS.2.1 (j := 5) (by decide)
  have bT : sv (mm.1 4) 5 ≤ 6 := bT
  simp only [fX11_lacks, fX12_lacks, isWithin_e, in_0_1, bnd_s, lt1_e, km_s, kc_s, rc_s hC, rc_w hC hws.w, kc_w hws.w, nc_w hws.w, rm_s hM, th_1, eq_self, gp_tt, isStory_c hws.w, isStory_m hM.th, areSigns_c hws.w, areSigns_m hM.th, hW.2.2.2.2.2.2.2.1.1, hW.2.2.2.2.2.2.2.1.2]
  rw [eT]
  by_cases h1 : iw v1 0 (nI (sv (mm.1 4) 5) - 1) = 0
  · exact ⟨_, _, if_pos h1, if_pos h1, h.thrown⟩
  obtain ⟨k, hk, rfl⟩ := iw_lt (by omega) h1
  simp only [if_neg h1]
  by_cases h2 : iw v2 0 ((1 : Int32) <<< (mm.1 4 4 &&& 31) - 1) = 0
  · exact ⟨_, _, if_pos h2, if_pos h2, h.thrown⟩
  simp only [if_neg h2]
  by_cases h3 : iw v3 0 1 = 0
  · exact ⟨_, _, if_pos h3, if_pos h3, h.thrown⟩
  have e1 : fX12_storyOf 0 (nI k) (1 : Int32) (uI mm 0 0 0) = some (mm.1 4 (61 + 3 * k)) := by
    rw [show 61 + 3 * k = 60 + 3 * k + 1 by omega]; exact storyOf_m hM.th (k := k) (c := 1) (by omega)
  have e2 : fX12_storyOf 0 (nI k) (2 : Int32) (uI mm 0 0 0) = some (mm.1 4 (62 + 3 * k)) := by
    rw [show 62 + 3 * k = 60 + 3 * k + 2 by omega]; exact storyOf_m hM.th (k := k) (c := 2) (by omega)
  obtain ⟨g1, g2, g3⟩ := hW.2.2.2.2.2.2.2.2.2 k hk
  simp only [if_neg h3, inb_nI (show k < 6 by omega) (by decide), gp_tt, eq_self, nI_clamp (show k < 2 ^ 31 by omega), e1, e2, bnd_s, g1, g2]
  by_cases h4 : v3 = 0
  · exact ⟨_, _, if_pos h4, if_pos h4, h.thrown⟩
  · exact ⟨_, _, if_neg h4, if_neg h4, h.thrown⟩
