def bm (F : Nat → Bool) : Nat → Int32
  | 0 => -1000000
  | k + 1 => if F (200 - k) = true then nI (200 - k) else bm F k
theorem bm_s (F : Nat → Bool) (k : Nat) : bm F (k + 1) = if F (200 - k) = true then nI (200 - k) else bm F k := rfl
theorem bm_spec (F : Nat → Bool) : ∀ k, k ≤ 200 → (bm F k = -1000000 ∧ ∀ v, 200 - k < v → v ≤ 200 → F v = false) ∨ (∃ x, 200 - k < x ∧ x ≤ 200 ∧ F x = true ∧ bm F k = nI x ∧ ∀ v, 200 - k < v → v < x → F v = false) := by
  intro k
  induction k with
  | zero => intro _; exact Or.inl ⟨rfl, fun v h1 h2 => by omega⟩
  | succ k ih =>
    intro hk
    rw [bm_s]
    by_cases f : F (200 - k) = true
    · rw [if_pos f]
      exact Or.inr ⟨200 - k, by omega, by omega, f, rfl, fun v h1 h2 => by omega⟩
    · rw [if_neg f]
      have f : F (200 - k) = false := by simpa using f
      rcases ih (by omega) with ⟨h1, h2⟩ | ⟨x, h1, h2, h3, h4, h5⟩
      · refine Or.inl ⟨h1, fun v q1 q2 => ?_⟩
        by_cases q : v = 200 - k
        · rw [q]; exact f
        · exact h2 v (by omega) q2
      · refine Or.inr ⟨x, by omega, h2, h3, h4, fun v q1 q2 => ?_⟩
        by_cases q : v = 200 - k
        · rw [q]; exact f
        · exact h5 v (by omega) q2
def cb (F : Nat → Bool) (al : Nat → Nat) : Nat → Int32
  | 0 => -1000000
  | j + 1 => if cb F al j = -1000000 then (if F (al j) = true then nI (al j) else cb F al j) else if cb F al j ≤ nI (al j) then cb F al j else (if F (al j) = true then nI (al j) else cb F al j)
theorem cb_s (F : Nat → Bool) (al : Nat → Nat) (j : Nat) : cb F al (j + 1) = if cb F al j = -1000000 then (if F (al j) = true then nI (al j) else cb F al j) else if cb F al j ≤ nI (al j) then cb F al j else (if F (al j) = true then nI (al j) else cb F al j) := rfl
theorem nI_nN : ∀ k, k ≤ 200 → ¬ nI k = (-1000000 : Int32) := by decide +kernel
theorem cb_spec (F : Nat → Bool) (al : Nat → Nat) : ∀ n, (∀ j, j < n → al j ≤ 200) → (cb F al n = -1000000 ∧ ∀ j, j < n → F (al j) = false) ∨ (∃ i, i < n ∧ F (al i) = true ∧ cb F al n = nI (al i) ∧ ∀ j, j < n → F (al j) = true → al i ≤ al j) := by
  intro n
  induction n with
  | zero => intro _; exact Or.inl ⟨rfl, fun j hj => by omega⟩
  | succ n ih =>
    intro hl
    have an := hl n (by omega)
    rw [cb_s]
    rcases ih (fun j hj => hl j (by omega)) with ⟨h1, h2⟩ | ⟨i, h1, h2, h3, h4⟩
    · rw [if_pos h1]
      by_cases f : F (al n) = true
      · rw [if_pos f]
        refine Or.inr ⟨n, by omega, f, rfl, fun j hj hf => ?_⟩
        by_cases q : j = n
        · rw [q]; exact Nat.le_refl _
        · rw [h2 j (by omega)] at hf; exact absurd hf (by decide)
      · rw [if_neg f]
        refine Or.inl ⟨h1, fun j hj => ?_⟩
        by_cases q : j = n
        · rw [q]; simpa using f
        · exact h2 j (by omega)
    · have ai := hl i (by omega)
      rw [h3, if_neg (nI_nN _ ai)]
      by_cases le : al i ≤ al n
      · rw [if_pos (nI_le le (by omega))]
        refine Or.inr ⟨i, by omega, h2, rfl, fun j hj hf => ?_⟩
        by_cases q : j = n
        · rw [q]; exact le
        · exact h4 j (by omega) hf
      · rw [if_neg (nI_ge (by omega) (by omega))]
        by_cases f : F (al n) = true
        · rw [if_pos f]
          refine Or.inr ⟨n, by omega, f, rfl, fun j hj hf => ?_⟩
          by_cases q : j = n
          · rw [q]; exact Nat.le_refl _
          · have := h4 j (by omega) hf; omega
        · rw [if_neg f]
          refine Or.inr ⟨i, by omega, h2, rfl, fun j hj hf => ?_⟩
          by_cases q : j = n
          · rw [q] at hf; exact absurd hf f
          · exact h4 j (by omega) hf
theorem least_eq {F : Nat → Bool} {al : Nat → Nat} {N : Nat} (hl : ∀ j, j < N → 1 ≤ al j ∧ al j ≤ 200) (hF : ∀ v, 1 ≤ v → v < 200 → F (v + 1) = true → F v = false → ∃ j, j < N ∧ al j = v + 1) : bm F 200 = if F 1 = true then nI 1 else cb F al N := by
  rcases bm_spec F 200 (Nat.le_refl _) with ⟨h1, h2⟩ | ⟨x, h1, h2, h3, h4, h5⟩
  · rw [h1, if_neg (by rw [h2 1 (by omega) (by omega)]; decide)]
    rcases cb_spec F al N (fun j hj => (hl j hj).2) with ⟨c1, c2⟩ | ⟨i, c1, c2, c3, c4⟩
    · exact c1.symm
    · have := hl i c1
      rw [h2 (al i) (by omega) (by omega)] at c2
      exact absurd c2 (by decide)
  · rw [h4]
    by_cases q : x = 1
    · rw [q] at h3
      rw [if_pos h3, q]
    · rw [if_neg (by rw [h5 1 (by omega) (by omega)]; decide)]
      obtain ⟨j, j1, j2⟩ := hF (x - 1) (by omega) (by omega) (by rw [show x - 1 + 1 = x by omega]; exact h3) (h5 (x - 1) (by omega) (by omega))
      have j3 : al j = x := by omega
      rcases cb_spec F al N (fun j hj => (hl j hj).2) with ⟨c1, c2⟩ | ⟨i, c1, c2, c3, c4⟩
      · have := c2 j j1
        rw [j3, h3] at this
        exact absurd this (by decide)
      · have k1 := c4 j j1 (by rw [j3]; exact h3)
        have k2 := hl i c1
        rw [c3]
        by_cases q2 : al i < x
        · rw [h5 (al i) (by omega) q2] at c2
          exact absurd c2 (by decide)
        · rw [show al i = x by omega]
def mk25 (m : Mem) (g : Nat → Int32) : Nat → Mem
  | 0 => m
  | k + 1 => uI m 0 25 (g k)
theorem nI_a1 {k : Nat} (hk : k < 200) : nI (200 - k) + (-1) = nI (200 - (k + 1)) := by
  have e : 200 - k = (200 - (k + 1)) + 1 := by omega
  rw [e, ← nI_m1 (200 - (k + 1)), Int32.sub_eq_add_neg]
theorem op23 : Op23 Rel := by
  intro mc mm h v1
  obtain ⟨hM, w, s, d, hC, hws, hRows, hTape, hMisc, hW, hS, hImg, hTr⟩ := id h
  obtain ⟨e3, b3⟩ := sea_nI hS.2.1 (j := 3) (by decide)
  have b3 : sv (mm.1 4) 3 ≤ 10 := b3
  have hst : mc.1 (w + 6) 2 = nI (sv (mm.1 4) 3) := by rw [hW.2.2.2.2.2.1]; exact e3
  simp only [fX11_leastWater, fX12_leastWater, isWithin_e, in_0_50, bnd_s, lt1_e, km_s, kc_s, rc_s hC, rc_w hC hws.w, kc_w hws.w, rm_s hM, th_1, eq_self, gp_tt, hW.1]
  by_cases h0 : mm.1 0 7 = 0
  · exact ⟨_, _, if_pos h0, if_pos h0, h.thrown⟩
  simp only [if_neg h0]
  by_cases h1 : iw v1 0 50 = 0
  · exact ⟨_, _, if_pos h1, if_pos h1, h.thrown⟩
  simp only [if_neg h1]
  have there : mm.1 0 7 = 1 := by
    rcases hS.1 with q | q
    · exact absurd q h0
    · exact q
  have hal : ∀ j, j < sv (mm.1 4) 3 → 1 ≤ sv (mm.1 4) (20 + 2 * j) ∧ sv (mm.1 4) (20 + 2 * j) ≤ 200 ∧ mm.1 4 (20 + 2 * j) = nI (sv (mm.1 4) (20 + 2 * j)) := fun j hj => by
    obtain ⟨g1, g2⟩ := sea_nI hS.2.1 (j := 20 + 2 * j) (by omega)
    have t : ∀ j, j < 10 → sbL.getD (20 + 2 * j) 0 ≤ 200 := by decide +kernel
    exact ⟨((hS.2.2.2.2.2.1 there).2.2.2.2.2.2.2.1 j hj).1, Nat.le_trans g2 (t j (by omega)), g1⟩
  generalize hN : sv (mm.1 4) 3 = N at *
  have cong : ∀ v r j, j < N → wl (mc.1 (w + 7)) (mc.1 (w + 8)) v v1 r j = wl (fun j => mm.1 4 (20 + 2 * j)) (fun j => mm.1 4 (20 + 2 * j + 1)) v v1 r j := fun v r j hj => by
    obtain ⟨g1, g2⟩ := hW.2.2.2.2.2.2.1 j (by rw [hN]; exact hj)
    unfold wl
    rw [g1, g2, show 21 + 2 * j = 20 + 2 * j + 1 by omega]
  generalize hLV : (fun v : Int32 => nI (sl (wl (fun j => mm.1 4 (20 + 2 * j)) (fun j => mm.1 4 (20 + 2 * j + 1)) v v1) N (ix (wl (fun j => mm.1 4 (20 + 2 * j)) (fun j => mm.1 4 (20 + 2 * j + 1)) v v1) N))) = LV
  have tLV : ∀ v, nI (sl (wl (fun j => mm.1 4 (20 + 2 * j)) (fun j => mm.1 4 (20 + 2 * j + 1)) v v1) N (ix (wl (fun j => mm.1 4 (20 + 2 * j)) (fun j => mm.1 4 (20 + 2 * j + 1)) v v1) N)) = LV v := fun v => congrFun hLV v
  have lc : ∀ v, fX2_leaving (w + 6) v v1 0 mc = some (LV v) := fun v => by
    rw [leaving_c hC hws.w v v1 0 b3 hst, if_pos rfl, sl_c (cong v), ix_c b3 (cong v), tLV]
  generalize hgg : (fun k => nI (ix (wl (fun j => mm.1 4 (20 + 2 * j)) (fun j => mm.1 4 (20 + 2 * j + 1)) (nI (200 - k)) v1) N)) = gg
  have lm : ∀ k, fX12_leaving 0 (nI (200 - k)) v1 (mk25 (uI mm 0 0 0) gg k) = some (LV (nI (200 - k)), mk25 (uI mm 0 0 0) gg (k + 1)) := fun k => by
    have t := congrFun hgg k
    cases k with
    | zero =>
      have := leaving_m (m := uI mm 0 0 0) hM.th (nI (200 - 0)) v1 b3 e3
      rw [show (fun j => (uI mm 0 0 0).1 4 (20 + 2 * j)) = (fun j => mm.1 4 (20 + 2 * j)) from rfl, show (fun j => (uI mm 0 0 0).1 4 (20 + 2 * j + 1)) = (fun j => mm.1 4 (20 + 2 * j + 1)) from rfl, tLV] at this
      show fX12_leaving 0 (nI (200 - 0)) v1 (uI mm 0 0 0) = some (LV (nI (200 - 0)), uI (uI mm 0 0 0) 0 25 (gg 0))
      rw [← t]
      exact this
    | succ k =>
      have := leaving_m (m := uI (uI mm 0 0 0) 0 25 (gg k)) hM (nI (200 - (k + 1))) v1 b3 e3
      rw [show (fun j => (uI (uI mm 0 0 0) 0 25 (gg k)).1 4 (20 + 2 * j)) = (fun j => mm.1 4 (20 + 2 * j)) from rfl, show (fun j => (uI (uI mm 0 0 0) 0 25 (gg k)).1 4 (20 + 2 * j + 1)) = (fun j => mm.1 4 (20 + 2 * j + 1)) from rfl, tLV, uI_uI] at this
      show fX12_leaving 0 (nI (200 - (k + 1))) v1 (uI (uI mm 0 0 0) 0 25 (gg k)) = some (LV (nI (200 - (k + 1))), uI (uI mm 0 0 0) 0 25 (gg (k + 1)))
      rw [← t]
      exact this
  have hm : ∀ k, (mk25 (uI mm 0 0 0) gg k).1 4 = mm.1 4 ∧ (mk25 (uI mm 0 0 0) gg k).2.2 = mm.2.2 ∧ Rel mc (mk25 (uI mm 0 0 0) gg k) := fun k => by
    cases k with
    | zero => exact ⟨rfl, rfl, h.thrown⟩
    | succ k => exact ⟨rfl, rfl, h.scr _⟩
  by_cases hz : N = 0
  · have z1 : mc.1 (w + 6) 2 = 0 := by rw [hst, hz]; rfl
    have z2 : mm.1 4 3 = 0 := by rw [e3, hz]; rfl
    have c2 : fX12_leastWater_39 0 v1 (-1000000) 200 (uI mm 0 0 0) = some ((-1000000 : Int32).toInt64, uI mm 0 0 0) := by
      unfold fX12_leastWater_39
      rw [show ((-1000000 : Int32), (200 : Int32), uI mm 0 0 0) = (fun _ : Nat => ((-1000000 : Int32), (200 : Int32), uI mm 0 0 0)) 0 from rfl, iter_traj (fun _ : Nat => ((-1000000 : Int32), (200 : Int32), uI mm 0 0 0)) 0 ((-1000000 : Int32), uI mm 0 0 0) (by omega) (fun k hk => by omega) ?_, bnd_s]
      simp only [fX12_leastWater_39b, km_s, rm_s hM, eq_self, gp_tt, bnd_s, clL, inL, th_1, z2, if_neg (show ¬ (200 : Int32) ≤ 0 by decide), if_pos (show (0 : Int32) ≤ 0 by decide)]
    rw [c2]
    simp only [fX2_leastWaterForAll, kc_w hws.w, eq_self, gp_tt, lt1_e, z1, if_true, bnd_s]
    exact ⟨_, _, rfl, rfl, h.thrown⟩
  generalize hfl : ((1 : Int32) <<< (nI N &&& 31)) - 1 = fl
  generalize hF : (fun v : Nat => decide (LV (nI v) = fl)) = F
  have tF : ∀ v, F v = true ↔ LV (nI v) = fl := fun v => by rw [← hF]; exact decide_eq_true_iff
  have c2 : fX12_leastWater_39 0 v1 (-1000000) 200 (uI mm 0 0 0) = some ((bm F 200).toInt64, mk25 (uI mm 0 0 0) gg 200) := by
    unfold fX12_leastWater_39
    rw [show ((-1000000 : Int32), (200 : Int32), uI mm 0 0 0) = (fun k => (bm F k, nI (200 - k), mk25 (uI mm 0 0 0) gg k)) 0 from rfl, iter_traj (fun k => (bm F k, nI (200 - k), mk25 (uI mm 0 0 0) gg k)) 200 (bm F 200, mk25 (uI mm 0 0 0) gg 200) (by omega) ?_ ?_, bnd_s]
    · intro k hk
      show fX12_leastWater_39b 0 v1 (bm F k) (nI (200 - k)) (mk25 (uI mm 0 0 0) gg k) = some (Sum.inl (bm F (k + 1), nI (200 - (k + 1)), mk25 (uI mm 0 0 0) gg (k + 1)))
      unfold fX12_leastWater_39b
      rw [if_neg (show ¬ nI (200 - k) ≤ 0 from nI_ge (a := 0) (show 0 < 200 - k by omega) (by omega)), gp_pos km_s.1, (hm k).2.1, (rm_s hM).2.2.2.1, bnd_s, lm k, bnd2_s, (hm k).1, (hm (k + 1)).2.1, (rm_s hM).2.2.2.1, bnd_s, (hm (k + 1)).1]
      simp only [km_s, eq_self, gp_tt, inL, clL, e3, hfl, if_neg (show ¬ nI N ≤ 0 from nI_ge (a := 0) (show 0 < N by omega) (by omega)), fX12_leastWater_76, lt1_e, nI_a1 hk]
      rw [bm_s]
      by_cases q : LV (nI (200 - k)) = fl
      · rw [if_pos q, if_pos ((tF _).mpr q)]
      · rw [if_neg q, if_neg (fun r => q ((tF _).mp r))]
    · show fX12_leastWater_39b 0 v1 (bm F 200) (nI 0) (mk25 (uI mm 0 0 0) gg 200) = _
      unfold fX12_leastWater_39b
      rw [if_pos (show nI 0 ≤ 0 by decide)]
  have c1 : fX2_leastWaterForAll (w + 6) v1 mc = some (if F 1 = true then nI 1 else cb F (fun j => sv (mm.1 4) (20 + 2 * j)) N) := by
    unfold fX2_leastWaterForAll
    rw [gp_pos (kc_w hws.w).2.2.2.2.2.2.1, lt1_e, hst, hfl, if_neg (show ¬ nI N = 0 from fun q => hz (nI_inj1 (b := 0) (by omega) (by omega) q)), lc, bnd_s]
    by_cases q : LV 1 = fl
    · rw [if_pos q, if_pos ((tF 1).mpr q)]
      rfl
    · rw [if_neg q, if_neg (fun r => q ((tF 1).mp r)), lt1_e, lt1_e]
      unfold fX2_leastWaterForAll_38
      rw [show ((-1000000 : Int32), (0 : Int32)) = (fun j => (cb F (fun j => sv (mm.1 4) (20 + 2 * j)) j, nI j)) 0 from rfl, iter_traj (fun j => (cb F (fun j => sv (mm.1 4) (20 + 2 * j)) j, nI j)) N (cb F (fun j => sv (mm.1 4) (20 + 2 * j)) N) (by omega) ?_ ?_, bnd_s]
      · intro j hj
        have ea : mc.1 (w + 7) j = nI (sv (mm.1 4) (20 + 2 * j)) := by rw [(hW.2.2.2.2.2.2.1 j (by rw [hN]; exact hj)).1]; exact (hal j hj).2.2
        simp only [fX2_leastWaterForAll_38b, fX2_leastWaterForAll_64, fX2_leastWaterForAll_69, fX2_leastWaterForAll_101, kc_w hws.w, nc_w hws.w, rc_w hC hws.w, eq_self, gp_tt, hst, if_neg (nI_ge hj (by omega)), bnd_s, lt1_e, inb_nI (show j < 10 by omega) (by decide), nI_clamp (show j < 2 ^ 31 by omega), ea, lc, nI_1, if_true, if_neg (show ¬ (1 : Int32) = 0 by decide)]
        rw [cb_s]
        by_cases q1 : cb F (fun j => sv (mm.1 4) (20 + 2 * j)) j = -1000000
        · rw [if_pos q1, if_pos q1]
          by_cases q2 : LV (nI (sv (mm.1 4) (20 + 2 * j))) = fl
          · rw [if_pos q2, if_pos ((tF _).mpr q2)]
          · rw [if_neg q2, if_neg (fun r => q2 ((tF _).mp r))]
        · rw [if_neg q1, if_neg q1]
          by_cases q3 : cb F (fun j => sv (mm.1 4) (20 + 2 * j)) j ≤ nI (sv (mm.1 4) (20 + 2 * j))
          · rw [if_pos q3, if_pos q3]
          · rw [if_neg q3, if_neg q3]
            by_cases q2 : LV (nI (sv (mm.1 4) (20 + 2 * j))) = fl
            · rw [if_pos q2, if_pos ((tF _).mpr q2)]
            · rw [if_neg q2, if_neg (fun r => q2 ((tF _).mp r))]
      · simp only [fX2_leastWaterForAll_38b, kc_w hws.w, eq_self, gp_tt, hst, if_pos (nI_le (Nat.le_refl N) (by omega))]
  rw [c1, c2, bnd_s, ← least_eq (F := F) (al := fun j => sv (mm.1 4) (20 + 2 * j)) (fun j hj => ⟨(hal j hj).1, (hal j hj).2.1⟩) ?_]
  · exact ⟨_, _, rfl, rfl, (hm 200).2.2⟩
  · intro v g1 g2 f1 f2
    refine Classical.byContradiction fun hne => ?_
    have cc : ∀ r j, j < N → wl (fun j => mm.1 4 (20 + 2 * j)) (fun j => mm.1 4 (20 + 2 * j + 1)) (nI (v + 1)) v1 r j = wl (fun j => mm.1 4 (20 + 2 * j)) (fun j => mm.1 4 (20 + 2 * j + 1)) (nI v) v1 r j := fun r j hj => by
      have q := (hal j hj).2.2
      have q2 := (hal j hj).2.1
      have q3 : ¬ sv (mm.1 4) (20 + 2 * j) = v + 1 := fun e => hne ⟨j, hj, e⟩
      unfold wl
      have : (mm.1 4 (20 + 2 * j) ≤ nI (v + 1)) = (mm.1 4 (20 + 2 * j) ≤ nI v) := by
        rw [q]
        refine propext ⟨fun a => ?_, fun a => ?_⟩
        · have a := (nI_leI (by omega) (by omega)).mp a
          exact nI_le (by omega) (by omega)
        · have a := (nI_leI (by omega) (by omega)).mp a
          exact nI_le (by omega) (by omega)
      simp only [this]
    have e : LV (nI (v + 1)) = LV (nI v) := by
      rw [← tLV, ← tLV, sl_c cc, ix_c b3 cc]
    have f1 := (tF _).mp f1
    rw [e] at f1
    rw [(tF v).mpr f1] at f2
    exact absurd f2 (by decide)
