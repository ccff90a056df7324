theorem a40 (r k : Nat) : (40 : Int32) * nI r + nI k = nI (40 * r + k) := by rw [show (40 : Int32) = nI 40 from rfl, pk_mul, nI_add]
theorem begin_c {m : Mem} {w s r : Nat} {d : Bool} (hC : RCok m w s d) (hr : r < 8) (v2 v3 : Int32) : fX6_begin (45 + 2 * r) v2 v3 m = some (wi (uI (uI m (45 + 2 * r) 1 v2) (45 + 2 * r) 2 v3) (46 + 2 * r) 0 (fun _ => 0) 40) := by
  obtain ⟨k1, k2, k3⟩ := kc_r r hr
  obtain ⟨r1, r2⟩ := rc_r hC r hr
  unfold fX6_begin
  rw [gp_pos k1, lt1_e, lt1_e, lt1_e]
  unfold fX6_begin_12
  rw [show ((0 : Int32), uI (uI m (45 + 2 * r) 1 v2) (45 + 2 * r) 2 v3) = (fun j => (nI j, wi (uI (uI m (45 + 2 * r) 1 v2) (45 + 2 * r) 2 v3) (46 + 2 * r) 0 (fun _ => 0) j)) 0 from rfl, iter_traj (fun j => (nI j, wi (uI (uI m (45 + 2 * r) 1 v2) (45 + 2 * r) 2 v3) (46 + 2 * r) 0 (fun _ => 0) j)) 40 (wi (uI (uI m (45 + 2 * r) 1 v2) (45 + 2 * r) 2 v3) (46 + 2 * r) 0 (fun _ => 0) 40) (by omega) ?_ ?_, bnd_s]
  · intro j hj
    have z : (wi (uI (uI m (45 + 2 * r) 1 v2) (45 + 2 * r) 2 v3) (46 + 2 * r) 0 (fun _ => 0) j).2.2 (45 + 2 * r) 0 = some (46 + 2 * r) := by rw [wi_2]; exact r2
    simp only [fX6_begin_12b, k1, k2, k3, z, eq_self, gp_tt, bnd_s, lt1_e, if_neg (show ¬ (40 : Int32) ≤ nI j from nI_ge (b := 40) hj (by decide)), inb_nI hj (by decide), nI_clamp (show j < 2 ^ 31 by omega), nI_1, wi_s, Nat.zero_add]
  · show fX6_begin_12b (45 + 2 * r) (nI 40) _ = _
    unfold fX6_begin_12b
    rw [if_pos (by decide)]
theorem clear_m {m : Mem} {r : Nat} (hM : RMok m) (hr : r < 8) (v3 : Int32) : fX12_row_66 0 (nI r) v3 0 m = some (v3.toInt64, wi m 3 (40 * r) (fun _ => 0) 40) := by
  unfold fX12_row_66
  rw [show ((0 : Int32), m) = (fun j => (nI j, wi m 3 (40 * r) (fun _ => 0) j)) 0 from rfl, iter_traj (fun j => (nI j, wi m 3 (40 * r) (fun _ => 0) j)) 40 (wi m 3 (40 * r) (fun _ => 0) 40) (by omega) ?_ ?_, bnd_s]
  · intro j hj
    have z : (wi m 3 (40 * r) (fun _ => 0) j).2.2 0 4 = some 3 := by rw [wi_2]; exact (rm_s hM).2.2.1
    simp only [fX12_row_66b, km_s, z, eq_self, gp_tt, bnd_s, lt1_e, if_neg (show ¬ (40 : Int32) ≤ nI j from nI_ge (b := 40) hj (by decide)), a40, inb_nI (show 40 * r + j < 320 by omega) (by decide), nI_clamp (show 40 * r + j < 2 ^ 31 by omega), nI_1, wi_s]
  · show fX12_row_66b 0 (nI r) v3 (nI 40) _ = _
    unfold fX12_row_66b
    rw [if_pos (by decide)]
theorem le40 {v : Int32} (h : v ≤ 40) (h2 : 0 ≤ v) : ∃ n, n ≤ 40 ∧ v = nI n := by
  have q : ¬ iw v 0 40 = 0 := by
    rw [iw_0]
    intro q
    rcases q with q | q
    · exact absurd h2 (Int32.not_le.mpr q)
    · exact absurd h (Int32.not_le.mpr q)
  exact iw_nI q (n := 40) rfl
theorem op0 : Op0 Rel := by
  intro mc mm h v1 v2 v3
  obtain ⟨hM, w, s, d, hC, hws, hRows, hTape, hMisc, hW, hS, hImg, hTr⟩ := id h
  simp only [fX11_row, fX12_row, isWithin_e, isRow_e, in_0_2, bnd_s, lt1_e, km_s, kc_s, rc_s hC, rm_s hM, th_1, uI_2, eq_self, gp_tt]
  by_cases h1 : iw v1 0 7 = 0
  · exact ⟨_, _, _, if_pos h1, if_pos h1, h.thrown⟩
  simp only [if_neg h1]
  obtain ⟨r, hr, rfl⟩ := iw_nI h1 (n := 7) rfl
  have hr : r < 8 := by omega
  obtain ⟨k1, k2, k3⟩ := kc_r r hr
  obtain ⟨r1, r2⟩ := rc_r hC r hr
  by_cases h2 : iw v2 0 2 = 0
  · exact ⟨_, _, _, if_pos h2, if_pos h2, h.thrown⟩
  simp only [if_neg h2]
  obtain ⟨l, hl, rfl⟩ := iw_nI h2 (n := 2) rfl
  by_cases h3 : ¬ v3 ≤ 40
  · exact ⟨_, _, _, if_neg h3, if_neg h3, h.thrown⟩
  have h3 : v3 ≤ 40 := Classical.not_not.mp h3
  simp only [if_pos h3]
  by_cases h4 : ¬ 0 ≤ v3
  · simp only [if_neg h4, found_e, finding_e, bnd2_s]
    exact ⟨_, _, _, rfl, rfl, h.find rfl ⟨rfl, rfl, rfl, rfl, rfl, rfl, rfl, rfl, rfl, rfl⟩ ⟨rfl, rfl, rfl, rfl, rfl⟩⟩
  have h4 : 0 ≤ v3 := Classical.not_not.mp h4
  simp only [if_pos h4, inb_nI hr (by decide), nI_clamp (show r < 2 ^ 31 by omega), gp_tt, eq_self, r1, k1, bnd_s, begin_c hC hr, fine_e, bnd2_s]
  rw [clear_m (m := uI (uI (uI (uI mm 0 0 0) 0 1 0) 1 r (nI l)) 2 r v3) hM hr v3]
  obtain ⟨n, hn, rfl⟩ := le40 h3 h4
  refine ⟨_, _, _, rfl, rfl, rel_row (r := r) h hr ?_ ?_ (fun a ha hb hc => ?_) ?_ ?_ ⟨?_, ?_, ?_, ?_, ?_, ?_, ?_⟩ ⟨?_, ?_, ?_, ?_⟩ (fun x hx => ⟨?_, ?_, fun j hj => ?_⟩) ?_⟩
  · rw [uI_2, wi_2]; rfl
  · rw [wi_2]; rfl
  · rw [uI_o ha, wi_o 40 hc, uI_o hb, uI_o hb]
  · rw [uI_1, if_neg (by decide), wi_o 40 (by omega), uI_o (by omega), uI_o (by omega)]
  · rw [uI_1, if_pos ⟨rfl, rfl⟩, wi_o 40 (by omega)]; rfl
  · rw [wi_o 40 (by omega)]; rfl
  · rw [wi_o 40 (by omega)]; rfl
  · rw [wi_o 40 (by omega)]; rfl
  · rw [wi_o 40 (by omega)]; rfl
  · rw [wi_o 40 (by omega)]; rfl
  · rw [wi_o 40 (by omega)]; rfl
  · rw [wi_o 40 (by omega)]; rfl
  · rw [wi_o 40 (by omega)]; rfl
  · rw [wi_o 40 (by omega)]; rfl
  · rw [wi_o 40 (by omega)]; rfl
  · rw [wi_o 40 (by omega)]; rfl
  · rw [wi_o 40 (by omega), uI_o (by omega), uI_1, if_neg (fun q => hx q.2)]; rfl
  · rw [wi_o 40 (by omega), uI_1, if_neg (fun q => hx q.2)]; rfl
  · rw [wi_out 40 (by omega)]; rfl
  · have m1 : (wi (uI (uI (uI (uI mm 0 0 0) 0 1 0) 1 r (nI l)) 2 r (nI n)) 3 (40 * r) (fun _ => 0) 40).1 1 r = nI l := by rw [wi_o 40 (by omega), uI_o (by omega), uI_1, if_pos ⟨rfl, rfl⟩]
    have m2 : (wi (uI (uI (uI (uI mm 0 0 0) 0 1 0) 1 r (nI l)) 2 r (nI n)) 3 (40 * r) (fun _ => 0) 40).1 2 r = nI n := by rw [wi_o 40 (by omega), uI_1, if_pos ⟨rfl, rfl⟩]
    refine ⟨?_, Or.inr ⟨l, by omega, m1, ?_, ⟨n, hn, m2⟩, fun j hj => ?_⟩⟩
    · rw [m1, uI_o (by omega), wi_o 40 (by omega), uI_1, if_neg (by omega), uI_1, if_pos ⟨rfl, rfl⟩]
    · rw [m2, uI_o (by omega), wi_o 40 (by omega), uI_1, if_pos ⟨rfl, rfl⟩]
    · have e := wi_in (m := uI (uI mc (45 + 2 * r) 1 (nI l)) (45 + 2 * r) 2 (nI n)) (q := 46 + 2 * r) (o := 0) (f := fun _ => 0) 40 hj
      rw [Nat.zero_add] at e
      rw [wi_in 40 hj, uI_o (by omega), e]
