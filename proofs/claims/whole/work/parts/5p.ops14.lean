theorem holds1_c {m : Mem} {r : Nat} (hr : r < 8) (v : Int32) : fX6_holds (45 + 2 * r) v 1 m = some (iw v 0 (m.1 (45 + 2 * r) 2 - 1)) := by
  unfold fX6_holds iw
  by_cases q : v < 0
  · rw [if_pos q, if_pos q]
  · rw [if_neg q, if_neg q, if_neg (by decide), gp_pos (kc_r r hr).1]
    split <;> rfl
def kv (l v : Int32) : Int32 := if l = 0 then v.toInt8.toInt32 else if l = 1 then v.toInt16.toInt32 else v
theorem write_c {m : Mem} {w s r k : Nat} {d : Bool} (hC : RCok m w s d) (hr : r < 8) (hk : k < 40) (v : Int32) : fX6_write (45 + 2 * r) (nI k) v m = some (kv (m.1 (45 + 2 * r) 1) v, uI m (46 + 2 * r) k (kv (m.1 (45 + 2 * r) 1) v)) := by
  obtain ⟨k1, k2, k3⟩ := kc_r r hr
  obtain ⟨r1, r2⟩ := rc_r hC r hr
  simp only [fX6_write, fX6_write_44, k1, k2, k3, r2, eq_self, gp_tt, bnd_s, lt1_e, uI_2, inb_nI hk (by decide), nI_clamp (show k < 2 ^ 31 by omega), uI_1, and_self, if_true]
  unfold kv
  by_cases q : m.1 (45 + 2 * r) 1 = 0
  · simp only [if_pos q]
  · by_cases q2 : m.1 (45 + 2 * r) 1 = 1
    · simp only [if_neg q, if_pos q2]
    · simp only [if_neg q, if_neg q2]
theorem op1 : Op1 Rel := by
  intro mc mm h v1 v2 v3
  obtain ⟨hM, w, s, d, hC, hws, hRows, hTape, hMisc, hW, hS, hImg, hTr⟩ := id h
  simp only [fX11_set, fX12_set, isWithin_e, isRow_e, in_lo0, bnd_s, lt1_e, km_s, kc_s, rc_s hC, rm_s hM, th_1, uI_2, eq_self, gp_tt]
  by_cases h1 : iw v1 0 7 = 0
  · exact ⟨_, _, _, if_pos h1, if_pos h1, h.thrown⟩
  simp only [if_neg h1]
  obtain ⟨r, hr, rfl⟩ := iw_nI h1 (n := 7) rfl
  have hr : r < 8 := by omega
  obtain ⟨k1, k2, k3⟩ := kc_r r hr
  obtain ⟨r1, r2⟩ := rc_r hC r hr
  obtain ⟨p1, p2⟩ := hRows r hr
  simp only [inb_nI hr (by decide), nI_clamp (show r < 2 ^ 31 by omega), gp_tt, eq_self, r1, k1, bnd_s, fX6_isMissing, p1]
  rcases p2 with p2 | ⟨l, q1, q2, q3, q4, q5⟩
  · have z : (uI (uI mm 0 0 0) 0 1 0).1 1 r = -1 := p2
    simp only [p2, z, if_true, if_neg (show ¬ (0 : Int32) ≤ -1 by decide), if_neg (show ¬ (1 : Int32) = 0 by decide), found_e, finding_e, bnd_s, bnd2_s]
    exact ⟨_, _, _, rfl, rfl, h.find rfl ⟨rfl, rfl, rfl, rfl, rfl, rfl, rfl, rfl, rfl, rfl⟩ ⟨rfl, rfl, rfl, rfl, rfl⟩⟩
  · have z : (uI (uI mm 0 0 0) 0 1 0).1 1 r = nI l := q2
    have z2 : (uI (uI mm 0 0 0) 0 1 0).1 2 r = mm.1 2 r := rfl
    have n1 : ¬ nI l = (-1 : Int32) := by
      rcases (by omega : l = 0 ∨ l = 1 ∨ l = 2) with rfl | rfl | rfl <;> decide
    obtain ⟨n, hn, en⟩ := q4
    simp only [q2, z, z2, if_neg n1, if_pos (show (0 : Int32) ≤ nI l from nI_le (a := 0) (by omega) (by omega)), if_true, holds1_c hr, q3, bnd_s, en]
    by_cases h2 : iw v2 0 (nI n - 1) = 0
    · simp only [if_pos h2, found_e, finding_e, bnd2_s]
      exact ⟨_, _, _, rfl, rfl, h.find rfl ⟨rfl, rfl, rfl, rfl, rfl, rfl, rfl, rfl, rfl, rfl⟩ ⟨rfl, rfl, rfl, rfl, rfl⟩⟩
    simp only [if_neg h2]
    obtain ⟨k, hk, rfl⟩ := iw_lt (by omega) h2
    have hm : ∀ v, fX12_set_100 0 (nI r) (nI k) 3 (nI (40 * r + k)) v (uI (uI mm 0 0 0) 0 1 0) = some (v.toInt64, uI (uI (uI mm 0 0 0) 0 1 0) 3 (40 * r + k) v) := fun v => by
      simp only [fX12_set_100, km_s, rm_s hM, th_1, uI_2, eq_self, gp_tt, bnd_s, lt1_e, a40, inb_nI (show 40 * r + k < 320 by omega) (by decide), nI_clamp (show 40 * r + k < 2 ^ 31 by omega), uI_1, and_self, if_true]
    rw [write_c hC hr (by omega) v3, p1, q2, a40, hm, hm, hm]
    have fin : Rel (uI (uI mc (46 + 2 * r) k (kv (nI l) v3)) 0 9 0) (uI (uI (uI mm 0 0 0) 0 1 0) 3 (40 * r + k) (kv (nI l) v3)) := by
      refine rel_row (r := r) h hr rfl rfl (fun a ha hb hc => ?_) ?_ rfl ⟨rfl, rfl, rfl, rfl, rfl, rfl, rfl⟩ ⟨rfl, rfl, rfl, rfl⟩ (fun x hx => ⟨rfl, rfl, fun j hj => ?_⟩) ?_
      · rw [uI_o ha, uI_o hc]
      · rw [uI_1, if_neg (by decide), uI_o (by omega)]
      · rw [uI_1, if_neg (by omega)]; rfl
      · refine ⟨?_, Or.inr ⟨l, q1, q2, ?_, ⟨n, hn, en⟩, fun j hj => ?_⟩⟩
        · rw [uI_o (by omega), uI_o (by omega)]; exact p1
        · rw [uI_o (by omega), uI_o (by omega)]; exact q3
        · rw [uI_o (by omega), uI_1, uI_1]
          by_cases e : j = k
          · rw [if_pos ⟨rfl, e⟩, if_pos ⟨rfl, by omega⟩]
          · rw [if_neg (by omega), if_neg (by omega)]; exact q5 j hj
    simp only [bnd2_s, fine_e]
    unfold kv at fin ⊢
    rcases (by omega : l = 0 ∨ l = 1 ∨ l = 2) with rfl | rfl | rfl
    · exact ⟨_, _, _, rfl, rfl, fin⟩
    · exact ⟨_, _, _, rfl, rfl, fin⟩
    · exact ⟨_, _, _, rfl, rfl, fin⟩
