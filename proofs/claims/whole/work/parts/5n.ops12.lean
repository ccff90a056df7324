def wi (m : Mem) (q o : Nat) (f : Nat → Int32) : Nat → Mem
  | 0 => m
  | j + 1 => uI (wi m q o f j) q (o + j) (f j)
theorem wi_s (m : Mem) (q o : Nat) (f : Nat → Int32) (j : Nat) : wi m q o f (j + 1) = uI (wi m q o f j) q (o + j) (f j) := rfl
theorem wi_2 (m : Mem) (q o : Nat) (f : Nat → Int32) (n : Nat) : (wi m q o f n).2 = m.2 := by
  induction n with
  | zero => rfl
  | succ n ih => rw [wi_s, uI_2, ih]
theorem wi_o {m : Mem} {q o : Nat} {f : Nat → Int32} (n : Nat) {b : Nat} (h : b ≠ q) : (wi m q o f n).1 b = m.1 b := by
  induction n with
  | zero => rfl
  | succ n ih => rw [wi_s, uI_o h, ih]
theorem wi_out {m : Mem} {q o : Nat} {f : Nat → Int32} (n : Nat) {k : Nat} (h : k < o ∨ o + n ≤ k) : (wi m q o f n).1 q k = m.1 q k := by
  induction n with
  | zero => rfl
  | succ n ih => rw [wi_s, uI_1, if_neg (by omega), ih (by omega)]
theorem wi_in {m : Mem} {q o : Nat} {f : Nat → Int32} (n : Nat) {j : Nat} (h : j < n) : (wi m q o f n).1 q (o + j) = f j := by
  induction n with
  | zero => omega
  | succ n ih =>
    rw [wi_s, uI_1]
    by_cases e : j = n
    · rw [if_pos ⟨rfl, by omega⟩, e]
    · rw [if_neg (by omega), ih (by omega)]
/-- one row changes, and the finding -/
theorem rel_row {mc mm mc2 mm2 : Mem} {r : Nat} (h : Rel mc mm) (hr : r < 8) (h1 : mc2.2.2 = mc.2.2) (h2 : mm2.2.2 = mm.2.2) (h3 : ∀ a, a ≠ 0 → a ≠ 45 + 2 * r → a ≠ 46 + 2 * r → mc2.1 a = mc.1 a) (h4 : mc2.1 0 8 = mc.1 0 8) (h5 : mc2.1 0 9 = mm2.1 0 1) (h6 : mm2.1 4 = mm.1 4 ∧ mm2.1 6 = mm.1 6 ∧ mm2.1 7 = mm.1 7 ∧ mm2.1 13 = mm.1 13 ∧ mm2.1 14 = mm.1 14 ∧ mm2.1 15 = mm.1 15 ∧ mm2.1 16 = mm.1 16) (h7 : mm2.1 0 7 = mm.1 0 7 ∧ mm2.1 0 10 = mm.1 0 10 ∧ mm2.1 0 11 = mm.1 0 11 ∧ mm2.1 0 30 = mm.1 0 30) (h8 : ∀ x, x ≠ r → mm2.1 1 x = mm.1 1 x ∧ mm2.1 2 x = mm.1 2 x ∧ ∀ j, j < 40 → mm2.1 3 (40 * x + j) = mm.1 3 (40 * x + j)) (h9 : RowR mc2.1 mm2.1 r) : Rel mc2 mm2 := by
  obtain ⟨a1, w, s, d, a2, a3, a4, a5, a6, a7, a8, a9, a10⟩ := h
  obtain ⟨e4, e6, e7, e13, e14, e15, e16⟩ := h6
  obtain ⟨f7, f10, f11, f30⟩ := h7
  have hw : w = 15 ∨ w = 30 := by rcases a3 with ⟨q, -⟩ | ⟨q, -⟩ <;> simp [q]
  refine ⟨fun k hk => by rw [h2]; exact a1 k hk, w, s, d, fun a ha k hk => by rw [h1]; exact a2 a ha k hk, a3, ?_, a5.c (by rw [h3 2 (by omega) (by omega) (by omega)]) (h3 3 (by omega) (by omega) (by omega)) f10 e7, ⟨by rw [h4, f11]; exact a6.1, h5⟩, ?_, ?_, fun k hk => (a9 k hk).c (fun a q1 q2 => h3 a (by omega) (by omega) (by omega)) (by rw [e13]) e14 e15 (fun q => by rw [f7]; exact q), a10.c (by rw [h3 13 (by omega) (by omega) (by omega)]) (h3 14 (by omega) (by omega) (by omega)) f30 e16⟩
  · intro x hx
    by_cases e : x = r
    · rw [e]; exact h9
    · have := a4 x hx
      obtain ⟨g1, g2, g3⟩ := h8 x e
      unfold RowR at this ⊢
      rw [h3 (45 + 2 * x) (by omega) (by omega) (by omega), h3 (46 + 2 * x) (by omega) (by omega) (by omega), g1, g2]
      obtain ⟨b1, b2⟩ := this
      refine ⟨b1, ?_⟩
      rcases b2 with b2 | ⟨l, c1, c2, c3, c4, c5⟩
      · exact Or.inl b2
      · exact Or.inr ⟨l, c1, c2, c3, c4, fun j hj => by rw [g3 j hj]; exact c5 j hj⟩
  · rw [e4, e6, f7]; exact a7.c (fun a q1 q2 => h3 a (by omega) (by omega) (by omega))
  · rw [e4, e6, f7]; exact a8
theorem op3 : Op3 Rel := by
  intro mc mm h v1
  obtain ⟨hM, w, s, d, hC, hws, hRows, hTape, hMisc, hW, hS, hImg, hTr⟩ := id h
  simp only [fX11_drop, fX12_drop, isWithin_e, isRow_e, bnd_s, lt1_e, km_s, kc_s, rc_s hC, rm_s hM, th_1, uI_2, eq_self, gp_tt]
  by_cases h1 : iw v1 0 7 = 0
  · exact ⟨_, _, _, if_pos h1, if_pos h1, h.thrown⟩
  simp only [if_neg h1]
  obtain ⟨r, hr, rfl⟩ := iw_nI h1 (n := 7) rfl
  have hr : r < 8 := by omega
  obtain ⟨k1, k2, k3⟩ := kc_r r hr
  obtain ⟨r1, r2⟩ := rc_r hC r hr
  obtain ⟨p1, p2⟩ := hRows r hr
  simp only [inb_nI hr (by decide), nI_clamp (show r < 2 ^ 31 by omega), gp_tt, eq_self, r1, k1, bnd_s, fX6_isMissing, p1]
  rcases p2 with p2 | ⟨l, q1, q2, q3, q4, q5⟩
  · have z : (uI (uI mm 0 0 0) 0 1 0).1 1 r = -1 := p2
    simp only [p2, z, if_true, if_neg (show ¬ (0 : Int32) ≤ -1 by decide), if_neg (show ¬ (1 : Int32) = 0 by decide), found_e, finding_e, bnd_s, bnd2_s]
    exact ⟨_, _, _, rfl, rfl, h.find rfl ⟨rfl, rfl, rfl, rfl, rfl, rfl, rfl, rfl, rfl, rfl⟩ ⟨rfl, rfl, rfl, rfl, rfl⟩⟩
  · have z : (uI (uI mm 0 0 0) 0 1 0).1 1 r = nI l := q2
    have n1 : ¬ nI l = (-1 : Int32) := by
      rcases (by omega : l = 0 ∨ l = 1 ∨ l = 2) with rfl | rfl | rfl <;> decide
    simp only [q2, z, if_neg n1, if_pos (show (0 : Int32) ≤ nI l from nI_le (a := 0) (by omega) (by omega)), if_true, fX6_vanish, k1, eq_self, gp_tt, lt1_e, fine_e, bnd_s, bnd2_s, q3]
    refine ⟨_, _, _, rfl, rfl, rel_row (r := r) h hr rfl rfl (fun a ha hb hc => ?_) (by rw [uI_1, if_neg (by decide), uI_o (by omega), uI_o (by omega)]) rfl ⟨rfl, rfl, rfl, rfl, rfl, rfl, rfl⟩ ⟨rfl, rfl, rfl, rfl⟩ (fun x hx => ⟨?_, rfl, fun j hj => rfl⟩) ?_⟩
    · rw [uI_o ha, uI_o hb, uI_o hb]
    · rw [uI_1, if_neg (fun q => hx q.2)]
      rfl
    · have u1 : (uI (uI (uI mc (45 + 2 * r) 1 (-1)) (45 + 2 * r) 2 0) 0 9 0).1 (45 + 2 * r) 1 = -1 := by
        rw [uI_o (by omega), uI_1, if_neg (by omega), uI_1, if_pos ⟨rfl, rfl⟩]
      have u2 : (uI (uI (uI mm 0 0 0) 0 1 0) 1 r (-1)).1 1 r = -1 := by rw [uI_1, if_pos ⟨rfl, rfl⟩]
      exact ⟨by rw [u1, u2], Or.inl u2⟩
