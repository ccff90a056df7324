theorem ix_c {W V : Nat → Nat → Bool} {N : Nat} (hN : N ≤ 10) (h : ∀ r j, j < N → W r j = V r j) : ix W N = ix V N := by
  obtain ⟨-, a2, a3⟩ := ix_h W hN
  obtain ⟨-, b2, b3⟩ := ix_h V hN
  rcases Nat.lt_trichotomy (ix W N) (ix V N) with q | q | q
  · have := b3 _ q
    rw [← sl_c h, ← sl_c h] at this
    exact absurd a2 this
  · exact q
  · have := a3 _ q
    rw [sl_c h, sl_c h] at this
    exact absurd b2 this
theorem i20 (j : Nat) : (20 : Int32) + (2 : Int32) * nI j = nI (20 + 2 * j) := by rw [show (20 : Int32) = nI 20 from rfl, show (2 : Int32) = nI 2 from rfl, pk_mul, nI_add]
theorem uI_uI (m : Mem) (a k : Nat) (u v : Int32) : uI (uI m a k u) a k v = uI m a k v := by
  unfold uI
  refine Prod.ext ?_ rfl
  funext b j
  show (if b = a ∧ j = k then v else if b = a ∧ j = k then u else m.1 b j) = (if b = a ∧ j = k then v else m.1 b j)
  split <;> rfl
theorem pass_m {m : Mem} {N x : Nat} (hM : RMok m) (v1 v2 : Int32) (hN : N ≤ 10) (h3 : m.1 4 3 = nI N) (hx : x < 1024) : fX12_leaving_39 0 v1 v2 (nI x) (nI x) (nI (pt x)) (nI (pt x)) 0 m = some (.inl (nI (cs (wl (fun j => m.1 4 (20 + 2 * j)) (fun j => m.1 4 (20 + 2 * j + 1)) v1 v2 (pt x)) x N), nI x, nI (pt (cs (wl (fun j => m.1 4 (20 + 2 * j)) (fun j => m.1 4 (20 + 2 * j + 1)) v1 v2 (pt x)) x N)), m)) := by
  generalize hW : wl (fun j => m.1 4 (20 + 2 * j)) (fun j => m.1 4 (20 + 2 * j + 1)) v1 v2 (pt x) = W
  unfold fX12_leaving_39
  rw [show (nI x, nI (pt x), (0 : Int32)) = (fun j => (nI (cs W x j), nI (pt (cs W x j)), nI j)) 0 from rfl, iter_traj (fun j => (nI (cs W x j), nI (pt (cs W x j)), nI j)) N (nI (cs W x N), nI (pt (cs W x N))) (by omega) ?_ ?_, bnd_s]
  · rfl
  · intro j hj
    obtain ⟨c1, c2⟩ := cs_st W hx (show j < 10 by omega)
    have hp := (pto (show j < 10 by omega) (cs_lt W hx j (by omega))).1
    simp only [fX12_leaving_39b, fX12_leaving_97, fX12_leaving_107, km_s, rm_s hM, eq_self, gp_tt, bnd_s, clL, inL, h3, if_neg (nI_ge hj (by omega)), lt1_e, i20, nI_1, inb_nI (show 20 + 2 * j < 206 by omega) (by decide), inb_nI (show 20 + 2 * j + 1 < 206 by omega) (by decide), nI_clamp (show 20 + 2 * j < 2 ^ 31 by omega), nI_clamp (show 20 + 2 * j + 1 < 2 ^ 31 by omega), bt_v, bt_nI (show x < 2 ^ 31 by omega) (show j < 31 by omega), hp]
    by_cases b : bit x j = true
    · simp only [if_pos b, if_neg (show ¬ (1 : Int32) = 0 by decide)]
      rw [c1 b]
    · simp only [if_neg b, if_true]
      by_cases g1 : m.1 4 (20 + 2 * j) ≤ v1
      · have w1 : W j = true := by rw [← hW]; exact wl_1 g1
        rw [if_pos g1, c2 b w1, cs_s, if_pos w1]
      · rw [if_neg g1]
        by_cases g2 : v2 + nI (pt x) < m.1 4 (20 + 2 * j + 1)
        · have w1 : ¬ W j = true := by rw [← hW]; exact wl_2 g1 g2
          rw [if_pos g2, cs_s, if_neg w1]
        · have w1 : W j = true := by rw [← hW]; exact wl_3 g2
          rw [if_neg g2, c2 b w1, cs_s, if_pos w1]
  · simp only [fX12_leaving_39b, km_s, rm_s hM, eq_self, gp_tt, bnd_s, clL, inL, h3, if_pos (nI_le (Nat.le_refl N) (by omega))]
def pv (f : Nat → Nat) : Nat → Int32
  | 0 => -1
  | k + 1 => nI (f k)
theorem nI_m1 (k : Nat) : nI (k + 1) - 1 = nI k := by
  rw [← nI_1]
  exact Int32.add_sub_cancel _ _
theorem leaving_m {m : Mem} {N : Nat} (hM : RMok m) (v1 v2 : Int32) (hN : N ≤ 10) (h3 : m.1 4 3 = nI N) : fX12_leaving 0 v1 v2 m = some (nI (sl (wl (fun j => m.1 4 (20 + 2 * j)) (fun j => m.1 4 (20 + 2 * j + 1)) v1 v2) N (ix (wl (fun j => m.1 4 (20 + 2 * j)) (fun j => m.1 4 (20 + 2 * j + 1)) v1 v2) N)), uI m 0 25 (nI (ix (wl (fun j => m.1 4 (20 + 2 * j)) (fun j => m.1 4 (20 + 2 * j + 1)) v1 v2) N))) := by
  have ps := fun k x hx => pass_m (m := uI m 0 25 (nI k)) (x := x) hM v1 v2 hN h3 hx
  have e4 : ∀ k : Nat, (uI m 0 25 (nI k)).1 4 = m.1 4 := fun k => rfl
  simp only [e4] at ps
  generalize wl (fun j => m.1 4 (20 + 2 * j)) (fun j => m.1 4 (20 + 2 * j + 1)) v1 v2 = W at ps
  obtain ⟨i1, i2, i3⟩ := ix_h W hN
  generalize ix W N = i at i1 i2 i3
  have lt := sl_lt W hN
  have ne : ∀ k, k < i → ¬ nI (sl W N (k + 1)) = nI (sl W N k) := fun k hk q => i3 k hk (nI_inj1 (by have := lt (k + 1); omega) (by have := lt k; omega) q)
  unfold fX12_leaving
  rw [lt1_e, lt1_e, lt1_e, gp_pos km_s.1, lt1_e]
  unfold fX12_leaving_13
  rw [show ((0 : Int32), (-1 : Int32), (0 : Int32), uI m 0 25 (-1)) = (fun k => (nI (sl W N k), pv (sl W N) k, nI (pt (sl W N k)), uI m 0 25 (nI k - 1))) 0 from (by show ((0 : Int32), (-1 : Int32), (0 : Int32), uI m 0 25 (-1)) = (nI 0, (-1 : Int32), nI (pt 0), uI m 0 25 (nI 0 - 1)); rw [show nI 0 - 1 = (-1 : Int32) by decide]; rfl), iter_traj (fun k => (nI (sl W N k), pv (sl W N) k, nI (pt (sl W N k)), uI m 0 25 (nI k - 1))) (i + 1) (nI (sl W N (i + 1)), uI m 0 25 (nI (i + 1) - 1)) (by omega) ?_ ?_, bnd_s]
  · rw [i2, nI_m1]
  · intro k hk
    show fX12_leaving_13b 0 v1 v2 (nI (sl W N k)) (pv (sl W N) k) (nI (pt (sl W N k))) (uI m 0 25 (nI k - 1)) = _
    have g : ¬ nI (sl W N k) = pv (sl W N) k := by
      cases k with
      | zero => exact (by decide : ¬ nI 0 = (-1 : Int32))
      | succ k => exact ne k (by omega)
    unfold fX12_leaving_13b
    rw [if_neg g, gp_pos km_s.1, lt1_e, lt1_e, uI_uI, show (uI m 0 25 (nI k - 1)).1 0 25 = nI k - 1 from rfl, show nI k - 1 + 1 = nI k from Int32.sub_add_cancel _ _, ps k _ (lt k), ← sl_s]
    show _ = some (Sum.inl (nI (sl W N (k + 1)), nI (sl W N k), nI (pt (sl W N (k + 1))), uI m 0 25 (nI (k + 1) - 1)))
    rw [nI_m1]
  · show fX12_leaving_13b 0 v1 v2 (nI (sl W N (i + 1))) (nI (sl W N i)) (nI (pt (sl W N (i + 1)))) (uI m 0 25 (nI (i + 1) - 1)) = _
    unfold fX12_leaving_13b
    rw [if_pos (by rw [i2])]
theorem Rel.scr {mc mm : Mem} (h : Rel mc mm) (v : Int32) : Rel mc (uI (uI mm 0 0 0) 0 25 v) := h.mfree rfl ⟨⟨rfl, rfl, rfl, rfl, rfl, rfl, rfl, rfl, rfl, rfl⟩, rfl, rfl, rfl, rfl, rfl⟩
theorem op22 : Op22 Rel := by
  intro mc mm h v1 v2 v3
  obtain ⟨hM, w, s, d, hC, hws, hRows, hTape, hMisc, hW, hS, hImg, hTr⟩ := id h
  obtain ⟨e3, b3⟩ := sea_nI hS.2.1 (j := 3) (by decide)
  have b3 : sv (mm.1 4) 3 ≤ 10 := b3
  have hst : mc.1 (w + 6) 2 = nI (sv (mm.1 4) 3) := by rw [hW.2.2.2.2.2.1]; exact e3
  simp only [fX11_leave, fX12_leave, isWithin_e, in_0_200, in_0_50, in_0_1, bnd_s, lt1_e, km_s, kc_s, rc_s hC, rc_w hC hws.w, kc_w hws.w, rm_s hM, th_1, eq_self, gp_tt, hW.1]
  by_cases h0 : mm.1 0 7 = 0
  · exact ⟨_, _, if_pos h0, if_pos h0, h.thrown⟩
  simp only [if_neg h0]
  by_cases h1 : iw v1 0 200 = 0
  · exact ⟨_, _, if_pos h1, if_pos h1, h.thrown⟩
  simp only [if_neg h1]
  by_cases h2 : iw v2 0 50 = 0
  · exact ⟨_, _, if_pos h2, if_pos h2, h.thrown⟩
  simp only [if_neg h2]
  by_cases h3 : iw v3 0 1 = 0
  · exact ⟨_, _, if_pos h3, if_pos h3, h.thrown⟩
  simp only [if_neg h3]
  have cong : ∀ r j, j < sv (mm.1 4) 3 → wl (mc.1 (w + 7)) (mc.1 (w + 8)) v1 v2 r j = wl (fun j => (uI mm 0 0 0).1 4 (20 + 2 * j)) (fun j => (uI mm 0 0 0).1 4 (20 + 2 * j + 1)) v1 v2 r j := fun r j hj => by
    obtain ⟨g1, g2⟩ := hW.2.2.2.2.2.2.1 j hj
    unfold wl
    rw [g1, g2, show 21 + 2 * j = 20 + 2 * j + 1 by omega]
    rfl
  rw [leaving_c hC hws.w v1 v2 v3 b3 hst, leaving_m hM.th v1 v2 b3 e3, bnd_s, bnd2_s, sl_c cong, ix_c b3 cong]
  by_cases h4 : v3 = 0
  · rw [if_pos h4, if_pos h4]
    exact ⟨_, _, rfl, rfl, h.scr _⟩
  · rw [if_neg h4, if_neg h4]
    exact ⟨_, _, rfl, rfl, h.scr _⟩
