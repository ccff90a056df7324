theorem byte_w (w : Int64) {i : Nat} (hi : i < 8) : ∃ k, k < 256 ∧ ((w >>> (((8 : Int32) * nI i).toInt64 &&& 63)) &&& (255 : Int64)).toInt32 = nI k ∧ ((w.toUInt64 >>> (((8 : Int32) * nI i).toInt64.toUInt64 &&& Int64.toUInt64 63)).toInt64).toInt32.toInt8 = (nI k).toInt8 := by
  have e1 : ∀ i, i < 8 → ((((8 : Int32) * nI i).toInt64.toUInt64 &&& Int64.toUInt64 63).toBitVec % 64).toNat = 8 * i := by decide +kernel
  have e2 : ∀ i, i < 8 → ((((8 : Int32) * nI i).toInt64 &&& 63).toBitVec.smod 64).toNat = 8 * i := by decide +kernel
  have e1 := e1 i hi
  have e2 := e2 i hi
  generalize (((8 : Int32) * nI i).toInt64 &&& 63) = s2 at e2 ⊢
  generalize (((8 : Int32) * nI i).toInt64.toUInt64 &&& Int64.toUInt64 63) = s1 at e1 ⊢
  have hB : ((w >>> s2) &&& (255 : Int64)).toInt32.toBitVec = BitVec.setWidth 32 ((w.toBitVec.sshiftRight (8 * i)) &&& 255#64) := by
    rw [Int64.toBitVec_toInt32, Int64.toBitVec_and, Int64.toBitVec_shiftRight, BitVec.sshiftRight_eq', e2]
    rw [BitVec.signExtend_eq_setWidth_of_le _ (by decide)]
    rfl
  have hA : (w.toUInt64 >>> s1).toInt64.toInt32.toBitVec = BitVec.setWidth 32 (w.toBitVec >>> (8 * i)) := by
    rw [Int64.toBitVec_toInt32, UInt64.toBitVec_toInt64, UInt64.toBitVec_shiftRight, BitVec.ushiftRight_eq', e1]
    rw [BitVec.signExtend_eq_setWidth_of_le _ (by decide)]
    rfl
  generalize ((w >>> s2) &&& (255 : Int64)).toInt32 = B at hB ⊢
  generalize (w.toUInt64 >>> s1).toInt64.toInt32 = A at hA ⊢
  have hk : B.toBitVec.toNat < 256 := by
    rw [hB, BitVec.toNat_setWidth, BitVec.toNat_and]
    have : (w.toBitVec.sshiftRight (8 * i)).toNat &&& (255#64).toNat ≤ 255 := Nat.and_le_right
    omega
  have hB2 : B = nI B.toBitVec.toNat := by
    apply Int32.toBitVec_inj.mp
    show _ = BitVec.ofNat 32 _
    rw [BitVec.ofNat_toNat, BitVec.setWidth_eq]
  refine ⟨B.toBitVec.toNat, hk, hB2, ?_⟩
  rw [← hB2]
  apply Int8.toBitVec_inj.mp
  rw [Int32.toBitVec_toInt8, Int32.toBitVec_toInt8, hA, hB, BitVec.signExtend_eq_setWidth_of_le _ (by decide), BitVec.signExtend_eq_setWidth_of_le _ (by decide)]
  apply BitVec.eq_of_getLsbD_eq
  intro j hj
  have h255 : ∀ j, j < 8 → (255#64).getLsbD j = true := by decide
  have hj2 : j < 32 := by omega
  have hj3 : j < 64 := by omega
  have hj4 : 8 * i + j < 64 := by omega
  simp only [BitVec.getLsbD_setWidth, BitVec.getLsbD_and, BitVec.getLsbD_ushiftRight, BitVec.getLsbD_sshiftRight, h255 j hj, hj, hj2, hj4, decide_true, Bool.true_and, Bool.and_true, if_true]
  simp [hj3]
/-- a loop that writes behind a length -/
def ap (m : Mem) (q a c L : Nat) (f : Nat → Int32) : Nat → Mem
  | 0 => m
  | k + 1 => uI (uI (ap m q a c L f k) q (L + k) (f k)) a c (nI (L + k + 1))
theorem ap_s (m : Mem) (q a c L : Nat) (f : Nat → Int32) (k : Nat) : ap m q a c L f (k + 1) = uI (uI (ap m q a c L f k) q (L + k) (f k)) a c (nI (L + k + 1)) := rfl
theorem ap_2 (m : Mem) (q a c L : Nat) (f : Nat → Int32) (k : Nat) : (ap m q a c L f k).2 = m.2 := by
  induction k with
  | zero => rfl
  | succ k ih => rw [ap_s, uI_2, uI_2, ih]
theorem ap_o {m : Mem} {q a c L : Nat} {f : Nat → Int32} (k : Nat) {b : Nat} (h : b ≠ q) (h2 : b ≠ a) : (ap m q a c L f k).1 b = m.1 b := by
  induction k with
  | zero => rfl
  | succ k ih => rw [ap_s, uI_o h2, uI_o h, ih]
theorem ap_len {m : Mem} {q a c L : Nat} {f : Nat → Int32} (k : Nat) (h : m.1 a c = nI L) : (ap m q a c L f k).1 a c = nI (L + k) := by
  cases k with
  | zero => exact h
  | succ k => rw [ap_s, uI_1, if_pos ⟨rfl, rfl⟩, Nat.add_assoc]
theorem ap_oc {m : Mem} {q a c L : Nat} {f : Nat → Int32} (hq : a ≠ q) (k : Nat) {x : Nat} (h : x ≠ c) : (ap m q a c L f k).1 a x = m.1 a x := by
  induction k with
  | zero => rfl
  | succ k ih => rw [ap_s, uI_1, if_neg (fun q => h q.2), uI_o hq, ih]
theorem ap_out {m : Mem} {q a c L : Nat} {f : Nat → Int32} (hq : a ≠ q) (k : Nat) {x : Nat} (h : x < L) : (ap m q a c L f k).1 q x = m.1 q x := by
  induction k with
  | zero => rfl
  | succ k ih => rw [ap_s, uI_o (Ne.symm hq), uI_1, if_neg (by omega), ih]
theorem ap_in {m : Mem} {q a c L : Nat} {f : Nat → Int32} (hq : a ≠ q) (k : Nat) {t : Nat} (h : t < k) : (ap m q a c L f k).1 q (L + t) = f t := by
  induction k with
  | zero => omega
  | succ k ih =>
    rw [ap_s, uI_o (Ne.symm hq), uI_1]
    by_cases e : t = k
    · rw [if_pos ⟨rfl, by omega⟩, e]
    · rw [if_neg (by omega), ih (by omega)]
/-- the tape alone has changed -/
theorem rel_tape {mc mm mc2 mm2 : Mem} (h : Rel mc mm) (h1 : mc2.2.2 = mc.2.2) (h2 : mm2.2.2 = mm.2.2) (h3 : ∀ a, a ≠ 2 → a ≠ 3 → mc2.1 a = mc.1 a) (h4 : ∀ a, a ≠ 0 → a ≠ 7 → mm2.1 a = mm.1 a) (h5 : mm2.1 0 1 = mm.1 0 1 ∧ mm2.1 0 7 = mm.1 0 7 ∧ mm2.1 0 11 = mm.1 0 11 ∧ mm2.1 0 30 = mm.1 0 30) (h6 : TapeR mc2.1 mm2.1) : Rel mc2 mm2 := by
  obtain ⟨a1, w, s, d, a2, a3, a4, a5, a6, a7, a8, a9, a10⟩ := h
  obtain ⟨f1, f7, f11, f30⟩ := h5
  have hw : w = 15 ∨ w = 30 := by rcases a3 with ⟨h, -⟩ | ⟨h, -⟩ <;> omega
  refine ⟨fun k hk => by rw [h2]; exact a1 k hk, w, s, d, fun a ha k hk => by rw [h1]; exact a2 a ha k hk, a3, a4.c (fun a q _ => h3 a (by omega) (by omega)) (h4 1 (by decide) (by decide)) (h4 2 (by decide) (by decide)) (h4 3 (by decide) (by decide)), h6, a6.c (by rw [h3 0 (by decide) (by decide)]) (by rw [h3 0 (by decide) (by decide)]) f11 f1, ?_, ?_, fun k hk => (a9 k hk).c (fun a q _ => h3 a (by omega) (by omega)) (by rw [h4 13 (by decide) (by decide)]) (h4 14 (by decide) (by decide)) (h4 15 (by decide) (by decide)) (fun q => by rw [f7]; exact q), a10.c (by rw [h3 13 (by decide) (by decide)]) (h3 14 (by decide) (by decide)) f30 (h4 16 (by decide) (by decide))⟩
  · rw [h4 4 (by decide) (by decide), h4 6 (by decide) (by decide), f7]; exact a7.c (fun a q _ => h3 a (by omega) (by omega))
  · rw [h4 4 (by decide) (by decide), h4 6 (by decide) (by decide), f7]; exact a8
theorem fd1 : ∀ n, n ≤ 8 → ∀ k, k < n → nI (n - k) - 1 = nI (n - 1 - k) ∧ ¬ nI (n - 1 - k) < 0 ∧ nI (n - 1 - k) + (-1) = nI (n - (k + 1)) - 1 := by decide +kernel
def bC (w : Int64) (n k : Nat) : Int32 := ((w.toUInt64 >>> (((8 : Int32) * nI (n - 1 - k)).toInt64.toUInt64 &&& Int64.toUInt64 63)).toInt64).toInt32.toInt8.toInt32
def bM (w : Int64) (n k : Nat) : Int32 := ((w >>> (((8 : Int32) * nI (n - 1 - k)).toInt64 &&& 63)) &&& (255 : Int64)).toInt32
theorem append_c {m : Mem} {w s n L : Nat} {d : Bool} (hC : RCok m w s d) (x : Int64) (hn : n ≤ 8) (hL : L + n ≤ 600) (hl : m.1 2 1 = nI L) : fX7_append 2 x (nI n) m = some (ap m 3 2 1 L (bC x n) n) := by
  unfold fX7_append fX7_append_5
  rw [lt1_e, show (nI n - 1, m) = (fun k => (nI (n - k) - 1, ap m 3 2 1 L (bC x n) k)) 0 from rfl, iter_traj (fun k => (nI (n - k) - 1, ap m 3 2 1 L (bC x n) k)) n (ap m 3 2 1 L (bC x n) n) (by omega) ?_ ?_, bnd_s]
  · intro k hk
    obtain ⟨f1, f2, f3⟩ := fd1 n hn k hk
    have z : (ap m 3 2 1 L (bC x n) k).2.2 2 0 = some 3 := by rw [ap_2]; exact (rc_s hC).2.2.2.2.2.2.2.2.1
    have z2 := ap_len (q := 3) (f := bC x n) k hl
    have z3 : ∀ v, (uI (ap m 3 2 1 L (bC x n) k) 3 (L + k) v).1 2 1 = nI (L + k) := fun v => by rw [uI_o (by decide)]; exact z2
    simp only [fX7_append_5b, f1, if_neg f2, f3, kc_s, z, z2, eq_self, gp_tt, bnd_s, lt1_e, if_neg (show ¬ (600 : Int32) ≤ nI (L + k) from nI_ge (b := 600) (by omega) (by decide)), inb_nI (show L + k < 600 by omega) (by decide), nI_clamp (show L + k < 2 ^ 31 by omega), z3, nI_1, ap_s, pk_vb]
    rfl
  · show fX7_append_5b 2 x (nI (n - n) - 1) _ = _
    rw [Nat.sub_self]
    unfold fX7_append_5b
    rw [if_pos (by decide)]
theorem feed_m {m : Mem} {n L : Nat} (hM : RMok m) (x : Int64) (hn : n ≤ 8) (hL : L + n ≤ 600) (hl : m.1 0 10 = nI L) : fX12_feed_42 0 x (nI n - 1) m = some ((nI (L + n)).toInt64, ap m 7 0 10 L (bM x n) n) := by
  unfold fX12_feed_42
  rw [show (nI n - 1, m) = (fun k => (nI (n - k) - 1, ap m 7 0 10 L (bM x n) k)) 0 from rfl, iter_traj (fun k => (nI (n - k) - 1, ap m 7 0 10 L (bM x n) k)) n (ap m 7 0 10 L (bM x n) n) (by omega) ?_ ?_, bnd_s]
  · unfold fX12_feed_84
    rw [gp_pos km_s.1, ap_len n hl]
  · intro k hk
    obtain ⟨f1, f2, f3⟩ := fd1 n hn k hk
    have z : (ap m 7 0 10 L (bM x n) k).2.2 0 9 = some 7 := by rw [ap_2]; exact (rm_s hM).2.2.2.2.2.2.1
    have z2 := ap_len (q := 7) (f := bM x n) k hl
    have z3 : ∀ v, (uI (ap m 7 0 10 L (bM x n) k) 7 (L + k) v).1 0 10 = nI (L + k) := fun v => by rw [uI_o (by decide)]; exact z2
    simp only [fX12_feed_42b, f1, if_neg f2, f3, km_s, z, z2, eq_self, gp_tt, bnd_s, lt1_e, inb_nI (show L + k < 600 by omega) (by decide), nI_clamp (show L + k < 2 ^ 31 by omega), z3, nI_1, ap_s]
    rfl
  · show fX12_feed_42b 0 x (nI (n - n) - 1) _ = _
    rw [Nat.sub_self]
    unfold fX12_feed_42b
    rw [if_pos (by decide)]
theorem op4 : Op4 Rel := by
  intro mc mm h v1 v2 v3
  obtain ⟨hM, w, s, d, hC, hws, hRows, hTape, hMisc, hW, hS, hImg, hTr⟩ := id h
  obtain ⟨L, hL, t1, t2, t3⟩ := hTape
  generalize (v1.toInt64 <<< ((32 : Int32).toInt64 &&& 63)) ||| (v2.toInt64 &&& (4294967295 : Int64)) = x
  simp only [fX11_feed, fX12_feed, isWithin_e, in_1_8, bnd_s, lt1_e, km_s, kc_s, rc_s hC, th_1, eq_self, gp_tt, t1, t2]
  by_cases h1 : iw v3 1 8 = 0
  · exact ⟨_, _, _, if_pos h1, if_pos h1, h.thrown⟩
  simp only [if_neg h1]
  obtain ⟨g1, g2⟩ := iw_ne0 h1
  obtain ⟨n, hn, rfl⟩ := nI_of2 (M := 8) (n := 8) rfl (Int32.not_lt.mpr (Int32.le_trans (by decide) g1)) g2
  rw [nI_add]
  by_cases h2 : ¬ L + n ≤ 600
  · have q : ¬ nI (L + n) ≤ (600 : Int32) := nI_ge (a := 600) (by omega) (by omega)
    exact ⟨_, _, _, if_neg q, if_neg q, h.thrown⟩
  have h2 := Classical.not_not.mp h2
  have q : nI (L + n) ≤ (600 : Int32) := nI_le (b := 600) h2 (by decide)
  have z : (ap mc 3 2 1 L (bC x n) n).2.2 0 1 = some 2 := by rw [ap_2]; exact (rc_s hC).2.1
  simp only [if_pos q, append_c hC x hn h2 t1, bnd_s, z, kc_s, eq_self, gp_tt, ap_len n t1, feed_m (m := uI mm 0 0 0) hM x hn h2 t2]
  refine ⟨_, _, _, rfl, rfl, rel_tape h (by rw [ap_2]) (by rw [ap_2]; rfl) (fun a ha hb => ap_o n hb ha) (fun a ha hb => ?_) ⟨?_, ?_, ?_, ?_⟩ ⟨L + n, h2, ap_len n t1, ap_len (m := uI mm 0 0 0) n t2, fun j hj => ?_⟩⟩
  · rw [ap_o n hb ha, uI_o ha]
  · rw [ap_oc (by decide) n (by decide)]; rfl
  · rw [ap_oc (by decide) n (by decide)]; rfl
  · rw [ap_oc (by decide) n (by decide)]; rfl
  · rw [ap_oc (by decide) n (by decide)]; rfl
  · rcases Nat.lt_or_ge j L with c | c
    · rw [ap_out (by decide) n c, ap_out (by decide) n c]
      exact t3 j c
    · obtain ⟨t, rfl⟩ : ∃ t, j = L + t := ⟨j - L, by omega⟩
      rw [ap_in (by decide) n (by omega), ap_in (by decide) n (by omega)]
      obtain ⟨k, b1, b2, b3⟩ := byte_w x (i := n - 1 - t) (by omega)
      refine ⟨k, b1, b2, ?_⟩
      unfold bC
      rw [b3]
