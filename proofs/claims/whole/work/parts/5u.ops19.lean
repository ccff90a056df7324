theorem ne8 : ¬ (0 : Int32) = 1 ∧ ¬ (0 : Int32) = 2 ∧ ¬ (0 : Int32) = 3 ∧ ¬ (0 : Int32) = 4 ∧ ¬ (0 : Int32) = 5 ∧ ¬ (0 : Int32) = 6 ∧ ¬ (0 : Int32) = 7 ∧ ¬ (1 : Int32) = 0 ∧ ¬ (1 : Int32) = 2 ∧ ¬ (1 : Int32) = 3 ∧ ¬ (1 : Int32) = 4 ∧ ¬ (1 : Int32) = 5 ∧ ¬ (1 : Int32) = 6 ∧ ¬ (1 : Int32) = 7 ∧ ¬ (2 : Int32) = 0 ∧ ¬ (2 : Int32) = 1 ∧ ¬ (2 : Int32) = 3 ∧ ¬ (2 : Int32) = 4 ∧ ¬ (2 : Int32) = 5 ∧ ¬ (2 : Int32) = 6 ∧ ¬ (2 : Int32) = 7 ∧ ¬ (3 : Int32) = 0 ∧ ¬ (3 : Int32) = 1 ∧ ¬ (3 : Int32) = 2 ∧ ¬ (3 : Int32) = 4 ∧ ¬ (3 : Int32) = 5 ∧ ¬ (3 : Int32) = 6 ∧ ¬ (3 : Int32) = 7 ∧ ¬ (4 : Int32) = 0 ∧ ¬ (4 : Int32) = 1 ∧ ¬ (4 : Int32) = 2 ∧ ¬ (4 : Int32) = 3 ∧ ¬ (4 : Int32) = 5 ∧ ¬ (4 : Int32) = 6 ∧ ¬ (4 : Int32) = 7 ∧ ¬ (5 : Int32) = 0 ∧ ¬ (5 : Int32) = 1 ∧ ¬ (5 : Int32) = 2 ∧ ¬ (5 : Int32) = 3 ∧ ¬ (5 : Int32) = 4 ∧ ¬ (5 : Int32) = 6 ∧ ¬ (5 : Int32) = 7 ∧ ¬ (6 : Int32) = 0 ∧ ¬ (6 : Int32) = 1 ∧ ¬ (6 : Int32) = 2 ∧ ¬ (6 : Int32) = 3 ∧ ¬ (6 : Int32) = 4 ∧ ¬ (6 : Int32) = 5 ∧ ¬ (6 : Int32) = 7 ∧ ¬ (7 : Int32) = 0 ∧ ¬ (7 : Int32) = 1 ∧ ¬ (7 : Int32) = 2 ∧ ¬ (7 : Int32) = 3 ∧ ¬ (7 : Int32) = 4 ∧ ¬ (7 : Int32) = 5 ∧ ¬ (7 : Int32) = 6 := ⟨by decide, by decide, by decide, by decide, by decide, by decide, by decide, by decide, by decide, by decide, by decide, by decide, by decide, by decide, by decide, by decide, by decide, by decide, by decide, by decide, by decide, by decide, by decide, by decide, by decide, by decide, by decide, by decide, by decide, by decide, by decide, by decide, by decide, by decide, by decide, by decide, by decide, by decide, by decide, by decide, by decide, by decide, by decide, by decide, by decide, by decide, by decide, by decide, by decide, by decide, by decide, by decide, by decide, by decide, by decide, by decide⟩
theorem isoL : fX12_isOf 0 4 = some 0 ∧ fX12_isOf 0 6 = some 0 ∧ fX12_isOf 1 4 = some 0 ∧ fX12_isOf 1 6 = some 0 ∧ fX12_isOf 2 4 = some 0 ∧ fX12_isOf 2 6 = some 0 ∧ fX12_isOf 3 4 = some 0 ∧ fX12_isOf 3 6 = some 0 ∧ fX12_isOf 4 4 = some 1 ∧ fX12_isOf 4 6 = some 0 ∧ fX12_isOf 5 4 = some 1 ∧ fX12_isOf 5 6 = some 0 ∧ fX12_isOf 6 4 = some 0 ∧ fX12_isOf 6 6 = some 1 ∧ fX12_isOf 7 4 = some 0 ∧ fX12_isOf 7 6 = some 1 := by decide +kernel
theorem ap_c {m : Mem} {q a c L : Nat} {f g : Nat → Int32} (k : Nat) (h : ∀ j, j < k → f j = g j) : ap m q a c L f k = ap m q a c L g k := by
  induction k with
  | zero => rfl
  | succ k ih => rw [ap_s, ap_s, ih (fun j hj => h j (by omega)), h k (by omega)]
/-- a trace that was written -/
def tr (M : Mem) (q a c : Nat) (l : List Int32) : Mem := ap M q a c 0 (fun j => l.getD j 0) l.length
theorem tr_snoc (M : Mem) (q a c : Nat) (l : List Int32) (v : Int32) : uI (uI (tr M q a c l) q l.length v) a c (nI (l.length + 1)) = tr M q a c (l ++ [v]) := by
  unfold tr
  rw [List.length_append, List.length_singleton, ap_s, Nat.zero_add]
  have e1 : (l ++ [v]).getD l.length 0 = v := by simp [List.getD_eq_getElem?_getD]
  rw [e1, ap_c (f := fun j => (l ++ [v]).getD j 0) (g := fun j => l.getD j 0) l.length (fun j hj => ?_)]
  simp [List.getD_eq_getElem?_getD, List.getElem?_append_left hj]
theorem tr_2 (M : Mem) (q a c : Nat) (l : List Int32) : (tr M q a c l).2 = M.2 := ap_2 _ _ _ _ _ _ _
theorem tr_len {M : Mem} {q a c : Nat} (l : List Int32) (h : M.1 a c = 0) : (tr M q a c l).1 a c = nI l.length := by
  have := ap_len (m := M) (q := q) (a := a) (c := c) (L := 0) (f := fun j => l.getD j 0) l.length h
  rw [Nat.zero_add] at this
  exact this
theorem tr_o {M : Mem} {q a c : Nat} (l : List Int32) {b : Nat} (h : b ≠ q) (h2 : b ≠ a) : (tr M q a c l).1 b = M.1 b := ap_o _ h h2
theorem tr_oc {M : Mem} {q a c : Nat} (hq : a ≠ q) (l : List Int32) {x : Nat} (h : x ≠ c) : (tr M q a c l).1 a x = M.1 a x := ap_oc hq _ h
theorem tr_in {M : Mem} {q a c : Nat} (hq : a ≠ q) (l : List Int32) {t : Nat} (h : t < l.length) : (tr M q a c l).1 q t = l.getD t 0 := by
  have := ap_in (m := M) (c := c) (L := 0) (f := fun j => l.getD j 0) hq l.length h
  rw [Nat.zero_add] at this
  exact this
theorem wr_c {M : Mem} (h0 : M.1 13 1 = 0) (hr : M.2.2 13 0 = some 14) (l : List Int32) (hl : l.length < 16) (v : Int32) : fX0_write 13 v (tr M 14 13 1 l) = some (tr M 14 13 1 (l ++ [v])) := by
  have z : (tr M 14 13 1 l).2.2 13 0 = some 14 := by rw [tr_2]; exact hr
  have z2 := tr_len (q := 14) l h0
  have z3 : ∀ v, (uI (tr M 14 13 1 l) 14 l.length v).1 13 1 = nI l.length := fun v => by rw [uI_o (by decide)]; exact z2
  simp only [fX0_write, kc_s, z, z2, eq_self, gp_tt, bnd_s, lt1_e, if_neg (show ¬ (16 : Int32) ≤ nI l.length from nI_ge (b := 16) hl (by decide)), inb_nI hl (by decide), nI_clamp (show l.length < 2 ^ 31 by omega), z3, nI_1, tr_snoc]
theorem wr_m {M : Mem} (h0 : M.1 0 30 = 0) (hM : RMok M) (l : List Int32) (hl : l.length < 16) (v : Int32) : fX12_began 0 v (tr M 16 0 30 l) = some (tr M 16 0 30 (l ++ [v])) := by
  have z : (tr M 16 0 30 l).2.2 0 29 = some 16 := by rw [tr_2]; exact hM 29 (by decide)
  have z2 := tr_len (q := 16) l h0
  have z3 : ∀ v, (uI (tr M 16 0 30 l) 16 l.length v).1 0 30 = nI l.length := fun v => by rw [uI_o (by decide)]; exact z2
  simp only [fX12_began, km_s, z, z2, eq_self, gp_tt, bnd_s, lt1_e, if_neg (show ¬ (16 : Int32) ≤ nI l.length from nI_ge (b := 16) hl (by decide)), inb_nI hl (by decide), nI_clamp (show l.length < 2 ^ 31 by omega), z3, nI_1, tr_snoc]
/-- the trace alone has changed -/
theorem rel_trace {mc mm mc2 mm2 : Mem} (h : Rel mc mm) (h1 : mc2.2.2 = mc.2.2) (h2 : mm2.2.2 = mm.2.2) (h3 : ∀ a, a ≠ 13 → a ≠ 14 → mc2.1 a = mc.1 a) (h4 : ∀ a, a ≠ 0 → a ≠ 16 → mm2.1 a = mm.1 a) (h5 : mm2.1 0 1 = mm.1 0 1 ∧ mm2.1 0 7 = mm.1 0 7 ∧ mm2.1 0 10 = mm.1 0 10 ∧ mm2.1 0 11 = mm.1 0 11) (h6 : TraceR mc2.1 mm2.1) : Rel mc2 mm2 := by
  obtain ⟨a1, w, s, d, a2, a3, a4, a5, a6, a7, a8, a9, a10⟩ := h
  obtain ⟨f1, f7, f10, f11⟩ := h5
  have hw : w = 15 ∨ w = 30 := by rcases a3 with ⟨h, -⟩ | ⟨h, -⟩ <;> omega
  refine ⟨fun k hk => by rw [h2]; exact a1 k hk, w, s, d, fun a ha k hk => by rw [h1]; exact a2 a ha k hk, a3, a4.c (fun a q _ => h3 a (by omega) (by omega)) (h4 1 (by decide) (by decide)) (h4 2 (by decide) (by decide)) (h4 3 (by decide) (by decide)), a5.c (by rw [h3 2 (by decide) (by decide)]) (h3 3 (by decide) (by decide)) f10 (h4 7 (by decide) (by decide)), a6.c (by rw [h3 0 (by decide) (by decide)]) (by rw [h3 0 (by decide) (by decide)]) f11 f1, ?_, ?_, fun k hk => (a9 k hk).c (fun a q _ => h3 a (by omega) (by omega)) (by rw [h4 13 (by decide) (by decide)]) (h4 14 (by decide) (by decide)) (h4 15 (by decide) (by decide)) (fun q => by rw [f7]; exact q), h6⟩
  · rw [h4 4 (by decide) (by decide), h4 6 (by decide) (by decide), f7]; exact a7.c (fun a q _ => h3 a (by omega) (by omega))
  · rw [h4 4 (by decide) (by decide), h4 6 (by decide) (by decide), f7]; exact a8
def szT (K : Nat) : List Int32 := ([[10], [10], [11, 10, 20], [10], [10], [12, 10], [13, 10], [14, 13, 10]] : List (List Int32)).getD K []
def mkT (K : Nat) : List Int32 := ([[20], [20], [20], [24, 20, 10], [21, 20, 10], [22, 21, 20, 12, 10], [20], [23, 20]] : List (List Int32)).getD K []
def szV (K g k : Nat) : Int64 := ([(nI g).toInt64, (nI g).toInt64, (nI g).toInt64 + (nI k).toInt64, (nI g).toInt64, (nI g).toInt64, 10 * (nI g).toInt64, (nI g).toInt64 + 1, 0 - ((nI g).toInt64 + 1)] : List Int64).getD K 0
def mkV (K g k b : Nat) : Int64 := ([(nI k).toInt64, (nI k).toInt64, (nI k).toInt64, (nI k).toInt64 - (nI g).toInt64, (nI k).toInt64 + (nI g).toInt64, (nI k).toInt64 + 10 * (nI g).toInt64 + 100, (nI k).toInt64, (nI k).toInt64 + (nI b).toInt64] : List Int64).getD K 0
def szI (K g k : Nat) : Int32 := ([nI g + 0, nI g + 0, nI g + nI k, nI g + 0, nI g + 0, 10 * (nI g + 0), nI g + 1, -(nI g + 1)] : List Int32).getD K 0
def mkI (K g k b : Nat) : Int32 := ([nI k + 0 + 0, nI k + 0 + 0, nI k + 0 + 0, nI k + 0 + 0 - nI g, nI k + (nI g + 0) + 0, nI k + 10 * (nI g + 0) + 100, nI k + 0 + 0, nI k + 0 + 0 + nI b] : List Int32).getD K 0
theorem sz_eq : ∀ K, K < 8 → ∀ g, g < 10 → ∀ k, k < 10 → szV K g k = (szI K g k).toInt64 := by decide +kernel
theorem mk_eq : ∀ K, K < 8 → ∀ g, g < 10 → ∀ k, k < 10 → ∀ b, b < 7 → mkV K g k b = (mkI K g k b).toInt64 := by decide +kernel
theorem ask_c {M : Mem} {K g k b : Nat} (hK : K < 8) (h0 : M.1 13 1 = 0) (hr : M.2.2 13 0 = some 14) (h2 : M.1 13 2 = nI k) (h3 : M.1 13 3 = nI K) (h4 : M.1 13 4 = nI g) (h5 : M.1 13 5 = nI b) : fX0_askSize_L0 13 0 M = some (szV K g k, tr M 14 13 1 (szT K)) ∧ fX0_askMark_L0 13 0 M = some (mkV K g k b, tr M 14 13 1 (mkT K)) := by
  have w0 : ∀ v, fX0_write 13 v M = some (tr M 14 13 1 [v]) := fun v => wr_c h0 hr [] (by decide) v
  have w1 : ∀ a v, fX0_write 13 v (tr M 14 13 1 [a]) = some (tr M 14 13 1 [a, v]) := fun a v => wr_c h0 hr [a] (by show 1 < 16; decide) v
  have w2 : ∀ a b v, fX0_write 13 v (tr M 14 13 1 [a, b]) = some (tr M 14 13 1 [a, b, v]) := fun a b v => wr_c h0 hr [a, b] (by show 2 < 16; decide) v
  have w3 : ∀ a b c v, fX0_write 13 v (tr M 14 13 1 [a, b, c]) = some (tr M 14 13 1 [a, b, c, v]) := fun a b c v => wr_c h0 hr [a, b, c] (by show 3 < 16; decide) v
  have w4 : ∀ a b c d v, fX0_write 13 v (tr M 14 13 1 [a, b, c, d]) = some (tr M 14 13 1 [a, b, c, d, v]) := fun a b c d v => wr_c h0 hr [a, b, c, d] (by show 4 < 16; decide) v
  have r2 : ∀ l, (tr M 14 13 1 l).1 13 2 = nI k := fun l => by rw [tr_oc (by decide) l (by decide), h2]
  have r3 : ∀ l, (tr M 14 13 1 l).1 13 3 = nI K := fun l => by rw [tr_oc (by decide) l (by decide), h3]
  have r4 : ∀ l, (tr M 14 13 1 l).1 13 4 = nI g := fun l => by rw [tr_oc (by decide) l (by decide), h4]
  have r5 : ∀ l, (tr M 14 13 1 l).1 13 5 = nI b := fun l => by rw [tr_oc (by decide) l (by decide), h5]
  have d0 : (0 : Int32) ≤ 1 := by decide
  have d1 : (0 : Int32) + 1 ≤ 1 := by decide
  rcases (by omega : K = 0 ∨ K = 1 ∨ K = 2 ∨ K = 3 ∨ K = 4 ∨ K = 5 ∨ K = 6 ∨ K = 7) with rfl | rfl | rfl | rfl | rfl | rfl | rfl | rfl
  · replace h3 : M.1 13 3 = 0 := h3
    replace r3 : ∀ l, (tr M 14 13 1 l).1 13 3 = 0 := r3
    constructor
    · simp only [fX0_askSize_L0, fX0_askSize_L1, fX0_askSize_L2, fX0_askMark_L0, fX0_askMark_L1, fX0_askMark_L2, fX0_body10, fX0_body11_L0, fX0_body12, fX0_body13, fX0_body14, fX0_body20, fX0_body21_L0, fX0_body22_L0, fX0_body23, fX0_body24_L0, kc_s, eq_self, gp_tt, h3, r3, ne8, if_true, if_false, d0, d1, w0, w1, w2, w3, w4, r2, r4, r5, bnd_s, bnd2_s]
      rfl
    · simp only [fX0_askSize_L0, fX0_askSize_L1, fX0_askSize_L2, fX0_askMark_L0, fX0_askMark_L1, fX0_askMark_L2, fX0_body10, fX0_body11_L0, fX0_body12, fX0_body13, fX0_body14, fX0_body20, fX0_body21_L0, fX0_body22_L0, fX0_body23, fX0_body24_L0, kc_s, eq_self, gp_tt, h3, r3, ne8, if_true, if_false, d0, d1, w0, w1, w2, w3, w4, r2, r4, r5, bnd_s, bnd2_s]
      rfl
  · replace h3 : M.1 13 3 = 1 := h3
    replace r3 : ∀ l, (tr M 14 13 1 l).1 13 3 = 1 := r3
    constructor
    · simp only [fX0_askSize_L0, fX0_askSize_L1, fX0_askSize_L2, fX0_askMark_L0, fX0_askMark_L1, fX0_askMark_L2, fX0_body10, fX0_body11_L0, fX0_body12, fX0_body13, fX0_body14, fX0_body20, fX0_body21_L0, fX0_body22_L0, fX0_body23, fX0_body24_L0, kc_s, eq_self, gp_tt, h3, r3, ne8, if_true, if_false, d0, d1, w0, w1, w2, w3, w4, r2, r4, r5, bnd_s, bnd2_s]
      rfl
    · simp only [fX0_askSize_L0, fX0_askSize_L1, fX0_askSize_L2, fX0_askMark_L0, fX0_askMark_L1, fX0_askMark_L2, fX0_body10, fX0_body11_L0, fX0_body12, fX0_body13, fX0_body14, fX0_body20, fX0_body21_L0, fX0_body22_L0, fX0_body23, fX0_body24_L0, kc_s, eq_self, gp_tt, h3, r3, ne8, if_true, if_false, d0, d1, w0, w1, w2, w3, w4, r2, r4, r5, bnd_s, bnd2_s]
      rfl
  · replace h3 : M.1 13 3 = 2 := h3
    replace r3 : ∀ l, (tr M 14 13 1 l).1 13 3 = 2 := r3
    constructor
    · simp only [fX0_askSize_L0, fX0_askSize_L1, fX0_askSize_L2, fX0_askMark_L0, fX0_askMark_L1, fX0_askMark_L2, fX0_body10, fX0_body11_L0, fX0_body12, fX0_body13, fX0_body14, fX0_body20, fX0_body21_L0, fX0_body22_L0, fX0_body23, fX0_body24_L0, kc_s, eq_self, gp_tt, h3, r3, ne8, if_true, if_false, d0, d1, w0, w1, w2, w3, w4, r2, r4, r5, bnd_s, bnd2_s]
      rfl
    · simp only [fX0_askSize_L0, fX0_askSize_L1, fX0_askSize_L2, fX0_askMark_L0, fX0_askMark_L1, fX0_askMark_L2, fX0_body10, fX0_body11_L0, fX0_body12, fX0_body13, fX0_body14, fX0_body20, fX0_body21_L0, fX0_body22_L0, fX0_body23, fX0_body24_L0, kc_s, eq_self, gp_tt, h3, r3, ne8, if_true, if_false, d0, d1, w0, w1, w2, w3, w4, r2, r4, r5, bnd_s, bnd2_s]
      rfl
  · replace h3 : M.1 13 3 = 3 := h3
    replace r3 : ∀ l, (tr M 14 13 1 l).1 13 3 = 3 := r3
    constructor
    · simp only [fX0_askSize_L0, fX0_askSize_L1, fX0_askSize_L2, fX0_askMark_L0, fX0_askMark_L1, fX0_askMark_L2, fX0_body10, fX0_body11_L0, fX0_body12, fX0_body13, fX0_body14, fX0_body20, fX0_body21_L0, fX0_body22_L0, fX0_body23, fX0_body24_L0, kc_s, eq_self, gp_tt, h3, r3, ne8, if_true, if_false, d0, d1, w0, w1, w2, w3, w4, r2, r4, r5, bnd_s, bnd2_s]
      rfl
    · simp only [fX0_askSize_L0, fX0_askSize_L1, fX0_askSize_L2, fX0_askMark_L0, fX0_askMark_L1, fX0_askMark_L2, fX0_body10, fX0_body11_L0, fX0_body12, fX0_body13, fX0_body14, fX0_body20, fX0_body21_L0, fX0_body22_L0, fX0_body23, fX0_body24_L0, kc_s, eq_self, gp_tt, h3, r3, ne8, if_true, if_false, d0, d1, w0, w1, w2, w3, w4, r2, r4, r5, bnd_s, bnd2_s]
      rfl
  · replace h3 : M.1 13 3 = 4 := h3
    replace r3 : ∀ l, (tr M 14 13 1 l).1 13 3 = 4 := r3
    constructor
    · simp only [fX0_askSize_L0, fX0_askSize_L1, fX0_askSize_L2, fX0_askMark_L0, fX0_askMark_L1, fX0_askMark_L2, fX0_body10, fX0_body11_L0, fX0_body12, fX0_body13, fX0_body14, fX0_body20, fX0_body21_L0, fX0_body22_L0, fX0_body23, fX0_body24_L0, kc_s, eq_self, gp_tt, h3, r3, ne8, if_true, if_false, d0, d1, w0, w1, w2, w3, w4, r2, r4, r5, bnd_s, bnd2_s]
      rfl
    · simp only [fX0_askSize_L0, fX0_askSize_L1, fX0_askSize_L2, fX0_askMark_L0, fX0_askMark_L1, fX0_askMark_L2, fX0_body10, fX0_body11_L0, fX0_body12, fX0_body13, fX0_body14, fX0_body20, fX0_body21_L0, fX0_body22_L0, fX0_body23, fX0_body24_L0, kc_s, eq_self, gp_tt, h3, r3, ne8, if_true, if_false, d0, d1, w0, w1, w2, w3, w4, r2, r4, r5, bnd_s, bnd2_s]
      rfl
  · replace h3 : M.1 13 3 = 5 := h3
    replace r3 : ∀ l, (tr M 14 13 1 l).1 13 3 = 5 := r3
    constructor
    · simp only [fX0_askSize_L0, fX0_askSize_L1, fX0_askSize_L2, fX0_askMark_L0, fX0_askMark_L1, fX0_askMark_L2, fX0_body10, fX0_body11_L0, fX0_body12, fX0_body13, fX0_body14, fX0_body20, fX0_body21_L0, fX0_body22_L0, fX0_body23, fX0_body24_L0, kc_s, eq_self, gp_tt, h3, r3, ne8, if_true, if_false, d0, d1, w0, w1, w2, w3, w4, r2, r4, r5, bnd_s, bnd2_s]
      rfl
    · simp only [fX0_askSize_L0, fX0_askSize_L1, fX0_askSize_L2, fX0_askMark_L0, fX0_askMark_L1, fX0_askMark_L2, fX0_body10, fX0_body11_L0, fX0_body12, fX0_body13, fX0_body14, fX0_body20, fX0_body21_L0, fX0_body22_L0, fX0_body23, fX0_body24_L0, kc_s, eq_self, gp_tt, h3, r3, ne8, if_true, if_false, d0, d1, w0, w1, w2, w3, w4, r2, r4, r5, bnd_s, bnd2_s]
      rfl
  · replace h3 : M.1 13 3 = 6 := h3
    replace r3 : ∀ l, (tr M 14 13 1 l).1 13 3 = 6 := r3
    constructor
    · simp only [fX0_askSize_L0, fX0_askSize_L1, fX0_askSize_L2, fX0_askMark_L0, fX0_askMark_L1, fX0_askMark_L2, fX0_body10, fX0_body11_L0, fX0_body12, fX0_body13, fX0_body14, fX0_body20, fX0_body21_L0, fX0_body22_L0, fX0_body23, fX0_body24_L0, kc_s, eq_self, gp_tt, h3, r3, ne8, if_true, if_false, d0, d1, w0, w1, w2, w3, w4, r2, r4, r5, bnd_s, bnd2_s]
      rfl
    · simp only [fX0_askSize_L0, fX0_askSize_L1, fX0_askSize_L2, fX0_askMark_L0, fX0_askMark_L1, fX0_askMark_L2, fX0_body10, fX0_body11_L0, fX0_body12, fX0_body13, fX0_body14, fX0_body20, fX0_body21_L0, fX0_body22_L0, fX0_body23, fX0_body24_L0, kc_s, eq_self, gp_tt, h3, r3, ne8, if_true, if_false, d0, d1, w0, w1, w2, w3, w4, r2, r4, r5, bnd_s, bnd2_s]
      rfl
  · replace h3 : M.1 13 3 = 7 := h3
    replace r3 : ∀ l, (tr M 14 13 1 l).1 13 3 = 7 := r3
    constructor
    · simp only [fX0_askSize_L0, fX0_askSize_L1, fX0_askSize_L2, fX0_askMark_L0, fX0_askMark_L1, fX0_askMark_L2, fX0_body10, fX0_body11_L0, fX0_body12, fX0_body13, fX0_body14, fX0_body20, fX0_body21_L0, fX0_body22_L0, fX0_body23, fX0_body24_L0, kc_s, eq_self, gp_tt, h3, r3, ne8, if_true, if_false, d0, d1, w0, w1, w2, w3, w4, r2, r4, r5, bnd_s, bnd2_s]
      rfl
    · simp only [fX0_askSize_L0, fX0_askSize_L1, fX0_askSize_L2, fX0_askMark_L0, fX0_askMark_L1, fX0_askMark_L2, fX0_body10, fX0_body11_L0, fX0_body12, fX0_body13, fX0_body14, fX0_body20, fX0_body21_L0, fX0_body22_L0, fX0_body23, fX0_body24_L0, kc_s, eq_self, gp_tt, h3, r3, ne8, if_true, if_false, d0, d1, w0, w1, w2, w3, w4, r2, r4, r5, bnd_s, bnd2_s]
      rfl
theorem ask_m {M : Mem} {K g k b : Nat} (hK : K < 8) (hk : k < 10) (h0 : M.1 0 30 = 0) (hM : RMok M) (h4 : M.1 4 (40 + 2 * k + 1) = nI g) (h5 : ∀ l, bnd (fX12_storiesBy 0 (nI k) 1 (tr M 16 0 30 l)) (fun r => fX12_bits r) = some (nI b)) : (if nI K = (2 : Int32) then fX12_goneSize 0 (nI k) M else fX12_ownSize 0 (nI k) (nI K) M) = some (szI K g k, tr M 16 0 30 (szT K)) ∧ fX12_ownMark 0 (nI k) (nI K) M = some (mkI K g k b, tr M 16 0 30 (mkT K)) := by
  have w0 : ∀ v, fX12_began 0 v M = some (tr M 16 0 30 [v]) := fun v => wr_m h0 hM [] (by decide) v
  have w1 : ∀ a v, fX12_began 0 v (tr M 16 0 30 [a]) = some (tr M 16 0 30 [a, v]) := fun a v => wr_m h0 hM [a] (by show 1 < 16; decide) v
  have w2 : ∀ a b v, fX12_began 0 v (tr M 16 0 30 [a, b]) = some (tr M 16 0 30 [a, b, v]) := fun a b v => wr_m h0 hM [a, b] (by show 2 < 16; decide) v
  have w3 : ∀ a b c v, fX12_began 0 v (tr M 16 0 30 [a, b, c]) = some (tr M 16 0 30 [a, b, c, v]) := fun a b c v => wr_m h0 hM [a, b, c] (by show 3 < 16; decide) v
  have w4 : ∀ a b c d v, fX12_began 0 v (tr M 16 0 30 [a, b, c, d]) = some (tr M 16 0 30 [a, b, c, d, v]) := fun a b c d v => wr_m h0 hM [a, b, c, d] (by show 4 < 16; decide) v
  have sg : ∀ l, fX12_signOf 0 (nI k) (1 : Int32) (tr M 16 0 30 l) = some (nI g) := fun l => by
    have := signOf_m (m := tr M 16 0 30 l) (fun x hx => by rw [tr_2]; exact hM x hx) (k := k) (c := 1) (by omega)
    rw [tr_o l (by decide) (by decide), h4] at this
    exact this
  have st : ∀ l, ∃ r, fX12_storiesBy 0 (nI k) 1 (tr M 16 0 30 l) = some r ∧ fX12_bits r = some (nI b) := fun l => bnd_some (h5 l)
  rcases (by omega : K = 0 ∨ K = 1 ∨ K = 2 ∨ K = 3 ∨ K = 4 ∨ K = 5 ∨ K = 6 ∨ K = 7) with rfl | rfl | rfl | rfl | rfl | rfl | rfl | rfl
  · constructor
    · show (if (0 : Int32) = 2 then fX12_goneSize 0 (nI k) M else fX12_ownSize 0 (nI k) 0 M) = _
      simp only [fX12_ownMark, fX12_ownMark_16, fX12_ownMark_40, fX12_ownMark_43, fX12_ownMark_59, fX12_ownMark_80, fX12_ownMark_92, fX12_ownSize, fX12_ownSize_11, fX12_ownSize_24, fX12_ownSize_27, fX12_ownSize_44, fX12_ownSize_58, fX12_plainSize, fX12_goneSize, km_s, eq_self, gp_tt, ne8, isoL, if_true, if_false, w0, w1, w2, w3, w4, sg, bnd_s, bnd2_s, lt1_e]
      rfl
    · show fX12_ownMark 0 (nI k) 0 M = _
      simp only [fX12_ownMark, fX12_ownMark_16, fX12_ownMark_40, fX12_ownMark_43, fX12_ownMark_59, fX12_ownMark_80, fX12_ownMark_92, fX12_ownSize, fX12_ownSize_11, fX12_ownSize_24, fX12_ownSize_27, fX12_ownSize_44, fX12_ownSize_58, fX12_plainSize, fX12_goneSize, km_s, eq_self, gp_tt, ne8, isoL, if_true, if_false, w0, w1, w2, w3, w4, sg, bnd_s, bnd2_s, lt1_e]
      rfl
  · constructor
    · show (if (1 : Int32) = 2 then fX12_goneSize 0 (nI k) M else fX12_ownSize 0 (nI k) 1 M) = _
      simp only [fX12_ownMark, fX12_ownMark_16, fX12_ownMark_40, fX12_ownMark_43, fX12_ownMark_59, fX12_ownMark_80, fX12_ownMark_92, fX12_ownSize, fX12_ownSize_11, fX12_ownSize_24, fX12_ownSize_27, fX12_ownSize_44, fX12_ownSize_58, fX12_plainSize, fX12_goneSize, km_s, eq_self, gp_tt, ne8, isoL, if_true, if_false, w0, w1, w2, w3, w4, sg, bnd_s, bnd2_s, lt1_e]
      rfl
    · show fX12_ownMark 0 (nI k) 1 M = _
      simp only [fX12_ownMark, fX12_ownMark_16, fX12_ownMark_40, fX12_ownMark_43, fX12_ownMark_59, fX12_ownMark_80, fX12_ownMark_92, fX12_ownSize, fX12_ownSize_11, fX12_ownSize_24, fX12_ownSize_27, fX12_ownSize_44, fX12_ownSize_58, fX12_plainSize, fX12_goneSize, km_s, eq_self, gp_tt, ne8, isoL, if_true, if_false, w0, w1, w2, w3, w4, sg, bnd_s, bnd2_s, lt1_e]
      rfl
  · constructor
    · show (if (2 : Int32) = 2 then fX12_goneSize 0 (nI k) M else fX12_ownSize 0 (nI k) 2 M) = _
      simp only [fX12_ownMark, fX12_ownMark_16, fX12_ownMark_40, fX12_ownMark_43, fX12_ownMark_59, fX12_ownMark_80, fX12_ownMark_92, fX12_ownSize, fX12_ownSize_11, fX12_ownSize_24, fX12_ownSize_27, fX12_ownSize_44, fX12_ownSize_58, fX12_plainSize, fX12_goneSize, km_s, eq_self, gp_tt, ne8, isoL, if_true, if_false, w0, w1, w2, w3, w4, sg, bnd_s, bnd2_s, lt1_e]
      rfl
    · show fX12_ownMark 0 (nI k) 2 M = _
      simp only [fX12_ownMark, fX12_ownMark_16, fX12_ownMark_40, fX12_ownMark_43, fX12_ownMark_59, fX12_ownMark_80, fX12_ownMark_92, fX12_ownSize, fX12_ownSize_11, fX12_ownSize_24, fX12_ownSize_27, fX12_ownSize_44, fX12_ownSize_58, fX12_plainSize, fX12_goneSize, km_s, eq_self, gp_tt, ne8, isoL, if_true, if_false, w0, w1, w2, w3, w4, sg, bnd_s, bnd2_s, lt1_e]
      rfl
  · constructor
    · show (if (3 : Int32) = 2 then fX12_goneSize 0 (nI k) M else fX12_ownSize 0 (nI k) 3 M) = _
      simp only [fX12_ownMark, fX12_ownMark_16, fX12_ownMark_40, fX12_ownMark_43, fX12_ownMark_59, fX12_ownMark_80, fX12_ownMark_92, fX12_ownSize, fX12_ownSize_11, fX12_ownSize_24, fX12_ownSize_27, fX12_ownSize_44, fX12_ownSize_58, fX12_plainSize, fX12_goneSize, km_s, eq_self, gp_tt, ne8, isoL, if_true, if_false, w0, w1, w2, w3, w4, sg, bnd_s, bnd2_s, lt1_e]
      rfl
    · show fX12_ownMark 0 (nI k) 3 M = _
      simp only [fX12_ownMark, fX12_ownMark_16, fX12_ownMark_40, fX12_ownMark_43, fX12_ownMark_59, fX12_ownMark_80, fX12_ownMark_92, fX12_ownSize, fX12_ownSize_11, fX12_ownSize_24, fX12_ownSize_27, fX12_ownSize_44, fX12_ownSize_58, fX12_plainSize, fX12_goneSize, km_s, eq_self, gp_tt, ne8, isoL, if_true, if_false, w0, w1, w2, w3, w4, sg, bnd_s, bnd2_s, lt1_e]
      rfl
  · constructor
    · show (if (4 : Int32) = 2 then fX12_goneSize 0 (nI k) M else fX12_ownSize 0 (nI k) 4 M) = _
      simp only [fX12_ownMark, fX12_ownMark_16, fX12_ownMark_40, fX12_ownMark_43, fX12_ownMark_59, fX12_ownMark_80, fX12_ownMark_92, fX12_ownSize, fX12_ownSize_11, fX12_ownSize_24, fX12_ownSize_27, fX12_ownSize_44, fX12_ownSize_58, fX12_plainSize, fX12_goneSize, km_s, eq_self, gp_tt, ne8, isoL, if_true, if_false, w0, w1, w2, w3, w4, sg, bnd_s, bnd2_s, lt1_e]
      rfl
    · show fX12_ownMark 0 (nI k) 4 M = _
      simp only [fX12_ownMark, fX12_ownMark_16, fX12_ownMark_40, fX12_ownMark_43, fX12_ownMark_59, fX12_ownMark_80, fX12_ownMark_92, fX12_ownSize, fX12_ownSize_11, fX12_ownSize_24, fX12_ownSize_27, fX12_ownSize_44, fX12_ownSize_58, fX12_plainSize, fX12_goneSize, km_s, eq_self, gp_tt, ne8, isoL, if_true, if_false, w0, w1, w2, w3, w4, sg, bnd_s, bnd2_s, lt1_e]
      rfl
  · constructor
    · show (if (5 : Int32) = 2 then fX12_goneSize 0 (nI k) M else fX12_ownSize 0 (nI k) 5 M) = _
      simp only [fX12_ownMark, fX12_ownMark_16, fX12_ownMark_40, fX12_ownMark_43, fX12_ownMark_59, fX12_ownMark_80, fX12_ownMark_92, fX12_ownSize, fX12_ownSize_11, fX12_ownSize_24, fX12_ownSize_27, fX12_ownSize_44, fX12_ownSize_58, fX12_plainSize, fX12_goneSize, km_s, eq_self, gp_tt, ne8, isoL, if_true, if_false, w0, w1, w2, w3, w4, sg, bnd_s, bnd2_s, lt1_e]
      rfl
    · show fX12_ownMark 0 (nI k) 5 M = _
      simp only [fX12_ownMark, fX12_ownMark_16, fX12_ownMark_40, fX12_ownMark_43, fX12_ownMark_59, fX12_ownMark_80, fX12_ownMark_92, fX12_ownSize, fX12_ownSize_11, fX12_ownSize_24, fX12_ownSize_27, fX12_ownSize_44, fX12_ownSize_58, fX12_plainSize, fX12_goneSize, km_s, eq_self, gp_tt, ne8, isoL, if_true, if_false, w0, w1, w2, w3, w4, sg, bnd_s, bnd2_s, lt1_e]
      rfl
  · constructor
    · show (if (6 : Int32) = 2 then fX12_goneSize 0 (nI k) M else fX12_ownSize 0 (nI k) 6 M) = _
      simp only [fX12_ownMark, fX12_ownMark_16, fX12_ownMark_40, fX12_ownMark_43, fX12_ownMark_59, fX12_ownMark_80, fX12_ownMark_92, fX12_ownSize, fX12_ownSize_11, fX12_ownSize_24, fX12_ownSize_27, fX12_ownSize_44, fX12_ownSize_58, fX12_plainSize, fX12_goneSize, km_s, eq_self, gp_tt, ne8, isoL, if_true, if_false, w0, w1, w2, w3, w4, sg, bnd_s, bnd2_s, lt1_e]
      rfl
    · show fX12_ownMark 0 (nI k) 6 M = _
      simp only [fX12_ownMark, fX12_ownMark_16, fX12_ownMark_40, fX12_ownMark_43, fX12_ownMark_59, fX12_ownMark_80, fX12_ownMark_92, fX12_ownSize, fX12_ownSize_11, fX12_ownSize_24, fX12_ownSize_27, fX12_ownSize_44, fX12_ownSize_58, fX12_plainSize, fX12_goneSize, km_s, eq_self, gp_tt, ne8, isoL, if_true, if_false, w0, w1, w2, w3, w4, sg, bnd_s, bnd2_s, lt1_e]
      rfl
  · constructor
    · show (if (7 : Int32) = 2 then fX12_goneSize 0 (nI k) M else fX12_ownSize 0 (nI k) 7 M) = _
      simp only [fX12_ownMark, fX12_ownMark_16, fX12_ownMark_40, fX12_ownMark_43, fX12_ownMark_59, fX12_ownMark_80, fX12_ownMark_92, fX12_ownSize, fX12_ownSize_11, fX12_ownSize_24, fX12_ownSize_27, fX12_ownSize_44, fX12_ownSize_58, fX12_plainSize, fX12_goneSize, km_s, eq_self, gp_tt, ne8, isoL, if_true, if_false, w0, w1, w2, w3, w4, sg, bnd_s, bnd2_s, lt1_e]
      rfl
    · show fX12_ownMark 0 (nI k) 7 M = _
      obtain ⟨r, e1, e2⟩ := st [23, 20]
      simp only [fX12_ownMark, fX12_ownMark_16, fX12_ownMark_40, fX12_ownMark_43, fX12_ownMark_59, fX12_ownMark_80, fX12_ownMark_92, fX12_ownSize, fX12_ownSize_11, fX12_ownSize_24, fX12_ownSize_27, fX12_ownSize_44, fX12_ownSize_58, fX12_plainSize, fX12_goneSize, km_s, eq_self, gp_tt, ne8, isoL, if_true, if_false, w0, w1, w2, w3, w4, sg, bnd_s, bnd2_s, lt1_e, e1, e2]
      rfl
theorem begin_k {m : Mem} {b k n N w s : Nat} {d : Bool} (hC : RCok m w s d) (hb : WI b) (hN : N ≤ 6) (hk : k < n) (hn : n ≤ 10) (h6 : m.1 (b + 9) 6 = nI N) (h5 : m.1 (b + 9) 5 = nI n) : fX0_begin 13 (b + 9) (nI k) m = some (uI (uI (uI (uI (uI m 13 1 0) 13 2 (nI k)) 13 3 (m.1 (b + 10) k)) 13 4 (m.1 (b + 11) k)) 13 5 (nI (pw (sw (m.1 (b + 12)) (nI k) N)))) := by
  have b15 : 15 ≤ b := by rcases hb with rfl | rfl | rfl | rfl <;> decide
  obtain ⟨K, hK, eK⟩ := sw_lt (m.1 (b + 12)) (nI k) N hN
  have hK : K < 64 := Nat.lt_of_lt_of_le hK (Nat.le_trans (Nat.pow_le_pow_right (by decide) hN) (by decide))
  have bc := (pw_le (x := sw (m.1 (b + 12)) (nI k) N) ⟨K, hK, eK⟩).1
  have kw := kc_w hb
  have nw := nc_w hb
  have sw1 : ∀ m2 : Mem, m2.1 (b + 9) = m.1 (b + 9) → m2.1 (b + 12) = m.1 (b + 12) → fX1_storiesWith (b + 9) (nI k) (b + 12) m2 = some (sw (m.1 (b + 12)) (nI k) N) := fun m2 e1 e2 => by
    rw [storiesWith_c hb kw.2.2.2.2.2.2.2.2.2.2.2.2.1 nw.2.2.2.2.2.2.2.1 (nI k) hN (by rw [e1]; exact h6), e2]
  unfold fX0_begin
  generalize fJ6_bitCount_0f7a4 = BC at bc ⊢
  have sg : fX1_isSign (b + 9) (nI k) (uI m 13 1 0) = some (iw (nI k) 0 (nI n - 1)) := by
    rw [isSign_c (m := uI m 13 1 0) hb, uI_o (by omega), h5]
  simp only [kc_s, kc_w hb, nc_w hb, rc_w hC hb, uI_2, eq_self, gp_tt, bnd_s, lt1_e, sg, if_neg (iw_in hk (show n < 2 ^ 31 by omega)), inb_nI (show k < 10 by omega) (by decide), nI_clamp (show k < 2 ^ 31 by omega), uI_o (show b + 10 ≠ 13 by omega), uI_o (show b + 11 ≠ 13 by omega)]
  rw [sw1 _ (by rw [uI_o (by omega), uI_o (by omega), uI_o (by omega), uI_o (by omega)]) (by rw [uI_o (by omega), uI_o (by omega), uI_o (by omega), uI_o (by omega)]), bnd_s, bc, bnd_s]
theorem op35 : Op35 Rel := by
  intro mc mm h v1 v2
  obtain ⟨hM, w, s, d, hC, hws, hRows, hTape, hMisc, hW, hS, hImg, hTr⟩ := id h
  obtain ⟨eS, bS⟩ := sea_nI hS.2.1 (j := 4) (by decide)
  have bS : sv (mm.1 4) 4 ≤ 10 := bS
  obtain ⟨eT, bT⟩ := sea_nI hS.2.1 (j := 5) (by decide)
  have bT : sv (mm.1 4) 5 ≤ 6 := bT
  have h6 : mc.1 (w + 9) 6 = nI (sv (mm.1 4) 5) := by rw [hW.2.2.2.2.2.2.2.1.2]; exact eT
  have h5 : mc.1 (w + 9) 5 = nI (sv (mm.1 4) 4) := by rw [hW.2.2.2.2.2.2.2.1.1]; exact eS
  have w15 : w = 15 ∨ w = 30 := by rcases hws with ⟨q, -⟩ | ⟨q, -⟩ <;> simp [q]
  simp only [fX11_ask, fX12_ask, isWithin_e, in_0_1, bnd_s, lt1_e, km_s, kc_s, rc_s hC, rc_w hC hws.w, kc_w hws.w, rm_s hM, th_1, eq_self, gp_tt, isSign_c hws.w, isSign_m hM.th, h5]
  rw [eS]
  by_cases h1 : iw v1 0 (nI (sv (mm.1 4) 4) - 1) = 0
  · exact ⟨_, _, _, if_pos h1, if_pos h1, h.thrown⟩
  obtain ⟨k, hk, rfl⟩ := iw_lt (by omega) h1
  simp only [if_neg h1]
  by_cases h2 : iw v2 0 1 = 0
  · exact ⟨_, _, _, if_pos h2, if_pos h2, h.thrown⟩
  simp only [if_neg h2]
  rw [begin_k hC hws.w bT hk bS h6 h5, bnd_s]
  have e0 : fX12_signOf 0 (nI k) (0 : Int32) (uI (uI mm 0 0 0) 0 30 0) = some (mm.1 4 (40 + 2 * k)) := signOf_m (m := uI (uI mm 0 0 0) 0 30 0) hM (k := k) (c := 0) (by omega)
  rw [e0, bnd_s]
  obtain ⟨eK, bK⟩ := sea_nI hS.2.1 (j := 40 + 2 * k) (by omega)
  obtain ⟨eG, bG⟩ := sea_nI hS.2.1 (j := 40 + 2 * k + 1) (by omega)
  have hb : ∀ k, k < 10 → sbL.getD (40 + 2 * k) 0 ≤ 7 ∧ sbL.getD (40 + 2 * k + 1) 0 ≤ 9 := by decide +kernel
  have bK := Nat.le_trans bK (hb k (by omega)).1
  have bG := Nat.le_trans bG (hb k (by omega)).2
  obtain ⟨c1, c2⟩ := hW.2.2.2.2.2.2.2.2.1 k hk
  have hsw : sw (mc.1 (w + 12)) (nI k) (sv (mm.1 4) 5) = sw (fun j => mm.1 4 (60 + 3 * j + 1)) (nI k) (sv (mm.1 4) 5) := sw_c (nI k) (fun j hj => by rw [(hW.2.2.2.2.2.2.2.2.2 j hj).1, show 60 + 3 * j + 1 = 61 + 3 * j by omega])
  rw [c1, c2, hsw]
  generalize hX : sw (fun j => mm.1 4 (60 + 3 * j + 1)) (nI k) (sv (mm.1 4) 5) = X
  have hX2 : ∃ K, K < 64 ∧ X = nI K := by
    obtain ⟨K, hK, eK⟩ := sw_lt (fun j => mm.1 4 (60 + 3 * j + 1)) (nI k) (sv (mm.1 4) 5) bT
    exact ⟨K, Nat.lt_of_lt_of_le hK (Nat.le_trans (Nat.pow_le_pow_right (by decide) bT) (by decide)), by rw [← hX]; exact eK⟩
  obtain ⟨-, pb1, pb2⟩ := pw_le hX2
  generalize hMc : uI (uI (uI (uI (uI mc 13 1 0) 13 2 (nI k)) 13 3 (mm.1 4 (40 + 2 * k))) 13 4 (mm.1 4 (41 + 2 * k))) 13 5 (nI (pw X)) = Mc
  generalize hMm : uI (uI mm 0 0 0) 0 30 0 = Mm
  have rc : Mc.2.2 0 5 = some 13 := by rw [← hMc]; exact (rc_s hC).2.2.2.2.2.1
  obtain ⟨a1, a2⟩ := ask_c (M := Mc) (K := sv (mm.1 4) (40 + 2 * k)) (g := sv (mm.1 4) (40 + 2 * k + 1)) (k := k) (b := pw X) (by omega) (by rw [← hMc]; rfl) (by rw [← hMc]; exact (rc_s hC).2.2.2.2.2.2.2.2.2.2.2.2.2) (by rw [← hMc]; rfl) (by rw [← hMc, ← eK]; rfl) (by rw [← hMc, ← eG, show 40 + 2 * k + 1 = 41 + 2 * k by omega]; rfl) (by rw [← hMc]; rfl)
  have hMm2 : RMok Mm := by rw [← hMm]; exact hM
  obtain ⟨b1, b2⟩ := ask_m (M := Mm) (K := sv (mm.1 4) (40 + 2 * k)) (g := sv (mm.1 4) (40 + 2 * k + 1)) (k := k) (b := pw X) (by omega) (by omega) (by rw [← hMm]; rfl) hMm2 (by rw [← hMm, ← eG]; rfl) (fun l => by
    have e : (tr Mm 16 0 30 l).1 4 = mm.1 4 := by rw [tr_o l (by decide) (by decide), ← hMm]; rfl
    have := storiesBy_m (m := tr Mm 16 0 30 l) (n := sv (mm.1 4) 5) (c := 1) (fun x hx => by rw [tr_2]; exact hMm2 x hx) (nI k) bT (by decide) (by rw [e]; exact eT)
    rw [e, hX] at this
    show bnd (fX12_storiesBy 0 (nI k) (nI 1) (tr Mm 16 0 30 l)) _ = _
    rw [this, bnd_s, pb1])
  have fin : ∀ l : List Int32, l.length ≤ 16 → Rel (tr Mc 14 13 1 l) (tr Mm 16 0 30 l) := by
    intro l hl
    refine rel_trace h (by rw [tr_2, ← hMc]; rfl) (by rw [tr_2, ← hMm]; rfl) (fun a ha hb => ?_) (fun a ha hb => ?_) ⟨?_, ?_, ?_, ?_⟩ ⟨l.length, hl, tr_len l (by rw [← hMc]; rfl), tr_len l (by rw [← hMm]; rfl), fun j hj => ?_⟩
    · rw [tr_o l hb ha, ← hMc, uI_o ha, uI_o ha, uI_o ha, uI_o ha, uI_o ha]
    · rw [tr_o l hb ha, ← hMm, uI_o ha, uI_o ha]
    · rw [tr_oc (by decide) l (by decide), ← hMm]; rfl
    · rw [tr_oc (by decide) l (by decide), ← hMm]; rfl
    · rw [tr_oc (by decide) l (by decide), ← hMm]; rfl
    · rw [tr_oc (by decide) l (by decide), ← hMm]; rfl
    · rw [tr_in (by decide) l hj, tr_in (by decide) l hj]
  have lenS : ∀ K, K < 8 → (szT K).length ≤ 16 ∧ (mkT K).length ≤ 16 := by decide
  rw [eK] at *
  obtain ⟨c, hc, rfl⟩ := iw_nI h2 (n := 1) rfl
  rcases (by omega : c = 0 ∨ c = 1) with rfl | rfl
  · rw [if_pos (show nI 0 = 0 by decide), if_neg (show ¬ nI 0 = 1 by decide), rc, bnd_s, gp_pos kc_s.2.2.2.2.2.2.2.2.2.2.2.2.2.1, a1, bnd2_s]
    refine ⟨_, _, tr Mm 16 0 30 (szT (sv (mm.1 4) (40 + 2 * k))), rfl, ?_, fin _ (lenS _ (by omega)).1⟩
    rw [sz_eq _ (by omega) _ (by omega) _ (by omega)]
    by_cases q : nI (sv (mm.1 4) (40 + 2 * k)) = (2 : Int32)
    · rw [if_pos q] at b1 ⊢
      rw [b1, bnd2_s]
    · rw [if_neg q] at b1 ⊢
      rw [b1, bnd2_s]
  · rw [if_neg (show ¬ nI 1 = 0 by decide), if_pos (show nI 1 = 1 by decide), rc, bnd_s, gp_pos kc_s.2.2.2.2.2.2.2.2.2.2.2.2.2.1, a2, bnd2_s, b2, bnd2_s]
    refine ⟨_, _, tr Mm 16 0 30 (mkT (sv (mm.1 4) (40 + 2 * k))), rfl, ?_, fin _ (lenS _ (by omega)).2⟩
    rw [mk_eq _ (by omega) _ (by omega) _ (by omega) _ (by omega)]
