theorem holds_c {m : Mem} {r : Nat} (hr : r < 8) (v1 v2 : Int32) : fX6_holds (45 + 2 * r) v1 v2 m = some (if v1 < 0 then 0 else if v2 < 0 then 0 else if m.1 (45 + 2 * r) 2 - v2 < v1 then 0 else 1) := by
  unfold fX6_holds
  rw [gp_pos (kc_r r hr).1]
  split
  · rfl
  · split
    · rfl
    · split <;> rfl
theorem fitN {n a b : Nat} (hn : n ≤ 40) (ha : a < 2 ^ 31) (hb : b < 2 ^ 31) : (nI n - nI b < nI a) ↔ n < a + b := by
  rw [Int32.lt_iff_toInt_lt, Int32.toInt_sub, nI_toInt (show n < 2 ^ 31 by omega), nI_toInt ha, nI_toInt hb, Int.bmod_def]
  omega
theorem fitL {n a b : Nat} (hn : n ≤ 40) (ha : a < 2 ^ 31) (hb : b < 2 ^ 31) : ((nI n).toInt64 < (nI a).toInt64 + (nI b).toInt64) ↔ n < a + b := by
  rw [nI_l (show n < 2 ^ 31 by omega), nI_l ha, nI_l hb, lN_add, pk_lLT (by omega) (by omega)]
theorem fitG {n a b : Nat} (hn : n ≤ 40) (ha : a < 2 ^ 31) (hb : b < 2 ^ 31) : ((nI a).toInt64 + (nI b).toInt64 ≤ (nI n).toInt64) ↔ a + b ≤ n := by
  rw [nI_l (show n < 2 ^ 31 by omega), nI_l ha, nI_l hb, lN_add, pk_lLE (by omega) (by omega)]
/-- written from the end down -/
def wd (m : Mem) (q o : Nat) (f : Nat → Int32) (n : Nat) : Nat → Mem
  | 0 => m
  | k + 1 => uI (wd m q o f n k) q (o + (n - 1 - k)) (f (n - 1 - k))
theorem wd_s (m : Mem) (q o : Nat) (f : Nat → Int32) (n k : Nat) : wd m q o f n (k + 1) = uI (wd m q o f n k) q (o + (n - 1 - k)) (f (n - 1 - k)) := rfl
theorem wd_2 (m : Mem) (q o : Nat) (f : Nat → Int32) (n k : Nat) : (wd m q o f n k).2 = m.2 := by
  induction k with
  | zero => rfl
  | succ k ih => rw [wd_s, uI_2, ih]
theorem wd_o {m : Mem} {q o : Nat} {f : Nat → Int32} (n k : Nat) {b : Nat} (h : b ≠ q) : (wd m q o f n k).1 b = m.1 b := by
  induction k with
  | zero => rfl
  | succ k ih => rw [wd_s, uI_o h, ih]
theorem wd_out {m : Mem} {q o : Nat} {f : Nat → Int32} {n : Nat} (k : Nat) {x : Nat} (hk : k ≤ n) (h : x < o + (n - k) ∨ o + n ≤ x) : (wd m q o f n k).1 q x = m.1 q x := by
  induction k with
  | zero => rfl
  | succ k ih => rw [wd_s, uI_1, if_neg (by omega), ih (by omega) (by omega)]
theorem wd_in {m : Mem} {q o : Nat} {f : Nat → Int32} {n : Nat} (k : Nat) {j : Nat} (hk : k ≤ n) (h : n - k ≤ j) (h2 : j < n) : (wd m q o f n k).1 q (o + j) = f j := by
  induction k with
  | zero => omega
  | succ k ih =>
    rw [wd_s, uI_1]
    by_cases e : j = n - 1 - k
    · rw [if_pos ⟨rfl, by omega⟩, e]
    · rw [if_neg (by omega), ih (by omega) (by omega)]
theorem copy_up {m : Mem} {a b i j n : Nat} (hM : RMok m) (ha : a < 8) (hb : b < 8) (hi : i + n ≤ 40) (hj : j + n ≤ 40) (hij : j ≤ i) : fX12_copy_144 0 (nI a) (nI i) (nI b) (nI j) (nI n) 1 0 m = some ((nI n).toInt64, wi m 3 (40 * b + j) (fun t => m.1 3 (40 * a + i + t)) n) := by
  unfold fX12_copy_144
  rw [show ((0 : Int32), m) = (fun k => (nI k, wi m 3 (40 * b + j) (fun t => m.1 3 (40 * a + i + t)) k)) 0 from rfl, iter_traj (fun k => (nI k, wi m 3 (40 * b + j) (fun t => m.1 3 (40 * a + i + t)) k)) n (wi m 3 (40 * b + j) (fun t => m.1 3 (40 * a + i + t)) n) (by omega) ?_ ?_, bnd_s]
  · intro k hk
    have z : (wi m 3 (40 * b + j) (fun t => m.1 3 (40 * a + i + t)) k).2.2 0 4 = some 3 := by rw [wi_2]; exact (rm_s hM).2.2.1
    simp only [fX12_copy_144b, fX12_copy_168, km_s, z, eq_self, gp_tt, bnd_s, lt1_e, if_neg (nI_ge hk (by omega)), if_neg (show ¬ (1 : Int32) = 0 by decide), a40, nI_add, inb_nI (show 40 * a + i + k < 320 by omega) (by decide), inb_nI (show 40 * b + j + k < 320 by omega) (by decide), nI_clamp (show 40 * a + i + k < 2 ^ 31 by omega), nI_clamp (show 40 * b + j + k < 2 ^ 31 by omega), nI_1, wi_s]
    rw [wi_out k (by omega)]
  · simp only [fX12_copy_144b, if_pos (nI_le (Nat.le_refl n) (by omega))]
theorem copy_dn {m : Mem} {a b i j n : Nat} (hM : RMok m) (ha : a < 8) (hb : b < 8) (hi : i + n ≤ 40) (hj : j + n ≤ 40) (hij : i < j) : fX12_copy_144 0 (nI a) (nI i) (nI b) (nI j) (nI n) 0 0 m = some ((nI n).toInt64, wd m 3 (40 * b + j) (fun t => m.1 3 (40 * a + i + t)) n n) := by
  unfold fX12_copy_144
  rw [show ((0 : Int32), m) = (fun k => (nI k, wd m 3 (40 * b + j) (fun t => m.1 3 (40 * a + i + t)) n k)) 0 from rfl, iter_traj (fun k => (nI k, wd m 3 (40 * b + j) (fun t => m.1 3 (40 * a + i + t)) n k)) n (wd m 3 (40 * b + j) (fun t => m.1 3 (40 * a + i + t)) n n) (by omega) ?_ ?_, bnd_s]
  · intro k hk
    have z : (wd m 3 (40 * b + j) (fun t => m.1 3 (40 * a + i + t)) n k).2.2 0 4 = some 3 := by rw [wd_2]; exact (rm_s hM).2.2.1
    have e : nI n - 1 - nI k = nI (n - 1 - k) := by
      rw [show (1 : Int32) = nI 1 from rfl, pk_sub (by omega), pk_sub (by omega)]
    simp only [fX12_copy_144b, fX12_copy_168, km_s, z, eq_self, gp_tt, bnd_s, lt1_e, if_neg (nI_ge hk (by omega)), if_true, e, a40, nI_add, inb_nI (show 40 * a + i + (n - 1 - k) < 320 by omega) (by decide), inb_nI (show 40 * b + j + (n - 1 - k) < 320 by omega) (by decide), nI_clamp (show 40 * a + i + (n - 1 - k) < 2 ^ 31 by omega), nI_clamp (show 40 * b + j + (n - 1 - k) < 2 ^ 31 by omega), nI_1, wd_s]
    rw [wd_out k (by omega) (by omega)]
  · simp only [fX12_copy_144b, if_pos (nI_le (Nat.le_refl n) (by omega))]
theorem op2 : Op2 Rel := by
  intro mc mm h v1 v2 v3 v4 v5
  obtain ⟨hM, w, s, d, hC, hws, hRows, hTape, hMisc, hW, hS, hImg, hTr⟩ := id h
  simp only [fX11_copy, fX12_copy, isWithin_e, isRow_e, bnd_s, lt1_e, km_s, kc_s, rc_s hC, rm_s hM, th_1, uI_2, eq_self, gp_tt]
  by_cases h1 : iw v1 0 7 = 0
  · exact ⟨_, _, _, if_pos h1, if_pos h1, h.thrown⟩
  simp only [if_neg h1]
  by_cases h2 : iw v3 0 7 = 0
  · exact ⟨_, _, _, if_pos h2, if_pos h2, h.thrown⟩
  simp only [if_neg h2]
  obtain ⟨a, ha, rfl⟩ := iw_nI h1 (n := 7) rfl
  obtain ⟨b, hb, rfl⟩ := iw_nI h2 (n := 7) rfl
  have ha : a < 8 := by omega
  have hb : b < 8 := by omega
  obtain ⟨k1, k2, k3⟩ := kc_r a ha
  obtain ⟨r1, r2⟩ := rc_r hC a ha
  obtain ⟨p1, p2⟩ := hRows a ha
  obtain ⟨k1', k2', k3'⟩ := kc_r b hb
  obtain ⟨r1', r2'⟩ := rc_r hC b hb
  obtain ⟨p1', p2'⟩ := hRows b hb
  have zz : ∀ k, (uI (uI mm 0 0 0) 0 1 0).1 1 k = mm.1 1 k := fun _ => rfl
  have zy : ∀ k, (uI (uI mm 0 0 0) 0 1 0).1 2 k = mm.1 2 k := fun _ => rfl
  simp only [inb_nI ha (by decide), nI_clamp (show a < 2 ^ 31 by omega), inb_nI hb (by decide), nI_clamp (show b < 2 ^ 31 by omega), gp_tt, eq_self, r1, k1, r1', k1', bnd_s, fX6_isMissing, p1, p1', zz, zy, fX11_copy_56, fX12_copy_46, fX11_copy_104, fX12_copy_122, found_e, finding_e, bnd2_s, kc_s, km_s]
  have nl : ∀ l, l < 3 → ¬ nI l = (-1 : Int32) ∧ ¬ nI l < (0 : Int32) ∧ (0 : Int32) ≤ nI l := by decide
  rcases p2 with p2 | ⟨l, q1, q2, q3, q4, q5⟩
  · simp only [p2, if_true, if_pos (show (-1 : Int32) < 0 by decide), if_neg (show ¬ (1 : Int32) = 0 by decide)]
    exact ⟨_, _, _, rfl, rfl, h.find rfl ⟨rfl, rfl, rfl, rfl, rfl, rfl, rfl, rfl, rfl, rfl⟩ ⟨rfl, rfl, rfl, rfl, rfl⟩⟩
  simp only [q2, if_neg (nl l q1).1, if_neg (nl l q1).2.1, if_true]
  rcases p2' with p2' | ⟨l', q1', q2', q3', q4', q5'⟩
  · simp only [p2', if_true, if_neg (show ¬ (0 : Int32) ≤ -1 by decide), if_neg (show ¬ (1 : Int32) = 0 by decide)]
    exact ⟨_, _, _, rfl, rfl, h.find rfl ⟨rfl, rfl, rfl, rfl, rfl, rfl, rfl, rfl, rfl, rfl⟩ ⟨rfl, rfl, rfl, rfl, rfl⟩⟩
  simp only [q2', if_neg (nl l' q1').1, if_pos (nl l' q1').2.2, if_true]
  by_cases hl : ¬ nI l = nI l'
  · simp only [if_neg hl]
    exact ⟨_, _, _, rfl, rfl, h.find rfl ⟨rfl, rfl, rfl, rfl, rfl, rfl, rfl, rfl, rfl, rfl⟩ ⟨rfl, rfl, rfl, rfl, rfl⟩⟩
  have hl := Classical.not_not.mp hl
  simp only [if_pos hl, holds_c ha, holds_c hb, bnd_s, q3, q3']
  have pl : Rel (uI mc 0 9 2) (uI (uI (uI mm 0 0 0) 0 1 0) 0 1 2) := h.find rfl ⟨rfl, rfl, rfl, rfl, rfl, rfl, rfl, rfl, rfl, rfl⟩ ⟨rfl, rfl, rfl, rfl, rfl⟩
  by_cases c1 : v2 < 0
  · simp only [if_pos c1, if_true]
    exact ⟨_, _, _, rfl, rfl, pl⟩
  simp only [if_neg c1]
  by_cases c3 : v5 < 0
  · by_cases c2 : v4 < 0
    · simp only [if_pos c3, if_pos c2, if_true]
      exact ⟨_, _, _, rfl, rfl, pl⟩
    · simp only [if_pos c3, if_neg c2, if_true]
      exact ⟨_, _, _, rfl, rfl, pl⟩
  simp only [if_neg c3]
  obtain ⟨i, hi, rfl⟩ := nI_of c1
  obtain ⟨n, hn, rfl⟩ := nI_of c3
  obtain ⟨na, hna, ena⟩ := q4
  obtain ⟨nb, hnb, enb⟩ := q4'
  simp only [ena, enb]
  by_cases c2 : v4 < 0
  · simp only [if_pos c2, if_true]
    by_cases c4 : na < i + n
    · simp only [if_pos ((fitN hna hi hn).mpr c4), if_true]
      exact ⟨_, _, _, rfl, rfl, pl⟩
    · simp only [if_neg (fun q => c4 ((fitN hna hi hn).mp q)), if_neg (show ¬ (1 : Int32) = 0 by decide), if_true]
      exact ⟨_, _, _, rfl, rfl, pl⟩
  simp only [if_neg c2]
  obtain ⟨j, hj, rfl⟩ := nI_of c2
  by_cases c4 : na < i + n
  · simp only [if_pos ((fitN hna hi hn).mpr c4), if_pos ((fitL hna hi hn).mpr c4), if_true]
    exact ⟨_, _, _, rfl, rfl, pl⟩
  simp only [if_neg (fun q => c4 ((fitN hna hi hn).mp q)), if_neg (fun q => c4 ((fitL hna hi hn).mp q)), if_neg (show ¬ (1 : Int32) = 0 by decide)]
  by_cases c5 : nb < j + n
  · simp only [if_pos ((fitN hnb hj hn).mpr c5), if_neg (fun q => absurd ((fitG hnb hj hn).mp q) (by omega)), if_true]
    exact ⟨_, _, _, rfl, rfl, pl⟩
  simp only [if_neg (fun q => c5 ((fitN hnb hj hn).mp q)), if_pos ((fitG hnb hj hn).mpr (by omega)), if_neg (show ¬ (1 : Int32) = 0 by decide)]
  simp only [r2, r2', k2, k2', k3, k3', bnd_s, eq_self, gp_tt, gp_pos (nI_pos hi), gp_pos (nI_pos hj), gp_pos (nI_pos hn), nI_clamp hi, nI_clamp hj, nI_clamp hn, gp_pos (show i + n ≤ 40 by omega), gp_pos (show j + n ≤ 40 by omega), fine_e, bnd2_s, fX12_copy_139, lt1_e]
  have fin : ∀ m2 : Mem, m2.2 = mm.2 → (∀ x, x ≠ 3 → m2.1 x = (uI (uI mm 0 0 0) 0 1 0).1 x) → (∀ x, x < 40 * b + j ∨ 40 * b + j + n ≤ x → m2.1 3 x = mm.1 3 x) → (∀ t, t < n → m2.1 3 (40 * b + j + t) = mm.1 3 (40 * a + i + t)) → Rel (uI (uX mc (46 + 2 * b) (va_cpy (mc.1 (46 + 2 * a)) (mc.1 (46 + 2 * b)) i j n)) 0 9 0) m2 := by
    intro m2 e2 eo eout ein
    refine rel_row (r := b) h hb rfl (by rw [e2]) (fun x hx hy hz => ?_) ?_ ?_ ⟨?_, ?_, ?_, ?_, ?_, ?_, ?_⟩ ⟨?_, ?_, ?_, ?_⟩ (fun x hx => ⟨?_, ?_, fun t ht => ?_⟩) ?_
    · rw [uI_o hx, uX_1, if_neg hz]
    · rw [uI_1, if_neg (by decide), uX_1, if_neg (by omega)]
    · rw [eo 0 (by decide)]; rfl
    · rw [eo 4 (by decide)]; rfl
    · rw [eo 6 (by decide)]; rfl
    · rw [eo 7 (by decide)]; rfl
    · rw [eo 13 (by decide)]; rfl
    · rw [eo 14 (by decide)]; rfl
    · rw [eo 15 (by decide)]; rfl
    · rw [eo 16 (by decide)]; rfl
    · rw [eo 0 (by decide)]; rfl
    · rw [eo 0 (by decide)]; rfl
    · rw [eo 0 (by decide)]; rfl
    · rw [eo 0 (by decide)]; rfl
    · rw [eo 1 (by decide)]; rfl
    · rw [eo 2 (by decide)]; rfl
    · exact eout _ (by omega)
    · have g1 : m2.1 1 b = mm.1 1 b := by rw [eo 1 (by decide)]; rfl
      have g2 : m2.1 2 b = mm.1 2 b := by rw [eo 2 (by decide)]; rfl
      refine ⟨?_, Or.inr ⟨l', q1', ?_, ?_, ⟨nb, hnb, ?_⟩, fun t ht => ?_⟩⟩
      · rw [uI_o (by omega), uX_1, if_neg (by omega), g1]; exact p1'
      · rw [g1]; exact q2'
      · rw [uI_o (by omega), uX_1, if_neg (by omega), g2]; exact q3'
      · rw [g2]; exact enb
      · rw [uI_o (by omega), uX_1, if_pos rfl]
        by_cases c : j ≤ t ∧ t < j + n
        · rw [pk_cpy_in c.1 c.2, q5 _ (by omega), show 40 * b + t = 40 * b + j + (t - j) by omega, ein _ (by omega), Nat.add_assoc]
        · rw [pk_cpy_out (by omega), q5' t ht, eout _ (by omega)]
  by_cases c6 : i < j
  · rw [if_pos (nI_lt c6 hj), copy_dn (m := uI (uI mm 0 0 0) 0 1 0) hM ha hb (by omega) (by omega) c6]
    exact ⟨_, _, _, rfl, rfl, fin _ (by rw [wd_2]; rfl) (fun x hx => wd_o n n hx) (fun x hx => wd_out n (Nat.le_refl n) (by omega)) (fun t ht => wd_in n (Nat.le_refl n) (by omega) ht)⟩
  · rw [if_neg (nI_nlt (by omega) hi), copy_up (m := uI (uI mm 0 0 0) 0 1 0) hM ha hb (by omega) (by omega) (by omega)]
    exact ⟨_, _, _, rfl, rfl, fin _ (by rw [wi_2]; rfl) (fun x hx => wi_o n hx) (fun x hx => wi_out n (by omega)) (fun t ht => wi_in n ht)⟩
