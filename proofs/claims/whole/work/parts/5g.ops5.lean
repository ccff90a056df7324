theorem sh31 : ∀ n, n < 31 → ((nI n &&& 31).toBitVec.smod 32).toNat = n := by decide +kernel
def bit (x n : Nat) : Bool := decide (x / 2 ^ n % 2 = 1)
theorem bt_nI {x n : Nat} (hx : x < 2 ^ 31) (hn : n < 31) : bt (nI x) (nI n) = if bit x n = true then 1 else 0 := by
  unfold bt
  rw [pk_shrN hx (nI n &&& 31) n (sh31 n hn), pk_andN (show x / 2 ^ n < 2 ^ 32 from Nat.lt_of_le_of_lt (Nat.div_le_self _ _) (by omega)) (m := 1) 1 (by decide)]
  unfold bit
  have : x / 2 ^ n % 2 ^ 1 = 0 ∨ x / 2 ^ n % 2 ^ 1 = 1 := by omega
  rcases this with h | h
  · have h' : x / 2 ^ n % 2 = 0 := h
    rw [h, if_neg (by decide)]
    rfl
  · have h' : x / 2 ^ n % 2 = 1 := h
    rw [h, if_pos (by decide)]
    rfl
theorem bit_and {x y n : Nat} (h : x &&& y = 0) : ¬ (bit x n = true ∧ bit y n = true) := by
  intro ⟨h1, h2⟩
  have h3 : (x &&& y).testBit n = true := by
    rw [Nat.testBit_and]
    simp only [bit, decide_eq_true_eq] at h1 h2
    simp [Nat.testBit_eq_decide_div_mod_eq, h1, h2]
  rw [h] at h3
  simp at h3
theorem shl1 {n : Nat} (hn : n < 31) : (1 : Int32) <<< (nI n &&& 31) = nI (2 ^ n) := by
  have h := pk_shlN (n := 1) (nI n &&& 31) n (sh31 n hn) (by
    have : 2 ^ n ≤ 2 ^ 30 := Nat.pow_le_pow_right (by decide) (by omega)
    omega)
  rw [Nat.one_mul] at h
  exact h
theorem set_nI {v : Int32} {N : Nat} (hN : N ≤ 10) (h : ¬ iw v 0 ((1 : Int32) <<< (nI N &&& 31) - 1) = 0) : ∃ k, k < 2 ^ N ∧ v = nI k := by
  rw [shl1 (by omega)] at h
  have : 2 ^ N ≤ 2 ^ 10 := Nat.pow_le_pow_right (by decide) hN
  exact iw_lt (by omega) h
def fct (l r sn n : Nat) : Nat := if bit sn n = true then (if bit r n = true then 0 else if bit l n = true then 4 else 2) else (if bit l n = true then 1 else 2)
def wN (od l r sn : Nat) : Nat → Nat
  | 0 => od
  | n + 1 => wN od l r sn n * fct l r sn n
theorem wN_s (od l r sn n : Nat) : wN od l r sn (n + 1) = wN od l r sn n * fct l r sn n := rfl
theorem wN_le (od l r sn n : Nat) : wN od l r sn n ≤ od * 4 ^ n := by
  induction n with
  | zero => simp [wN]
  | succ n ih =>
    rw [wN_s, Nat.pow_succ, ← Nat.mul_assoc]
    have : fct l r sn n ≤ 4 := by unfold fct; (repeat' split) <;> decide
    exact Nat.mul_le_mul ih this
theorem weight_c {m : Mem} {b k n N od l r sn w s : Nat} {d : Bool} (hC : RCok m w s d) (hb : WI b) (hN : N ≤ 6) (hk : k < N) (hn : n ≤ 10) (h6 : m.1 (b + 9) 6 = nI N) (h5 : m.1 (b + 9) 5 = nI n) (hl : l < 2 ^ 10) (hr : r < 2 ^ 10) (hs : sn < 2 ^ 10) (ho : od ≤ 9) (e1 : m.1 (b + 12) k = nI l) (e2 : m.1 (b + 13) k = nI r) (e3 : m.1 (b + 14) k = nI od) : fX1_weight (b + 9) (nI k) (nI sn) m = some (lN (wN od l r sn n)) := by
  have hi : ¬ iw (nI k) 0 (nI N - 1) = 0 := by
    rw [iw_0]
    rintro (q | q)
    · exact nI_pos (by omega) q
    · rw [show nI N - (1 : Int32) = nI (N - 1) from pk_sub (a := N) (b := 1) (by omega), nI_ltI (by omega) (by omega)] at q
      omega
  simp only [fX1_weight, kc_w hb, nc_w hb, rc_w hC hb, eq_self, gp_tt, bnd_s, isStory_c hb, h6, if_neg hi, inb_nI (show k < 6 by omega) (by decide), nI_clamp (show k < 2 ^ 31 by omega), lt1_e, fX1_weight_21, e3, nI_l (show od < 2 ^ 31 by omega)]
  rw [show (lN od, (0 : Int32)) = (fun j => (lN (wN od l r sn j), nI j)) 0 from rfl, iter_traj (fun j => (lN (wN od l r sn j), nI j)) n (lN (wN od l r sn n)) (by omega) ?_ ?_, bnd_s]
  · intro j hj
    simp only [fX1_weight_21b, fX1_weight_65, fX1_weight_104, fX1_weight_106, kc_w hb, nc_w hb, rc_w hC hb, eq_self, gp_tt, bnd_s, h5, if_neg (nI_ge hj (by omega)), inb_nI (show k < 6 by omega) (by decide), nI_clamp (show k < 2 ^ 31 by omega), isIn_e, lt1_e, e1, e2, nI_1, bt_nI (show l < 2 ^ 31 by omega) (show j < 31 by omega), bt_nI (show r < 2 ^ 31 by omega) (show j < 31 by omega), bt_nI (show sn < 2 ^ 31 by omega) (show j < 31 by omega)]
    rw [wN_s, fct]
    have m2 : ∀ x, lN x * (2 : Int64) = lN (x * 2) := fun x => lN_mul x 2
    have m1 : ∀ x, lN x * (1 : Int64) = lN (x * 1) := fun x => lN_mul x 1
    have m4 : ∀ x, lN x * (4 : Int64) = lN (x * 4) := fun x => lN_mul x 4
    by_cases q1 : bit sn j = true
    · by_cases q2 : bit r j = true
      · simp [q1, q2]; rfl
      · by_cases q3 : bit l j = true <;> simp [q1, q2, q3, m2, m4]
    · by_cases q3 : bit l j = true
      · simp [q1, q3]
      · simp [q1, q3, m2]
  · simp only [fX1_weight_21b, kc_w hb, eq_self, gp_tt, h5, if_pos (nI_le (Nat.le_refl n) (by omega))]
theorem weight_m {m : Mem} {k n od l r sn : Nat} (hM : RMok m) (hk : k < 6) (hn : n ≤ 10) (h4 : m.1 4 4 = nI n) (hl : l < 2 ^ 10) (hr : r < 2 ^ 10) (hs : sn < 2 ^ 10) (ho : od ≤ 9) (e1 : m.1 4 (61 + 3 * k) = nI l) (e2 : m.1 4 (62 + 3 * k) = nI r) (e3 : m.1 4 (60 + 3 * k) = nI od) (hlr : l &&& r = 0) : fX12_weightOf 0 (nI k) (nI sn) m = some (lN (wN od l r sn n)) := by
  have f0 : fX12_storyOf 0 (nI k) (0 : Int32) m = some (nI od) := by rw [← e3]; exact storyOf_m hM (k := k) (c := 0) (by omega)
  have f1 : fX12_storyOf 0 (nI k) (1 : Int32) m = some (nI l) := by rw [← e1, show 61 + 3 * k = 60 + 3 * k + 1 by omega]; exact storyOf_m hM (k := k) (c := 1) (by omega)
  have f2 : fX12_storyOf 0 (nI k) (2 : Int32) m = some (nI r) := by rw [← e2, show 62 + 3 * k = 60 + 3 * k + 2 by omega]; exact storyOf_m hM (k := k) (c := 2) (by omega)
  simp only [fX12_weightOf, fX12_weightOf_11, km_s, rm_s hM, eq_self, gp_tt, bnd_s, f0, lt1_e, nI_l (show od < 2 ^ 31 by omega)]
  rw [show (lN od, (0 : Int32)) = (fun j => (lN (wN od l r sn j), nI j)) 0 from rfl, iter_traj (fun j => (lN (wN od l r sn j), nI j)) n (lN (wN od l r sn n)) (by omega) ?_ ?_, bnd_s]
  · intro j hj
    have b1 := bt_nI (show l < 2 ^ 31 by omega) (show j < 31 by omega)
    have b2 := bt_nI (show r < 2 ^ 31 by omega) (show j < 31 by omega)
    have b3 := bt_nI (show sn < 2 ^ 31 by omega) (show j < 31 by omega)
    simp only [fX12_weightOf_11b, fX12_weightOf_37, fX12_weightOf_59, fX12_weightOf_81, fX12_weightOf_118, fX12_weightOf_121, km_s, rm_s hM, eq_self, gp_tt, bnd_s, clL, inL, h4, if_neg (nI_ge hj (by omega)), f1, f2, lt1_e, nI_1, bt_v, b1, b2, b3]
    rw [wN_s, fct]
    have m2 : ∀ x, lN x * (2 : Int64) = lN (x * 2) := fun x => lN_mul x 2
    have m0 : ∀ x, lN x * (0 : Int64) = lN (x * 0) := fun x => lN_mul x 0
    have m4 : ∀ x, lN x * (4 : Int64) = lN (x * 4) := fun x => lN_mul x 4
    have hno := bit_and (n := j) hlr
    by_cases q1 : bit sn j = true
    · by_cases q2 : bit r j = true
      · have q3 : ¬ bit l j = true := fun q => hno ⟨q, q2⟩
        simp [q1, q2, q3]; rfl
      · by_cases q3 : bit l j = true <;> simp [q1, q2, q3, m2, m4]
    · by_cases q3 : bit l j = true
      · simp [q1, q3]
      · by_cases q2 : bit r j = true <;> simp [q1, q2, q3, m2]
  · simp only [fX12_weightOf_11b, km_s, rm_s hM, eq_self, gp_tt, bnd_s, clL, inL, h4, if_pos (nI_le (Nat.le_refl n) (by omega))]
/-- one step of the common divisor's search -/
theorem gcd_loops {v0 v2 : Int64} {what : Int32} {a b : Nat} (ha : a < 2 ^ 46) (hb : b < 2 ^ 46) (hb0 : 0 < b) : ∃ g, 0 < g ∧ g < 2 ^ 46 ∧ iter (fun s => fX11_partOfFraction_32b v0 v2 what s.1 s.2.1 s.2.2) FU (lN a, lN b, 0) = some (lN g) ∧ iter (fun s => fX12_partOf_17b v0 v2 what s.1 s.2) FU (lN a, lN b) = some (lN g) := by
  have hstep : ∀ x y i, x < 2 ^ 46 → y < 2 ^ 46 → 0 < y → i < 100 → fX11_partOfFraction_32b v0 v2 what (lN x) (lN y) (nI i) = some (.inl (lN y, lN (x % y), nI (i + 1))) ∧ fX12_partOf_17b v0 v2 what (lN x) (lN y) = some (.inl (lN y, lN (x % y))) := by
    intro x y i hx hy h0 hi
    have e0 : ¬ lN y = (0 : Int64) := fun q => by
      have := (pk_lEQ (a := y) (b := 0) (by omega) (by decide)).mp q
      omega
    have e1 : ¬ (100 : Int32) ≤ nI i := nI_ge (a := i) (b := 100) hi (by decide)
    simp only [fX11_partOfFraction_32b, fX12_partOf_17b, if_neg e0, if_neg e1, gp_pos e0, lt1_e, pk_lRem (show x < 2 ^ 63 by omega) h0 (show y < 2 ^ 63 by omega), nI_1, and_self]
  have hend : ∀ x i, i < 100 → fX11_partOfFraction_32b v0 v2 what (lN x) (lN 0) (nI i) = some (.inr (lN x)) ∧ fX12_partOf_17b v0 v2 what (lN x) (lN 0) = some (.inr (lN x)) := by
    intro x i hi
    have e1 : ¬ (100 : Int32) ≤ nI i := nI_ge (a := i) (b := 100) hi (by decide)
    have e0 : lN 0 = (0 : Int64) := rfl
    simp only [fX11_partOfFraction_32b, fX12_partOf_17b, if_neg e1, e0, if_true, and_self]
  have key : ∀ n i x y, 1 ≤ i → x < 2 ^ 46 → y < x → x * y < 2 ^ (93 - i) → 94 - i < n → i ≤ 93 → ∃ g, 0 < g ∧ g < 2 ^ 46 ∧ iter (fun s => fX11_partOfFraction_32b v0 v2 what s.1 s.2.1 s.2.2) n (lN x, lN y, nI i) = some (lN g) ∧ iter (fun s => fX12_partOf_17b v0 v2 what s.1 s.2) n (lN x, lN y) = some (lN g) := by
    intro n
    induction n with
    | zero => intro i x y _ _ _ _ h; omega
    | succ n ih =>
      intro i x y hi hx hxy hp hn hi2
      rcases Nat.eq_zero_or_pos y with rfl | hy
      · obtain ⟨e1, e2⟩ := hend x i (by omega)
        refine ⟨x, by omega, hx, ?_, ?_⟩
        · unfold iter
          simp only [e1]
        · unfold iter
          simp only [e2]
      · have hi3 : i ≤ 91 := by
          rcases Nat.lt_or_ge 91 i with q | q
          · have h1 : 2 ^ (93 - i) ≤ 2 ^ 1 := Nat.pow_le_pow_right (by decide) (by omega)
            have h2 : 2 * 1 ≤ x * y := Nat.mul_le_mul (by omega) hy
            omega
          · exact q
        obtain ⟨e1, e2⟩ := hstep x y i hx (by omega) hy (by omega)
        have hm := Nat.mod_lt x hy
        have h2 : 2 * (x % y) < x := by
          have := Nat.div_add_mod x y
          have h3 : 1 ≤ x / y := (Nat.one_le_div_iff hy).mpr (by omega)
          have h4 : y * 1 ≤ y * (x / y) := Nat.mul_le_mul_left y h3
          omega
        have hp2 : y * (x % y) < 2 ^ (93 - (i + 1)) := by
          have h3 : 2 ^ (93 - i) = 2 * 2 ^ (93 - (i + 1)) := by rw [show 93 - i = (93 - (i + 1)) + 1 by omega, Nat.pow_succ, Nat.mul_comm]
          have h4 : y * (2 * (x % y)) < y * x := Nat.mul_lt_mul_of_pos_left h2 hy
          rw [Nat.mul_comm x y] at hp
          have h5 : y * (2 * (x % y)) = 2 * (y * (x % y)) := by rw [← Nat.mul_assoc, Nat.mul_comm y 2, Nat.mul_assoc]
          omega
        obtain ⟨g, g1, g2, g3, g4⟩ := ih (i + 1) y (x % y) (by omega) (by omega) hm hp2 (by omega) (by omega)
        refine ⟨g, g1, g2, ?_, ?_⟩
        · unfold iter
          simp only [e1]
          exact g3
        · unfold iter
          simp only [e2]
          exact g4
  obtain ⟨e1, e2⟩ := hstep a b 0 ha hb hb0 (by decide)
  have hm := Nat.mod_lt a hb0
  obtain ⟨N, hN⟩ : ∃ N, FU = N + 1 := ⟨FU - 1, by have := FU_ge; omega⟩
  have hp : b * (a % b) < 2 ^ (93 - 1) := by
    have h1 : b * (a % b) ≤ 2 ^ 46 * (a % b) := Nat.mul_le_mul_right _ (by omega)
    have h2 : 2 ^ 46 * (a % b) < 2 ^ 46 * 2 ^ 46 := Nat.mul_lt_mul_of_pos_left (by omega) (by decide)
    have h3 : (2 : Nat) ^ 46 * 2 ^ 46 = 2 ^ (93 - 1) := by decide
    omega
  obtain ⟨g, g1, g2, g3, g4⟩ := key N 1 b (a % b) (by omega) hb hm hp (by have := FU_ge; omega) (by omega)
  refine ⟨g, g1, g2, ?_, ?_⟩
  · rw [hN]
    unfold iter
    simp only [show (0 : Int32) = nI 0 from rfl, e1]
    exact g3
  · rw [hN]
    unfold iter
    simp only [e2]
    exact g4
/-- a part of a fraction in its lowest terms: both answer the same -/
theorem frac_eq {a b : Nat} (what : Int32) (ha : a < 2 ^ 46) (hb : b < 2 ^ 46) (hb0 : 0 < b) : ∃ r, fX11_partOfFraction (lN a) (lN b) what = some r ∧ fX12_partOf (lN a) (lN b) what = some r := by
  obtain ⟨g, g1, g2, g3, g4⟩ := gcd_loops (v0 := lN a) (v2 := lN b) (what := what) ha hb hb0
  have z0 : (0 : Int64) = lN 0 := rfl
  have p1 : (0 : Int64) ≤ lN a := by rw [z0]; exact (pk_lLE (by decide) (by omega)).mpr (Nat.zero_le _)
  have p2 : (0 : Int64) < lN b := by rw [z0]; exact (pk_lLT (by decide) (by omega)).mpr hb0
  have p3 : (0 : Int64) < lN g := by rw [z0]; exact (pk_lLT (by decide) (by omega)).mpr g1
  have p4 : ¬ lN g = (0 : Int64) := fun q => by
    rw [z0] at q
    have := (pk_lEQ (by omega) (by decide)).mp q
    omega
  have hMv : fX12_partOf (lN a) (lN b) what = fX12_partOf_42 (lN a) (lN b) what (lN g) := by
    simp only [fX12_partOf, fX12_partOf_12, fX12_partOf_17, if_pos p1, g4, bnd_s]
  rcases Nat.eq_zero_or_pos a with rfl | ha0
  · -- nothing above: 0 by 1
    have q0 : lN 0 ≤ (0 : Int64) := by rw [z0]; exact (pk_lLE (by decide) (by decide)).mpr (Nat.le_refl _)
    have hstep : iter (fun s => fX12_partOf_17b (lN 0) (lN b) what s.1 s.2) FU (lN 0, lN b) = some (lN b) := by
      have e0 : ¬ lN b = (0 : Int64) := fun q => by
        rw [z0] at q
        have := (pk_lEQ (by omega) (by decide)).mp q
        omega
      have := iter_traj (b := fun s => fX12_partOf_17b (lN 0) (lN b) what s.1 s.2) (fun k => if k = 0 then (lN 0, lN b) else (lN b, lN 0)) 1 (lN b) (by decide) (fun k hk => by
        have : k = 0 := by omega
        subst this
        simp only [fX12_partOf_17b, if_true, if_neg e0, gp_pos e0, lt1_e, pk_lRem (show 0 < 2 ^ 63 by decide) hb0 (show b < 2 ^ 63 by omega), Nat.zero_mod, if_neg (show ¬ 0 + 1 = 0 by decide)]) (by
        simp only [fX12_partOf_17b, if_neg (show ¬ 1 = 0 by decide), if_pos (show lN 0 = (0 : Int64) from rfl)])
      exact this
    rw [g4] at hstep
    have hg : g = b := (pk_lEQ (by omega) (by omega)).mp (Option.some.inj hstep)
    subst hg
    rw [hMv]
    simp only [fX11_partOfFraction, fX11_partOfFraction_12, fX12_partOf_42, if_pos q0, gp_pos p4, pk_lDiv (show 0 < 2 ^ 63 by decide) g1 (show g < 2 ^ 63 by omega), pk_lDiv (show g < 2 ^ 63 by omega) g1 (show g < 2 ^ 63 by omega), Nat.zero_div, Nat.div_self g1]
    by_cases h : what = 0
    · rw [if_pos h, if_pos h]; exact ⟨_, rfl, rfl⟩
    · rw [if_neg h, if_neg h]; exact ⟨_, rfl, rfl⟩
  · have q0 : ¬ lN a ≤ (0 : Int64) := fun q => by
      rw [z0] at q
      have := (pk_lLE (by omega) (by decide)).mp q
      omega
    rw [hMv]
    simp only [fX11_partOfFraction, fX11_partOfFraction_32, fX11_partOfFraction_67, fX12_partOf_42, if_neg q0, if_pos p2, lt1_e, g3, bnd_s, if_pos p3, gp_pos p4]
    by_cases h : what = 0
    · rw [if_pos h]; exact ⟨_, rfl, rfl⟩
    · rw [if_neg h]; exact ⟨_, rfl, rfl⟩
