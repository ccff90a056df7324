theorem bit_tb (x n : Nat) : bit x n = x.testBit n := by unfold bit; rw [Nat.testBit_eq_decide_div_mod_eq]
def pt (k : Nat) : Nat := k % 2 + k / 2 % 2 + k / 4 % 2 + k / 8 % 2 + k / 16 % 2 + k / 32 % 2 + k / 64 % 2 + k / 128 % 2 + k / 256 % 2 + k / 512 % 2
theorem pts0 : ∀ a, a < 32 → ∀ b, b < 32 → fJ6_bitCount_0f7a4 (nI (32 * a + b)) = some (nI (pt (32 * a + b))) ∧ pt (32 * a + b) ≤ 10 ∧ (pt (32 * a + b) = 10 → 32 * a + b = 1023) := by decide +kernel
theorem pts {k : Nat} (hk : k < 1024) : fJ6_bitCount_0f7a4 (nI k) = some (nI (pt k)) ∧ pt k ≤ 10 ∧ (pt k = 10 → k = 1023) := by
  have h := pts0 (k / 32) (by omega) (k % 32) (by omega)
  rw [Nat.div_add_mod] at h
  exact h
theorem pto0 : ∀ j, j < 10 → ∀ a, a < 32 → ∀ b, b < 32 → nI (32 * a + b) ||| ((1 : Int32) <<< (nI j &&& 31)) = nI ((32 * a + b) ||| 2 ^ j) ∧ ((32 * a + b) ||| 2 ^ j) < 1024 ∧ (if bit (32 * a + b) j = true then (32 * a + b) ||| 2 ^ j = 32 * a + b else pt ((32 * a + b) ||| 2 ^ j) = pt (32 * a + b) + 1) := by decide +kernel
theorem pto {j k : Nat} (hj : j < 10) (hk : k < 1024) : nI k ||| ((1 : Int32) <<< (nI j &&& 31)) = nI (k ||| 2 ^ j) ∧ (k ||| 2 ^ j) < 1024 ∧ (if bit k j = true then k ||| 2 ^ j = k else pt (k ||| 2 ^ j) = pt k + 1) := by
  have h := pto0 j hj (k / 32) (by omega) (k % 32) (by omega)
  rw [Nat.div_add_mod] at h
  exact h
def cs (W : Nat → Bool) (x : Nat) : Nat → Nat
  | 0 => x
  | j + 1 => if W j = true then cs W x j ||| 2 ^ j else cs W x j
theorem cs_s (W : Nat → Bool) (x j : Nat) : cs W x (j + 1) = if W j = true then cs W x j ||| 2 ^ j else cs W x j := rfl
theorem cs_lt (W : Nat → Bool) {x : Nat} (hx : x < 1024) : ∀ j, j ≤ 10 → cs W x j < 1024 := by
  intro j
  induction j with
  | zero => intro _; exact hx
  | succ j ih =>
    intro hj
    rw [cs_s]
    split
    · exact (pto (by omega) (ih (by omega))).2.1
    · exact ih (by omega)
theorem cs_bit (W : Nat → Bool) (x : Nat) : ∀ j i, j ≤ i → bit (cs W x j) i = bit x i := by
  intro j
  induction j with
  | zero => intro i _; rfl
  | succ j ih =>
    intro i hi
    rw [cs_s]
    split
    · rw [bit_tb, Nat.testBit_or, Nat.testBit_two_pow_of_ne (by omega), Bool.or_false, ← bit_tb]
      exact ih i (by omega)
    · exact ih i (by omega)
theorem cs_st (W : Nat → Bool) {x j : Nat} (hx : x < 1024) (hj : j < 10) : (bit x j = true → cs W x (j + 1) = cs W x j) ∧ (¬ bit x j = true → W j = true → pt (cs W x (j + 1)) = pt (cs W x j) + 1) := by
  obtain ⟨-, -, h⟩ := pto hj (cs_lt W hx j (by omega))
  rw [cs_bit W x j j (Nat.le_refl j)] at h
  constructor
  · intro b
    rw [if_pos b] at h
    rw [cs_s]
    split
    · exact h
    · rfl
  · intro b c
    rw [if_neg b] at h
    rw [cs_s, if_pos c]
    exact h
theorem cs_pt (W : Nat → Bool) {x : Nat} (hx : x < 1024) : ∀ j, j ≤ 10 → (cs W x j = x ∨ pt x < pt (cs W x j)) := by
  intro j
  induction j with
  | zero => intro _; exact Or.inl rfl
  | succ j ih =>
    intro hj
    have h1 := ih (by omega)
    obtain ⟨c1, c2⟩ := cs_st W hx (show j < 10 by omega)
    by_cases b : bit x j = true
    · rw [c1 b]; exact h1
    · by_cases c : W j = true
      · have := c2 b c
        rcases h1 with h1 | h1
        · rw [h1] at this; exact Or.inr (by omega)
        · exact Or.inr (by omega)
      · rw [cs_s, if_neg c]; exact h1
theorem cs_c {W V : Nat → Bool} {x n : Nat} (h : ∀ j, j < n → W j = V j) : cs W x n = cs V x n := by
  induction n with
  | zero => rfl
  | succ n ih => rw [cs_s, cs_s, ih (fun j hj => h j (by omega)), h n (by omega)]
def sl (W : Nat → Nat → Bool) (N : Nat) : Nat → Nat
  | 0 => 0
  | i + 1 => cs (W (pt (sl W N i))) (sl W N i) N
theorem sl_s (W : Nat → Nat → Bool) (N i : Nat) : sl W N (i + 1) = cs (W (pt (sl W N i))) (sl W N i) N := rfl
theorem sl_lt (W : Nat → Nat → Bool) {N : Nat} (hN : N ≤ 10) : ∀ i, sl W N i < 1024 := by
  intro i
  induction i with
  | zero => exact (by decide : 0 < 1024)
  | succ i ih => rw [sl_s]; exact cs_lt _ ih N hN
theorem sl_c {W V : Nat → Nat → Bool} {N : Nat} (h : ∀ r j, j < N → W r j = V r j) : ∀ i, sl W N i = sl V N i := by
  intro i
  induction i with
  | zero => rfl
  | succ i ih => rw [sl_s, sl_s, ih]; exact cs_c (fun j hj => h _ j hj)
theorem sl_stop (W : Nat → Nat → Bool) {N : Nat} (hN : N ≤ 10) : ∃ i, i ≤ 10 ∧ sl W N (i + 1) = sl W N i ∧ ∀ k, k < i → sl W N (k + 1) ≠ sl W N k := by
  have key : ∀ n, (∃ i, i ≤ n ∧ sl W N (i + 1) = sl W N i ∧ ∀ k, k < i → sl W N (k + 1) ≠ sl W N k) ∨ ((∀ k, k < n + 1 → sl W N (k + 1) ≠ sl W N k) ∧ n + 1 ≤ pt (sl W N (n + 1))) := by
    intro n
    induction n with
    | zero =>
      by_cases e : sl W N 1 = sl W N 0
      · exact Or.inl ⟨0, Nat.le_refl _, e, fun k hk => by omega⟩
      · refine Or.inr ⟨fun k hk => ?_, ?_⟩
        · obtain rfl : k = 0 := by omega
          exact e
        · rcases cs_pt (W (pt (sl W N 0))) (sl_lt W hN 0) N hN with q | q
          · exact absurd q e
          · rw [sl_s]; omega
    | succ n ih =>
      rcases ih with ⟨i, h1, h2, h3⟩ | ⟨h1, h2⟩
      · exact Or.inl ⟨i, by omega, h2, h3⟩
      · by_cases e : sl W N (n + 2) = sl W N (n + 1)
        · exact Or.inl ⟨n + 1, Nat.le_refl _, e, h1⟩
        · refine Or.inr ⟨fun k hk => ?_, ?_⟩
          · by_cases q : k = n + 1
            · rw [q]; exact e
            · exact h1 k (by omega)
          · rcases cs_pt (W (pt (sl W N (n + 1)))) (sl_lt W hN (n + 1)) N hN with q | q
            · exact absurd q e
            · rw [sl_s]; omega
  rcases key 10 with h | ⟨-, h2⟩
  · exact h
  · have := (pts (sl_lt W hN (10 + 1))).2.1
    omega
noncomputable def ix (W : Nat → Nat → Bool) (N : Nat) : Nat := if h : N ≤ 10 then Classical.choose (sl_stop W h) else 0
theorem ix_h (W : Nat → Nat → Bool) {N : Nat} (hN : N ≤ 10) : ix W N ≤ 10 ∧ sl W N (ix W N + 1) = sl W N (ix W N) ∧ ∀ k, k < ix W N → sl W N (k + 1) ≠ sl W N k := by
  unfold ix
  rw [dif_pos hN]
  exact Classical.choose_spec (sl_stop W hN)
/-- who wants to leave, at a count -/
def wl (a b : Nat → Int32) (v1 v2 : Int32) (r j : Nat) : Bool := decide (a j ≤ v1) || !(decide (v2 + nI r < b j))
theorem wl_1 {a b : Nat → Int32} {v1 v2 : Int32} {r j : Nat} (h : a j ≤ v1) : wl a b v1 v2 r j = true := by unfold wl; rw [decide_eq_true h]; rfl
theorem wl_2 {a b : Nat → Int32} {v1 v2 : Int32} {r j : Nat} (h : ¬ a j ≤ v1) (h2 : v2 + nI r < b j) : ¬ wl a b v1 v2 r j = true := by unfold wl; rw [decide_eq_false h, decide_eq_true h2]; decide
theorem wl_3 {a b : Nat → Int32} {v1 v2 : Int32} {r j : Nat} (h : ¬ v2 + nI r < b j) : wl a b v1 v2 r j = true := by unfold wl; rw [decide_eq_false h]; simp
theorem beside_c {m : Mem} {w b N x s : Nat} {d : Bool} (hC : RCok m w s d) (hb : WI b) (v1 v2 : Int32) (hN : N ≤ 10) (h2 : m.1 (b + 6) 2 = nI N) (hx : x < 1024) : fX2_leavingBeside (b + 6) (nI x) v1 v2 m = some (nI (cs (wl (m.1 (b + 7)) (m.1 (b + 8)) v1 v2 (pt x)) x N)) := by
  unfold fX2_leavingBeside
  rw [(pts hx).1, bnd_s, lt1_e, lt1_e]
  unfold fX2_leavingBeside_14
  rw [show (nI x, (0 : Int32)) = (fun j => (nI (cs (wl (m.1 (b + 7)) (m.1 (b + 8)) v1 v2 (pt x)) x j), nI j)) 0 from rfl, iter_traj (fun j => (nI (cs (wl (m.1 (b + 7)) (m.1 (b + 8)) v1 v2 (pt x)) x j), nI j)) N (nI (cs (wl (m.1 (b + 7)) (m.1 (b + 8)) v1 v2 (pt x)) x N)) (by omega) ?_ ?_, bnd_s]
  · intro j hj
    simp only [fX2_leavingBeside_14b, fX2_leavingBeside_55, fX2_leavingBeside_46, kc_w hb, nc_w hb, rc_w hC hb, eq_self, gp_tt, h2, if_neg (nI_ge hj (by omega)), bnd_s, lt1_e, inb_nI (show j < 10 by omega) (by decide), nI_clamp (show j < 2 ^ 31 by omega), nI_1, (pto (show j < 10 by omega) (cs_lt (wl (m.1 (b + 7)) (m.1 (b + 8)) v1 v2 (pt x)) hx j (by omega))).1]
    rw [cs_s]
    by_cases g1 : m.1 (b + 7) j ≤ v1
    · rw [if_pos g1, if_pos (wl_1 g1)]
    · rw [if_neg g1]
      by_cases g2 : v2 + nI (pt x) < m.1 (b + 8) j
      · rw [if_pos g2, if_neg (wl_2 g1 g2)]
      · rw [if_neg g2, if_pos (wl_3 g2)]
  · simp only [fX2_leavingBeside_14b, kc_w hb, eq_self, gp_tt, h2, if_pos (nI_le (Nat.le_refl N) (by omega))]
theorem nI_inj1 {a b : Nat} (ha : a < 2 ^ 31) (hb : b < 2 ^ 31) (h : nI a = nI b) : a = b := by
  rw [← nI_clamp ha, ← nI_clamp hb, h]
theorem leaving_c {m : Mem} {w b N s : Nat} {d : Bool} (hC : RCok m w s d) (hb : WI b) (v1 v2 v3 : Int32) (hN : N ≤ 10) (h2 : m.1 (b + 6) 2 = nI N) : fX2_leaving (b + 6) v1 v2 v3 m = some (if v3 = 0 then nI (sl (wl (m.1 (b + 7)) (m.1 (b + 8)) v1 v2) N (ix (wl (m.1 (b + 7)) (m.1 (b + 8)) v1 v2) N)) else nI (ix (wl (m.1 (b + 7)) (m.1 (b + 8)) v1 v2) N)) := by
  generalize hW : wl (m.1 (b + 7)) (m.1 (b + 8)) v1 v2 = W
  obtain ⟨i1, i2, i3⟩ := ix_h W hN
  generalize ix W N = i at i1 i2 i3
  have bs : ∀ k, fX2_leavingBeside (b + 6) (nI (sl W N k)) v1 v2 m = some (nI (sl W N (k + 1))) := fun k => by
    rw [beside_c hC hb v1 v2 hN h2 (sl_lt W hN k), hW, sl_s]
  have ne : ∀ k, k < i → ¬ nI (sl W N (k + 1)) = nI (sl W N k) := fun k hk q => i3 k hk (nI_inj1 (by have := sl_lt W hN (k + 1); omega) (by have := sl_lt W hN k; omega) q)
  unfold fX2_leaving
  rw [lt1_e, lt1_e, lt1_e]
  unfold fX2_leaving_9
  have st : ∀ k, k < i → fX2_leaving_9b (b + 6) v1 v2 v3 (nI (sl W N k)) (nI k) (nI k) m = some (.inl (nI (sl W N (k + 1)), nI (k + 1), nI (k + 1))) := by
    intro k hk
    unfold fX2_leaving_9b
    rw [if_neg (show ¬ (10 : Int32) ≤ nI k from nI_ge (b := 10) (show k < 10 by omega) (by decide)), gp_pos (kc_w hb).2.2.2.2.2.2.1, bs k, bnd_s, if_neg (ne k hk), lt1_e, lt1_e, nI_1]
  have e0 : ((0 : Int32), (0 : Int32), (0 : Int32)) = (fun k => (nI (sl W N k), nI k, nI k)) 0 := rfl
  by_cases q : i = 10
  · rw [e0, iter_traj (fun k => (nI (sl W N k), nI k, nI k)) i (.inr (nI (sl W N i), nI i)) (by omega) st ?_, bnd_s]
    · show fX2_leaving_49 v3 (nI (sl W N i)) (nI i) m = _
      unfold fX2_leaving_49
      split <;> rfl
    · show fX2_leaving_9b (b + 6) v1 v2 v3 (nI (sl W N i)) (nI i) (nI i) m = _
      unfold fX2_leaving_9b
      rw [if_pos (show (10 : Int32) ≤ nI i by rw [q]; decide)]
  · rw [e0, iter_traj (fun k => (nI (sl W N k), nI k, nI k)) i (.inl (nI (sl W N i), nI i)) (by omega) st ?_, bnd_s]
    · show fX2_leaving_33 v3 (nI (sl W N i)) (nI i) m = _
      unfold fX2_leaving_33 fX2_leaving_49
      split <;> rfl
    · show fX2_leaving_9b (b + 6) v1 v2 v3 (nI (sl W N i)) (nI i) (nI i) m = _
      unfold fX2_leaving_9b
      rw [if_neg (show ¬ (10 : Int32) ≤ nI i from nI_ge (b := 10) (show i < 10 by omega) (by decide)), gp_pos (kc_w hb).2.2.2.2.2.2.1, bs i, bnd_s, i2, if_pos rfl]
