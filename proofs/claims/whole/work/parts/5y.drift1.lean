/-! drifting: odds and ways of cells, hour by hour, as plain numbers -/
def ac (F : Nat → Nat) (t v : Nat) : Nat → Nat := fun x => if x = t then F x + v else F x
theorem ac_e (F : Nat → Nat) (t v x : Nat) : ac F t v x = if x = t then F x + v else F x := rfl
def inn (T : Nat → Nat → Nat) (O : Nat → Nat) (c f r : Nat) (S : (Nat → Nat) × (Nat → Nat)) : Nat → (Nat → Nat) × (Nat → Nat)
  | 0 => S
  | j + 1 => (ac (inn T O c f r S j).1 (T c j) (f * O j), ac (inn T O c f r S j).2 (T c j) r)
def out (T : Nat → Nat → Nat) (O : Nat → Nat) (n : Nat) (F R : Nat → Nat) : Nat → (Nat → Nat) × (Nat → Nat)
  | 0 => (fun _ => 0, fun _ => 0)
  | c + 1 => if R c = 0 then out T O n F R c else inn T O c (F c) (R c) (out T O n F R c) n
def hrs (T : Nat → Nat → Nat) (O : Nat → Nat) (n c0 : Nat) : Nat → (Nat → Nat) × (Nat → Nat)
  | 0 => (fun x => if x = c0 then 1 else 0, fun x => if x = c0 then 1 else 0)
  | k + 1 => out T O n (hrs T O n c0 k).1 (hrs T O n c0 k).2 128
theorem inn_s (T : Nat → Nat → Nat) (O : Nat → Nat) (c f r : Nat) (S : (Nat → Nat) × (Nat → Nat)) (j : Nat) : inn T O c f r S (j + 1) = (ac (inn T O c f r S j).1 (T c j) (f * O j), ac (inn T O c f r S j).2 (T c j) r) := rfl
theorem out_s (T : Nat → Nat → Nat) (O : Nat → Nat) (n : Nat) (F R : Nat → Nat) (c : Nat) : out T O n F R (c + 1) = if R c = 0 then out T O n F R c else inn T O c (F c) (R c) (out T O n F R c) n := rfl
theorem hrs_s (T : Nat → Nat → Nat) (O : Nat → Nat) (n c0 k : Nat) : hrs T O n c0 (k + 1) = out T O n (hrs T O n c0 k).1 (hrs T O n c0 k).2 128 := rfl
theorem sm_ac (F : Nat → Nat) (t v : Nat) : ∀ N, sm (ac F t v) N = sm F N + (if t < N then v else 0) := by
  intro N
  induction N with
  | zero => rfl
  | succ N ih =>
    rw [sm_s, sm_s, ih, ac_e]
    by_cases h : N = t
    · rw [if_neg (by omega), if_pos h, if_pos (by omega)]
      omega
    · rw [if_neg h]
      by_cases h2 : t < N
      · rw [if_pos h2, if_pos (by omega)]
        omega
      · rw [if_neg h2, if_neg (by omega)]
        omega
theorem sm_mem (F : Nat → Nat) : ∀ N x, x < N → F x ≤ sm F N := by
  intro N
  induction N with
  | zero => intro x hx; omega
  | succ N ih =>
    intro x hx
    rw [sm_s]
    rcases Nat.lt_or_ge x N with q | q
    · have := ih x q
      omega
    · have : x = N := by omega
      subst this
      omega
theorem inn_sm {T : Nat → Nat → Nat} {O : Nat → Nat} {c f r N : Nat} {S : (Nat → Nat) × (Nat → Nat)} : ∀ j, (∀ i, i < j → T c i < N) → sm (inn T O c f r S j).1 N = sm S.1 N + f * sm O j ∧ sm (inn T O c f r S j).2 N = sm S.2 N + r * j := by
  intro j
  induction j with
  | zero =>
    intro _
    rw [show sm O 0 = 0 from rfl, Nat.mul_zero, Nat.mul_zero, Nat.add_zero, Nat.add_zero]
    exact ⟨rfl, rfl⟩
  | succ j ih =>
    intro h
    obtain ⟨i1, i2⟩ := ih (fun i hi => h i (by omega))
    rw [inn_s, sm_ac, sm_ac, if_pos (h j (by omega)), if_pos (h j (by omega)), i1, i2, sm_s O j, Nat.mul_add, Nat.mul_succ]
    exact ⟨by omega, by omega⟩
theorem out_sm {T : Nat → Nat → Nat} {O : Nat → Nat} {n N : Nat} {F R : Nat → Nat} (hT : ∀ c j, c < N → j < n → T c j < N) : ∀ c, c ≤ N → sm (out T O n F R c).1 N ≤ sm F c * sm O n ∧ sm (out T O n F R c).2 N ≤ sm R c * n := by
  intro c
  induction c with
  | zero =>
    intro _
    have : ∀ N, sm (fun _ => 0) N = 0 := fun N => by
      induction N with
      | zero => rfl
      | succ N ih => rw [sm_s, ih]
    exact ⟨by show sm (fun _ => 0) N ≤ _; rw [this]; exact Nat.zero_le _, by show sm (fun _ => 0) N ≤ _; rw [this]; exact Nat.zero_le _⟩
  | succ c ih =>
    intro hc
    obtain ⟨i1, i2⟩ := ih (by omega)
    rw [out_s, sm_s F c, sm_s R c, Nat.add_mul, Nat.add_mul]
    by_cases q : R c = 0
    · rw [if_pos q]
      exact ⟨by omega, by omega⟩
    · rw [if_neg q]
      obtain ⟨k1, k2⟩ := inn_sm (T := T) (O := O) (c := c) (f := F c) (r := R c) (N := N) (S := out T O n F R c) n (fun i hi => hT c i (by omega) hi)
      rw [k1, k2]
      exact ⟨by omega, by omega⟩
theorem hrs_sm {T : Nat → Nat → Nat} {O : Nat → Nat} {n c0 : Nat} (hT : ∀ c j, c < 128 → j < n → T c j < 128) : ∀ k, sm (hrs T O n c0 k).1 128 ≤ sm O n ^ k ∧ sm (hrs T O n c0 k).2 128 ≤ n ^ k := by
  intro k
  induction k with
  | zero =>
    have : ∀ N, sm (fun x => if x = c0 then 1 else 0) N ≤ 1 ∧ (N ≤ c0 → sm (fun x => if x = c0 then 1 else 0) N = 0) := fun N => by
      induction N with
      | zero => exact ⟨Nat.zero_le _, fun _ => rfl⟩
      | succ N ih =>
        rw [sm_s]
        by_cases q : N = c0
        · have := ih.2 (by omega)
          rw [this, if_pos q]
          exact ⟨by omega, fun _ => by omega⟩
        · rw [if_neg q]
          exact ⟨ih.1, fun h => ih.2 (by omega)⟩
    exact ⟨(this 128).1, (this 128).1⟩
  | succ k ih =>
    obtain ⟨i1, i2⟩ := ih
    obtain ⟨o1, o2⟩ := out_sm (N := 128) (O := O) (F := (hrs T O n c0 k).1) (R := (hrs T O n c0 k).2) hT 128 (Nat.le_refl _)
    rw [hrs_s, Nat.pow_succ, Nat.pow_succ]
    exact ⟨Nat.le_trans o1 (Nat.mul_le_mul_right _ i1), Nat.le_trans o2 (Nat.mul_le_mul_right _ i2)⟩
theorem hrs_b {T : Nat → Nat → Nat} {O : Nat → Nat} {n c0 : Nat} (hT : ∀ c j, c < 128 → j < n → T c j < 128) (k : Nat) {x : Nat} (hx : x < 128) : (hrs T O n c0 k).1 x ≤ sm O n ^ k ∧ (hrs T O n c0 k).2 x ≤ n ^ k :=
  ⟨Nat.le_trans (sm_mem _ 128 x hx) (hrs_sm hT k).1, Nat.le_trans (sm_mem _ 128 x hx) (hrs_sm hT k).2⟩
/-- where there are odds there are ways -/
def Zz (S : (Nat → Nat) × (Nat → Nat)) : Prop := ∀ x, S.1 x = 0 ↔ S.2 x = 0
theorem inn_z {T : Nat → Nat → Nat} {O : Nat → Nat} {c f r : Nat} {S : (Nat → Nat) × (Nat → Nat)} (hS : Zz S) (hf : f = 0 ↔ r = 0) : ∀ j, (∀ i, i < j → 1 ≤ O i) → Zz (inn T O c f r S j) := by
  intro j
  induction j with
  | zero => intro _; exact hS
  | succ j ih =>
    intro h x
    have i := ih (fun i hi => h i (by omega)) x
    have hO := h j (by omega)
    rw [inn_s]
    show ac _ _ _ x = 0 ↔ ac _ _ _ x = 0
    rw [ac_e, ac_e]
    by_cases q : x = T c j
    · rw [if_pos q, if_pos q, Nat.add_eq_zero_iff, Nat.add_eq_zero_iff, i, Nat.mul_eq_zero]
      constructor
      · rintro ⟨a, b | b⟩
        · exact ⟨a, hf.mp b⟩
        · omega
      · rintro ⟨a, b⟩
        exact ⟨a, Or.inl (hf.mpr b)⟩
    · rw [if_neg q, if_neg q]
      exact i
theorem out_z {T : Nat → Nat → Nat} {O : Nat → Nat} {n : Nat} {F R : Nat → Nat} (hO : ∀ i, i < n → 1 ≤ O i) (hZ : Zz (F, R)) : ∀ c, Zz (out T O n F R c) := by
  intro c
  induction c with
  | zero => exact fun x => Iff.rfl
  | succ c ih =>
    rw [out_s]
    split
    · exact ih
    · exact inn_z ih (hZ c) n hO
theorem hrs_z {T : Nat → Nat → Nat} {O : Nat → Nat} {n c0 : Nat} (hO : ∀ i, i < n → 1 ≤ O i) : ∀ k, Zz (hrs T O n c0 k) := by
  intro k
  induction k with
  | zero => exact fun x => Iff.rfl
  | succ k ih => rw [hrs_s]; exact out_z hO ih 128
/-! the map once more: land, cells, where a wind leads -/
theorem land_all {m : Mem} {b w s c : Nat} {d : Bool} {sea now : Nat → Int32} {there : Int32} (hC : RCok m w s d) (hb : WI b) (hW : WR m.1 b sea now there) (hB : SeaB sea) (hl : ∀ x y, x < 16 → y < 8 → sea (78 + 16 * y + x) = 1 → x < sv sea 6 ∧ y < sv sea 7) (hc : c < 128) : fX9_isLand (b + 1) (nI c) m = some (ld sea c) := by
  have cc : c = 16 * (c / 16) + c % 16 := by omega
  by_cases h : c % 16 < sv sea 6 ∧ c / 16 < sv sea 7
  · rw [cc]
    exact land_c hC hb hW hB h.1 h.2
  · obtain ⟨e6, b6⟩ := sea_nI hB (j := 6) (by decide)
    obtain ⟨e7, b7⟩ := sea_nI hB (j := 7) (by decide)
    have b6 : sv sea 6 ≤ 16 := b6
    have b7 : sv sea 7 ≤ 8 := b7
    obtain ⟨q1, q2⟩ := at16n (y := c / 16) (x := c % 16) (by omega) (by omega)
    rw [← cc] at q1 q2
    rw [q2] at q1
    have i0 : ins (nI (c % 16)) (nI (c / 16)) (nI (sv sea 6)) (nI (sv sea 7)) = 0 := by
      apply Classical.byContradiction
      intro q
      obtain ⟨x, y, hx, hy, ex, ey⟩ := ins_n b6 b7 q
      have := nI_inj1 (by omega) (by omega) ex
      have := nI_inj1 (by omega) (by omega) ey
      omega
    have l0 : ld sea c = 0 := by
      unfold ld
      rw [if_neg]
      intro q
      rw [cc, ← Nat.add_assoc] at q
      exact h (hl _ _ (by omega) (by omega) q)
    simp only [fX9_isLand, fX9_isCell, kc_w hb, eq_self, gp_tt, isWithin_e, inside_c hb, bnd_s, gp_pos (show ¬ (16 : Int32) = 0 by decide), q1, q2, if_neg (show ¬ iw (nI c) 0 127 = 0 from iw_in (n := 128) hc (by decide)), hW.2.1.1, hW.2.1.2.1, e6, e7, i0, l0, if_true]
def tg (sea : Nat → Int32) (h c j : Nat) : Nat := if ld sea c = 0 then (gt (sea 6) (sea 7) (nI c) ((sv sea (12 + 2 * j) + h) % 8)).toNatClampNeg else c
theorem tg_lt {sea : Nat → Int32} (hB : SeaB sea) (h : Nat) {c : Nat} (hc : c < 128) (j : Nat) : tg sea h c j < 128 := by
  unfold tg
  split
  · obtain ⟨t, ht, e, -⟩ := gt_to hB hc ((sv sea (12 + 2 * j) + h) % 8)
    rw [e, nI_clamp (by omega)]
    exact ht
  · exact hc
theorem tg_gt {sea : Nat → Int32} (hB : SeaB sea) (h : Nat) {c : Nat} (hc : c < 128) (j : Nat) (hl : ld sea c = 0) : gt (sea 6) (sea 7) (nI c) ((sv sea (12 + 2 * j) + h) % 8) = nI (tg sea h c j) := by
  unfold tg
  rw [if_pos hl]
  obtain ⟨t, ht, e, -⟩ := gt_to hB hc ((sv sea (12 + 2 * j) + h) % 8)
  rw [e, nI_clamp (by omega)]
theorem tg_ld {sea : Nat → Int32} (h : Nat) {c : Nat} (j : Nat) (hl : ¬ ld sea c = 0) : c = tg sea h c j := by
  unfold tg
  rw [if_neg hl]
def od (sea : Nat → Int32) (j : Nat) : Nat := sv sea (13 + 2 * j)
theorem so_od (sea : Nat → Int32) : ∀ n, so sea n = sm (od sea) n := by
  intro n
  induction n with
  | zero => rfl
  | succ n ih => rw [so_s, sm_s, ih]; rfl
theorem uJ_o {m : Mem} {a k b : Nat} {v : Int64} (h : b ≠ a) : (uJ m a k v).2.1 b = m.2.1 b := by
  funext j
  simp [uJ, h]
/-! the class -/
def wa (d : Bool) : Nat := if d = true then 10 else 8
def ra (d : Bool) : Nat := if d = true then 11 else 9
theorem wr_d (d : Bool) : KC (wa d) = 15 ∧ NC (wa d) = 128 ∧ KC (ra d) = 14 ∧ NC (ra d) = 128 ∧ wa d ≠ wa (!d) ∧ ra d ≠ ra (!d) ∧ wa d ≠ 12 ∧ (ra d = 9 ∨ ra d = 11) := by
  cases d <;> decide
theorem rc_d {m : Mem} {w s : Nat} {d : Bool} (h : RCok m w s d) : m.2.2 7 0 = some (wa d) ∧ m.2.2 7 1 = some (ra d) ∧ m.2.2 7 2 = some (wa (!d)) ∧ m.2.2 7 3 = some (ra (!d)) ∧ m.2.2 7 4 = some 12 := by
  cases d <;> exact ⟨h 7 (by decide) 0 (by decide), h 7 (by decide) 1 (by decide), h 7 (by decide) 2 (by decide), h 7 (by decide) 3 (by decide), h 7 (by decide) 4 (by decide)⟩
/-- the class's rows of cells, now and next -/
def DS (m0 m : Mem) (w s : Nat) (d : Bool) (F R G H : Nat → Nat) : Prop := RCok m w s d ∧ (∀ a, a ≠ 9 → a ≠ 11 → m.1 a = m0.1 a) ∧ m.2.1 12 = m0.2.1 12 ∧ ∀ x, x < 128 → m.2.1 (wa d) x = lN (F x) ∧ m.1 (ra d) x = nI (R x) ∧ m.2.1 (wa (!d)) x = lN (G x) ∧ m.1 (ra (!d)) x = nI (H x)
def DC (m0 m : Mem) (w s : Nat) (d : Bool) (F R : Nat → Nat) : Prop := RCok m w s d ∧ (∀ a, a ≠ 9 → a ≠ 11 → m.1 a = m0.1 a) ∧ m.2.1 12 = m0.2.1 12 ∧ ∀ x, x < 128 → m.2.1 (wa d) x = lN (F x) ∧ m.1 (ra d) x = nI (R x)
theorem oddsOf_c {m : Mem} {b w s j : Nat} {d : Bool} {sea now : Nat → Int32} {there : Int32} (hC : RCok m w s d) (hb : WI b) (hW : WR m.1 b sea now there) (hB : SeaB sea) (hj : j < sv sea 0) : fX9_oddsOf (b + 1) (nI j) m = some (nI (od sea j)) := by
  obtain ⟨k4, e1, l1, e2, l2⟩ := wind_v hB hj
  simp only [fX9_oddsOf, isWithin_e, bnd_s, if_neg (show ¬ iw (nI j) 0 3 = 0 from iw_in (n := 4) k4 (by decide)), kc_w hb, rc_w hC hb, nc_w hb, eq_self, gp_tt, inb_nI k4 (by decide), nI_clamp (show j < 2 ^ 31 by omega), (hW.2.2.1 j hj).2, e2]
  rfl
theorem spread_1 {m0 m : Mem} {w s c t j : Nat} {d : Bool} {F R G H : Nat → Nat} {sea now : Nat → Int32} {there : Int32} (hws : WS w s) (hW : WR m0.1 w sea now there) (hB : SeaB sea) (h : DS m0 m w s d F R G H) (hc : c < 128) (ht : t < 128) (hj : j < sv sea 0) (hv st : Int32) : ∃ m2, fX3_spread_36 7 (w + 1) (nI c) hv st (nI j) (nI t) m = some (.inl (nI (j + 1), m2)) ∧ DS m0 m2 w s d F R (ac G t (F c * od sea j)) (ac H t (R c)) := by
  obtain ⟨hC, hf, h12, hx⟩ := h
  have hw : w = 15 ∨ w = 30 := by rcases hws with ⟨q, -⟩ | ⟨q, -⟩ <;> omega
  obtain ⟨c1, c2, c3, c4⟩ := hx c hc
  obtain ⟨t1, t2, t3, t4⟩ := hx t ht
  obtain ⟨d1, d2, d3, d4, d5, d6, d7, d8⟩ := wr_d d
  obtain ⟨n1, n2, n3, n4, n5, n6, n7, n8⟩ := wr_d (!d)
  obtain ⟨r0, r1, r2, r3, r4⟩ := rc_d hC
  have l9 := (wind_v hB hj).2.2.2.2
  have o9 : od sea j ≤ 9 := l9
  have hW2 : WR m.1 w sea now there := hW.c (fun a q _ => hf a (by omega) (by omega))
  have e1 : fX3_spread_36 7 (w + 1) (nI c) hv st (nI j) (nI t) m = some (.inl (nI (j + 1), uI (uJ m (wa (!d)) t (lN (G t + F c * od sea j))) (ra (!d)) t (nI (H t + R c)))) := by
    have u1 : ∀ v, (uJ m (wa (!d)) t v).1 = m.1 := fun v => rfl
    have u2 : ∀ v, (uJ m (wa (!d)) t v).2.2 = m.2.2 := fun v => rfl
    simp only [fX3_spread_36, kc_s, r0, r1, r2, r3, n1, n2, n3, n4, d1, d2, d3, d4, eq_self, gp_tt, bnd_s, lt1_e, kc_w hws.w, inb_nI hc (by decide), inb_nI ht (by decide), nI_clamp (show c < 2 ^ 31 by omega), nI_clamp (show t < 2 ^ 31 by omega), oddsOf_c hC hws.w hW2 hB hj, u1, u2, c1, c2, t3, t4, nI_1, nI_add, nI_l (show od sea j < 2 ^ 31 by omega), lN_mul, lN_add]
  refine ⟨_, e1, hC, fun a h9 h11 => ?_, ?_, fun x hx' => ?_⟩
  · rw [uI_o (by rcases n8 with q | q <;> omega)]
    exact hf a h9 h11
  · rw [uI_2, uJ_o (Ne.symm n7)]
    exact h12
  · obtain ⟨x1, x2, x3, x4⟩ := hx x hx'
    refine ⟨?_, ?_, ?_, ?_⟩
    · rw [uI_2, uJ_o d5]; exact x1
    · rw [uI_o d6]; exact x2
    · rw [uI_2, uJ_2, ac_e]
      by_cases q : x = t
      · rw [if_pos ⟨rfl, q⟩, if_pos q, q]
      · rw [if_neg (fun z => q z.2), if_neg q]; exact x3
    · rw [uI_1, ac_e]
      by_cases q : x = t
      · rw [if_pos ⟨rfl, q⟩, if_pos q, q]
      · rw [if_neg (fun z => q z.2), if_neg q]; exact x4
theorem spread_c {m0 m : Mem} {w s c h : Nat} {d : Bool} {F R G H : Nat → Nat} {sea now : Nat → Int32} {there : Int32} (hws : WS w s) (hW : WR m0.1 w sea now there) (hB : SeaB sea) (hl : ∀ x y, x < 16 → y < 8 → sea (78 + 16 * y + x) = 1 → x < sv sea 6 ∧ y < sv sea 7) (hD : DS m0 m w s d F R G H) (hc : c < 128) (hh : h < 8) : ∃ m2, fX3_spread 7 (w + 1) (nI c) (nI h) m = some m2 ∧ DS m0 m2 w s d F R (inn (tg sea h) (od sea) c (F c) (R c) (G, H) (sv sea 0)).1 (inn (tg sea h) (od sea) c (F c) (R c) (G, H) (sv sea 0)).2 := by
  have hw : w = 15 ∨ w = 30 := by rcases hws with ⟨q, -⟩ | ⟨q, -⟩ <;> omega
  have b0 : sv sea 0 ≤ 4 := (sea_nI hB (j := 0) (by decide)).2
  have e0 := (sea_nI hB (j := 0) (by decide)).1
  have wr : ∀ m' : Mem, (∀ a, a ≠ 9 → a ≠ 11 → m'.1 a = m0.1 a) → WR m'.1 w sea now there := fun m' hf => hW.c (fun a q _ => hf a (by omega) (by omega))
  unfold fX3_spread
  rw [gp_pos (kc_w hws.w).2.1, land_all hD.1 hws.w (wr m hD.2.1) hB hl hc, bnd_s, lt1_e]
  unfold fX3_spread_10
  obtain ⟨e, E, Q⟩ := iter_run (b := fun s => fX3_spread_10b 7 (w + 1) (nI c) (nI h) (ld sea c) s.1 s.2) (fun q => ∃ j, j ≤ sv sea 0 ∧ q.1 = nI j ∧ DS m0 q.2 w s d F R (inn (tg sea h) (od sea) c (F c) (R c) (G, H) j).1 (inn (tg sea h) (od sea) c (F c) (R c) (G, H) j).2) (fun q => 10 - q.1.toNatClampNeg) (fun e => DS m0 e w s d F R (inn (tg sea h) (od sea) c (F c) (R c) (G, H) (sv sea 0)).1 (inn (tg sea h) (od sea) c (F c) (R c) (G, H) (sv sea 0)).2) (by
    rintro ⟨v5, m1⟩ ⟨j, hj, q1, q2⟩
    simp only at q1 q2
    subst q1
    have hW1 := wr m1 q2.2.1
    rcases Nat.lt_or_ge j (sv sea 0) with c1 | c1
    · obtain ⟨m2, e1, e2⟩ := spread_1 hws hW hB q2 hc (tg_lt hB h hc j) c1 (nI h) (ld sea c)
      refine Or.inl ⟨(nI (j + 1), m2), ?_, ⟨j + 1, by omega, rfl, e2⟩, ?_⟩
      · simp only [fX3_spread_10b, kc_w hws.w, eq_self, gp_tt, hW1.2.1.2.2.1, e0, if_neg (nI_ge c1 (by omega)), behind_c q2.1 hws.w hW1 hB c1 hh, bnd_s]
        by_cases q : ld sea c = 0
        · rw [if_pos q, tg_gt hB h hc j q]; exact e1
        · rw [if_neg q]
          have := tg_ld h j q
          rw [← this] at e1
          exact e1
      · show 10 - (nI (j + 1)).toNatClampNeg < 10 - (nI j).toNatClampNeg
        rw [nI_clamp (by omega), nI_clamp (by omega)]
        omega
    · have : j = sv sea 0 := by omega
      rw [this] at q2
      refine Or.inr ⟨m1, ?_, q2⟩
      simp only [fX3_spread_10b, kc_w hws.w, eq_self, gp_tt, hW1.2.1.2.2.1, e0, if_pos (nI_le c1 (by omega))]) FU ((0 : Int32), m) ⟨0, Nat.zero_le _, rfl, hD⟩ (by have := FU_ge; show 10 - (0 : Int32).toNatClampNeg < FU; omega)
  rw [E, bnd_s]
  exact ⟨e, rfl, Q⟩
theorem swap_rc {m m2 : Mem} {w s : Nat} {d : Bool} (hC : RCok m w s d) (h0 : m2.2.2 7 0 = some (wa (!d))) (h1 : m2.2.2 7 1 = some (ra (!d))) (h2 : m2.2.2 7 2 = some (wa d)) (h3 : m2.2.2 7 3 = some (ra d)) (h4 : ∀ a k, ¬ (a = 7 ∧ k < 4) → m2.2.2 a k = m.2.2 a k) : RCok m2 w s (!d) := by
  intro a ha k hk
  by_cases q : a = 7 ∧ k < 4
  · obtain ⟨rfl, hk4⟩ := q
    rcases (by omega : k = 0 ∨ k = 1 ∨ k = 2 ∨ k = 3) with rfl | rfl | rfl | rfl
    · rw [h0]; cases d <;> rfl
    · rw [h1]; cases d <;> rfl
    · rw [h2]; cases d <;> rfl
    · rw [h3]; cases d <;> rfl
  · rw [h4 a k q, hC a ha k hk]
    unfold RC
    by_cases a0 : a = 0
    · rw [if_pos a0, if_pos a0]
    · rw [if_neg a0, if_neg a0]
      by_cases a7 : a = 7
      · rw [if_pos a7, if_pos a7]
        rcases (by omega : k = 4 ∨ k = 5 ∨ k = 6 ∨ k = 7 ∨ k = 8 ∨ k = 9) with rfl | rfl | rfl | rfl | rfl | rfl <;> cases d <;> rfl
      · rw [if_neg a7, if_neg a7]
theorem passHour_c {m0 m : Mem} {w s h : Nat} {d : Bool} {F R : Nat → Nat} {sea now : Nat → Int32} {there : Int32} (hws : WS w s) (hW : WR m0.1 w sea now there) (hB : SeaB sea) (hl : ∀ x y, x < 16 → y < 8 → sea (78 + 16 * y + x) = 1 → x < sv sea 6 ∧ y < sv sea 7) (hD : DC m0 m w s d F R) (hR : ∀ x, x < 128 → R x < 2 ^ 31) (hh : h < 8) : ∃ m2, fX3_passHour 7 (w + 1) (nI h) m = some m2 ∧ DC m0 m2 w s (!d) (out (tg sea h) (od sea) (sv sea 0) F R 128).1 (out (tg sea h) (od sea) (sv sea 0) F R 128).2 := by
  obtain ⟨d1, d2, d3, d4, d5, d6, d7, d8⟩ := wr_d d
  obtain ⟨n1, n2, n3, n4, n5, n6, n7, n8⟩ := wr_d (!d)
  unfold fX3_passHour fX3_passHour_2
  rw [lt1_e]
  -- the next rows are cleared
  obtain ⟨m1, E1, Q1⟩ := iter_run (b := fun s => fX3_passHour_2b 7 (w + 1) (nI h) s.1 s.2) (fun q => ∃ k, k ≤ 128 ∧ q.1 = nI k ∧ DC m0 q.2 w s d F R ∧ ∀ x, x < k → q.2.2.1 (wa (!d)) x = 0 ∧ q.2.1 (ra (!d)) x = 0) (fun q => 200 - q.1.toNatClampNeg) (fun e => DS m0 e w s d F R (fun _ => 0) (fun _ => 0)) (by
    rintro ⟨v, m1⟩ ⟨k, hk, q1, ⟨hC, hf, h12, hx⟩, q3⟩
    simp only at q1 hC hf h12 hx q3
    subst q1
    obtain ⟨r0, r1, r2, r3, r4⟩ := rc_d hC
    rcases Nat.lt_or_ge k 128 with c | c
    · refine Or.inl ⟨(nI (k + 1), uI (uJ m1 (wa (!d)) k 0) (ra (!d)) k 0), ?_, ⟨k + 1, by omega, rfl, ⟨hC, fun a h9 h11 => ?_, ?_, fun x hx' => ?_⟩, fun x hx' => ?_⟩, ?_⟩
      · have u2 : ∀ v, (uJ m1 (wa (!d)) k v).2.2 = m1.2.2 := fun v => rfl
        simp only [fX3_passHour_2b, if_neg (show ¬ (128 : Int32) ≤ nI k from nI_ge (b := 128) c (by decide)), kc_s, r2, r3, n1, n2, n3, n4, u2, eq_self, gp_tt, bnd_s, lt1_e, inb_nI c (by decide), nI_clamp (show k < 2 ^ 31 by omega), nI_1]
      · show (uI (uJ m1 (wa (!d)) k 0) (ra (!d)) k 0).1 a = _
        rw [uI_o (by rcases n8 with q | q <;> omega)]
        exact hf a h9 h11
      · show (uI (uJ m1 (wa (!d)) k 0) (ra (!d)) k 0).2.1 12 = _
        rw [uI_2, uJ_o (Ne.symm n7)]
        exact h12
      · show (uI (uJ m1 (wa (!d)) k 0) (ra (!d)) k 0).2.1 (wa d) x = _ ∧ (uI (uJ m1 (wa (!d)) k 0) (ra (!d)) k 0).1 (ra d) x = _
        rw [uI_2, uJ_o d5, uI_o d6]
        exact hx x hx'
      · show (uI (uJ m1 (wa (!d)) k 0) (ra (!d)) k 0).2.1 (wa (!d)) x = _ ∧ (uI (uJ m1 (wa (!d)) k 0) (ra (!d)) k 0).1 (ra (!d)) x = _
        rw [uI_2, uJ_2, uI_1]
        by_cases q : x = k
        · rw [if_pos ⟨rfl, q⟩, if_pos ⟨rfl, q⟩]; exact ⟨rfl, rfl⟩
        · rw [if_neg (fun z => q z.2), if_neg (fun z => q z.2)]; exact q3 x (by omega)
      · show 200 - (nI (k + 1)).toNatClampNeg < 200 - (nI k).toNatClampNeg
        rw [nI_clamp (by omega), nI_clamp (by omega)]
        omega
    · have : k = 128 := by omega
      subst this
      refine Or.inr ⟨m1, ?_, hC, hf, h12, fun x hx' => ⟨(hx x hx').1, (hx x hx').2, (q3 x hx').1, (q3 x hx').2⟩⟩
      simp only [fX3_passHour_2b, if_pos (show (128 : Int32) ≤ nI 128 by decide)]) FU ((0 : Int32), m) ⟨0, Nat.zero_le _, rfl, hD, fun x hx => by omega⟩ (by have := FU_ge; show 200 - (0 : Int32).toNatClampNeg < FU; omega)
  rw [E1, bnd_s]
  unfold fX3_passHour_29 fX3_passHour_31
  rw [lt1_e]
  -- every cell is spread
  obtain ⟨m2, E2, Q2⟩ := iter_run (b := fun s => fX3_passHour_31b 7 (w + 1) (nI h) s.1 s.2) (fun q => ∃ c, c ≤ 128 ∧ q.1 = nI c ∧ DS m0 q.2 w s d F R (out (tg sea h) (od sea) (sv sea 0) F R c).1 (out (tg sea h) (od sea) (sv sea 0) F R c).2) (fun q => 200 - q.1.toNatClampNeg) (fun e => DS m0 e w s d F R (out (tg sea h) (od sea) (sv sea 0) F R 128).1 (out (tg sea h) (od sea) (sv sea 0) F R 128).2) (by
    rintro ⟨v, n1'⟩ ⟨c, hc, q1, q2⟩
    simp only at q1 q2
    subst q1
    obtain ⟨r0, r1, r2, r3, r4⟩ := rc_d q2.1
    rcases Nat.lt_or_ge c 128 with c1 | c1
    · have rv := (q2.2.2.2 c c1).2.1
      have mu : 200 - (nI (c + 1)).toNatClampNeg < 200 - (nI c).toNatClampNeg := by
        rw [nI_clamp (by omega), nI_clamp (by omega)]
        omega
      have hRc := hR c c1
      by_cases z : R c = 0
      · refine Or.inl ⟨(nI (c + 1), n1'), ?_, ⟨c + 1, by omega, rfl, ?_⟩, mu⟩
        · simp only [fX3_passHour_31b, fX3_passHour_54, if_neg (show ¬ (128 : Int32) ≤ nI c from nI_ge (b := 128) c1 (by decide)), kc_s, r1, d3, d4, eq_self, gp_tt, bnd_s, lt1_e, inb_nI c1 (by decide), nI_clamp (show c < 2 ^ 31 by omega), rv, z, if_pos (show nI 0 ≤ 0 by decide), nI_1]
        · rw [out_s, if_pos z]; exact q2
      · obtain ⟨m2, e1, e2⟩ := spread_c hws hW hB hl q2 c1 hh
        refine Or.inl ⟨(nI (c + 1), m2), ?_, ⟨c + 1, by omega, rfl, ?_⟩, mu⟩
        · simp only [fX3_passHour_31b, fX3_passHour_54, if_neg (show ¬ (128 : Int32) ≤ nI c from nI_ge (b := 128) c1 (by decide)), kc_s, r1, d3, d4, eq_self, gp_tt, bnd_s, lt1_e, inb_nI c1 (by decide), nI_clamp (show c < 2 ^ 31 by omega), rv, if_neg (nI_nle (show 0 < R c by omega) hRc), e1, nI_1]
        · rw [out_s, if_neg z]; exact e2
    · have : c = 128 := by omega
      subst this
      refine Or.inr ⟨n1', ?_, q2⟩
      simp only [fX3_passHour_31b, if_pos (show (128 : Int32) ≤ nI 128 by decide)]) FU ((0 : Int32), m1) ⟨0, Nat.zero_le _, rfl, Q1⟩ (by have := FU_ge; show 200 - (0 : Int32).toNatClampNeg < FU; omega)
  rw [E2, bnd_s]
  obtain ⟨hC, hf, h12, hx⟩ := Q2
  obtain ⟨r0, r1, r2, r3, r4⟩ := rc_d hC
  have a1 : ∀ v x, (uR (uR m2 7 0 v) 7 2 x).2.2 7 1 = some (ra d) := fun v x => r1
  have a3 : ∀ v x, (uR (uR m2 7 0 v) 7 2 x).2.2 7 3 = some (ra (!d)) := fun v x => r3
  simp only [fX3_passHour_60, kc_s, eq_self, gp_tt, r0, r2, bnd_s, lt1_e, a1, a3]
  refine ⟨_, rfl, swap_rc hC rfl rfl rfl rfl (fun a k q => ?_), hf, h12, fun x hx' => ?_⟩
  · show (if a = 7 ∧ k = 3 then _ else if a = 7 ∧ k = 1 then _ else if a = 7 ∧ k = 2 then _ else if a = 7 ∧ k = 0 then _ else m2.2.2 a k) = _
    rw [if_neg (by omega), if_neg (by omega), if_neg (by omega), if_neg (by omega)]
  · exact ⟨(hx x hx').2.2.1, (hx x hx').2.2.2⟩
theorem begin_d {m : Mem} {w s c : Nat} {d : Bool} (hC : RCok m w s d) (hc : c < 128) : ∃ m2, fX3_begin 7 (nI c) m = some m2 ∧ DC m m2 w s d (fun x => if x = c then 1 else 0) (fun x => if x = c then 1 else 0) := by
  obtain ⟨d1, d2, d3, d4, d5, d6, d7, d8⟩ := wr_d d
  unfold fX3_begin fX3_begin_2
  rw [lt1_e]
  obtain ⟨m1, E1, Q1⟩ := iter_run (b := fun s => fX3_begin_2b 7 (nI c) s.1 s.2) (fun q => ∃ k, k ≤ 128 ∧ q.1 = nI k ∧ RCok q.2 w s d ∧ (∀ a, a ≠ 9 → a ≠ 11 → q.2.1 a = m.1 a) ∧ q.2.2.1 12 = m.2.1 12 ∧ ∀ x, x < k → q.2.2.1 (wa d) x = 0 ∧ q.2.1 (ra d) x = 0) (fun q => 200 - q.1.toNatClampNeg) (fun e => DC m e w s d (fun _ => 0) (fun _ => 0)) (by
    rintro ⟨v, m1⟩ ⟨k, hk, q1, hC1, hf, h12, q3⟩
    simp only at q1 hC1 hf h12 q3
    subst q1
    obtain ⟨r0, r1, r2, r3, r4⟩ := rc_d hC1
    rcases Nat.lt_or_ge k 128 with c1 | c1
    · refine Or.inl ⟨(nI (k + 1), uI (uJ m1 (wa d) k 0) (ra d) k 0), ?_, ⟨k + 1, by omega, rfl, hC1, fun a h9 h11 => ?_, ?_, fun x hx' => ?_⟩, ?_⟩
      · have u2 : ∀ v, (uJ m1 (wa d) k v).2.2 = m1.2.2 := fun v => rfl
        simp only [fX3_begin_2b, if_neg (show ¬ (128 : Int32) ≤ nI k from nI_ge (b := 128) c1 (by decide)), kc_s, r0, r1, d1, d2, d3, d4, u2, eq_self, gp_tt, bnd_s, lt1_e, inb_nI c1 (by decide), nI_clamp (show k < 2 ^ 31 by omega), nI_1]
      · show (uI (uJ m1 (wa d) k 0) (ra d) k 0).1 a = _
        rw [uI_o (by rcases d8 with q | q <;> omega)]
        exact hf a h9 h11
      · show (uI (uJ m1 (wa d) k 0) (ra d) k 0).2.1 12 = _
        rw [uI_2, uJ_o (Ne.symm d7)]
        exact h12
      · show (uI (uJ m1 (wa d) k 0) (ra d) k 0).2.1 (wa d) x = _ ∧ (uI (uJ m1 (wa d) k 0) (ra d) k 0).1 (ra d) x = _
        rw [uI_2, uJ_2, uI_1]
        by_cases q : x = k
        · rw [if_pos ⟨rfl, q⟩, if_pos ⟨rfl, q⟩]; exact ⟨rfl, rfl⟩
        · rw [if_neg (fun z => q z.2), if_neg (fun z => q z.2)]; exact q3 x (by omega)
      · show 200 - (nI (k + 1)).toNatClampNeg < 200 - (nI k).toNatClampNeg
        rw [nI_clamp (by omega), nI_clamp (by omega)]
        omega
    · have : k = 128 := by omega
      subst this
      refine Or.inr ⟨m1, ?_, hC1, hf, h12, fun x hx' => q3 x hx'⟩
      simp only [fX3_begin_2b, if_pos (show (128 : Int32) ≤ nI 128 by decide)]) FU ((0 : Int32), m) ⟨0, Nat.zero_le _, rfl, hC, fun _ _ _ => rfl, rfl, fun x hx => by omega⟩ (by have := FU_ge; show 200 - (0 : Int32).toNatClampNeg < FU; omega)
  rw [E1, bnd_s]
  obtain ⟨hC1, hf, h12, hx⟩ := Q1
  obtain ⟨r0, r1, r2, r3, r4⟩ := rc_d hC1
  have u2 : ∀ v, (uJ m1 (wa d) c v).2.2 = m1.2.2 := fun v => rfl
  have e1 : fX3_begin_29 7 (nI c) m1 = some (uI (uJ m1 (wa d) c 1) (ra d) c 1) := by
    simp only [fX3_begin_29, kc_s, r0, r1, d1, d2, d3, d4, u2, eq_self, gp_tt, bnd_s, lt1_e, inb_nI hc (by decide), nI_clamp (show c < 2 ^ 31 by omega)]
  refine ⟨_, e1, hC1, fun a h9 h11 => ?_, ?_, fun x hx' => ?_⟩
  · rw [uI_o (by rcases d8 with q | q <;> omega)]
    exact hf a h9 h11
  · rw [uI_2, uJ_o (Ne.symm d7)]
    exact h12
  · show (uI (uJ m1 (wa d) c 1) (ra d) c 1).2.1 (wa d) x = lN (if x = c then 1 else 0) ∧ (uI (uJ m1 (wa d) c 1) (ra d) c 1).1 (ra d) x = nI (if x = c then 1 else 0)
    rw [uI_2, uJ_2, uI_1]
    by_cases q : x = c
    · rw [if_pos (show wa d = wa d ∧ x = c from ⟨rfl, q⟩), if_pos (show ra d = ra d ∧ x = c from ⟨rfl, q⟩), if_pos q]; exact ⟨rfl, rfl⟩
    · rw [if_neg (show ¬ (wa d = wa d ∧ x = c) from fun z => q z.2), if_neg (show ¬ (ra d = ra d ∧ x = c) from fun z => q z.2), if_neg q]; exact hx x hx'
/-! the reference -/
def MS (m0 m : Mem) (F R G H : Nat → Nat) : Prop := RMok m ∧ m.1 = m0.1 ∧ (m.2.1 12 = m0.2.1 12 ∧ m.2.1 0 = m0.2.1 0) ∧ ∀ x, x < 128 → m.2.1 8 x = lN (F x) ∧ m.2.1 9 x = lN (R x) ∧ m.2.1 10 x = lN (G x) ∧ m.2.1 11 x = lN (H x)
def MC (m0 m : Mem) (F R : Nat → Nat) : Prop := RMok m ∧ m.1 = m0.1 ∧ (m.2.1 12 = m0.2.1 12 ∧ m.2.1 0 = m0.2.1 0) ∧ ∀ x, x < 128 → m.2.1 8 x = lN (F x) ∧ m.2.1 9 x = lN (R x)
theorem add_m {m0 m : Mem} {c t j : Nat} {F R G H : Nat → Nat} (hB : SeaB (m0.1 4)) (h : MS m0 m F R G H) (hc : c < 128) (ht : t < 128) (hj : j < sv (m0.1 4) 0) (hv : Int32) : ∃ m2, fX12_goHour_84 0 hv (nI c) (nI j) (nI t) m = some (.inl (nI (j + 1), m2)) ∧ MS m0 m2 F R (ac G t (F c * od (m0.1 4) j)) (ac H t (R c)) := by
  obtain ⟨hM, hf, ⟨h12, h00⟩, hx⟩ := h
  obtain ⟨c1, c2, c3, c4⟩ := hx c hc
  obtain ⟨t1, t2, t3, t4⟩ := hx t ht
  obtain ⟨k4, e1, l1, e2, l2⟩ := wind_v hB hj
  have o9 : od (m0.1 4) j ≤ 9 := l2
  have eo : m.1 4 (13 + 2 * j) = nI (od (m0.1 4) j) := by rw [hf]; exact e2
  have u9 : ∀ v x, (uJ m 10 t v).2.1 9 x = m.2.1 9 x := fun v x => by rw [uJ_o (by decide)]
  have u11 : ∀ v x, (uJ m 10 t v).2.1 11 x = m.2.1 11 x := fun v x => by rw [uJ_o (by decide)]
  have u2 : ∀ v, (uJ m 10 t v).2.2 = m.2.2 := fun v => rfl
  have E : fX12_goHour_84 0 hv (nI c) (nI j) (nI t) m = some (.inl (nI (j + 1), uJ (uJ m 10 t (lN (G t + F c * od (m0.1 4) j))) 11 t (lN (H t + R c)))) := by
    simp only [fX12_goHour_84, km_s, rm_s hM, eq_self, gp_tt, bnd_s, lt1_e, inb_nI hc (by decide), inb_nI ht (by decide), nI_clamp (show c < 2 ^ 31 by omega), nI_clamp (show t < 2 ^ 31 by omega), oddsOf_m hM (show j < 90 by omega), eo, u2, u9, u11, c1, c2, t3, t4, nI_1, nI_l (show od (m0.1 4) j < 2 ^ 31 by omega), lN_mul, lN_add]
  refine ⟨_, E, hM, hf, ⟨?_, ?_⟩, fun x hx' => ?_⟩
  · rw [uJ_o (by decide), uJ_o (by decide)]; exact h12
  · rw [uJ_o (by decide), uJ_o (by decide)]; exact h00
  · obtain ⟨x1, x2, x3, x4⟩ := hx x hx'
    refine ⟨?_, ?_, ?_, ?_⟩
    · rw [uJ_o (by decide), uJ_o (by decide)]; exact x1
    · rw [uJ_o (by decide), uJ_o (by decide)]; exact x2
    · rw [uJ_o (by decide), uJ_2, ac_e]
      by_cases q : x = t
      · rw [if_pos ⟨rfl, q⟩, if_pos q, q]
      · rw [if_neg (fun z => q z.2), if_neg q]; exact x3
    · rw [uJ_2, ac_e]
      by_cases q : x = t
      · rw [if_pos ⟨rfl, q⟩, if_pos q, q]
      · rw [if_neg (fun z => q z.2), if_neg q, uJ_o (by decide)]; exact x4
theorem cell_go {m0 m : Mem} {c h : Nat} {F R G H : Nat → Nat} (hB : SeaB (m0.1 4)) (hD : MS m0 m F R G H) (hc : c < 128) (hh : h < 8) (hR : R c < 2 ^ 31) : ∃ m2, fX12_goHour_40 0 (nI h) (nI c) 0 m = some (.inl (nI (c + 1), m2)) ∧ MS m0 m2 F R (if R c = 0 then (G, H) else inn (tg (m0.1 4) h) (od (m0.1 4)) c (F c) (R c) (G, H) (sv (m0.1 4) 0)).1 (if R c = 0 then (G, H) else inn (tg (m0.1 4) h) (od (m0.1 4)) c (F c) (R c) (G, H) (sv (m0.1 4) 0)).2 := by
  have b0 : sv (m0.1 4) 0 ≤ 4 := (sea_nI hB (j := 0) (by decide)).2
  have e0 := (sea_nI hB (j := 0) (by decide)).1
  unfold fX12_goHour_40
  obtain ⟨e, E, Q⟩ := iter_run (b := fun s => fX12_goHour_40b 0 (nI h) (nI c) s.1 s.2) (fun q => ∃ j, j ≤ sv (m0.1 4) 0 ∧ q.1 = nI j ∧ (j = 0 ∨ ¬ R c = 0) ∧ MS m0 q.2 F R (inn (tg (m0.1 4) h) (od (m0.1 4)) c (F c) (R c) (G, H) j).1 (inn (tg (m0.1 4) h) (od (m0.1 4)) c (F c) (R c) (G, H) j).2) (fun q => 10 - q.1.toNatClampNeg) (fun e => MS m0 e F R (if R c = 0 then (G, H) else inn (tg (m0.1 4) h) (od (m0.1 4)) c (F c) (R c) (G, H) (sv (m0.1 4) 0)).1 (if R c = 0 then (G, H) else inn (tg (m0.1 4) h) (od (m0.1 4)) c (F c) (R c) (G, H) (sv (m0.1 4) 0)).2) (by
    rintro ⟨v5, m1⟩ ⟨j, hj, q1, q0, q2⟩
    simp only at q1 q2
    subst q1
    obtain ⟨hM, hf, h12, hx⟩ := id q2
    have s4 : m1.1 4 = m0.1 4 := by rw [hf]
    have e0' : m1.1 4 0 = nI (sv (m0.1 4) 0) := by rw [s4]; exact e0
    rcases Nat.lt_or_ge j (sv (m0.1 4) 0) with c1 | c1
    · by_cases z : R c = 0
      · have j0 : j = 0 := by
          rcases q0 with q | q
          · exact q
          · exact absurd z q
        subst j0
        refine Or.inr ⟨m1, ?_, ?_⟩
        · simp only [fX12_goHour_40b, km_s, rm_s hM, eq_self, gp_tt, bnd_s, clL, inL, e0', if_neg (nI_ge c1 (by omega)), inb_nI hc (by decide), nI_clamp (show c < 2 ^ 31 by omega), (hx c hc).2.1, z, if_pos (show lN 0 ≤ (0 : Int64) by decide)]
        · rw [if_pos z]; exact q2
      · obtain ⟨m2, e1, e2⟩ := add_m hB q2 hc (tg_lt hB h hc j) c1 (nI h)
        have n0 : ¬ lN (R c) ≤ (0 : Int64) := fun q => by
          have := (pk_lLE (a := R c) (b := 0) (by omega) (by decide)).mp q
          omega
        refine Or.inl ⟨(nI (j + 1), m2), ?_, ⟨j + 1, by omega, rfl, Or.inr z, e2⟩, ?_⟩
        · have wy := wayBy_m (m := m1) (k := j) (h := h) hM (by rw [s4]; exact hB) (by rw [s4]; exact c1) hh
          rw [s4] at wy
          have gn := gone_m (m := m1) (W := (sv (m0.1 4) (12 + 2 * j) + h) % 8) hM (by omega) (nI c)
          rw [s4] at gn
          have ln := land_m (m := m1) (a := c) hM hc
          rw [s4] at ln
          simp only [fX12_goHour_40b, km_s, rm_s hM, eq_self, gp_tt, bnd_s, clL, inL, e0', if_neg (nI_ge c1 (by omega)), inb_nI hc (by decide), nI_clamp (show c < 2 ^ 31 by omega), (hx c hc).2.1, if_neg n0, ln, wy, gn]
          by_cases q : ld (m0.1 4) c = 0
          · rw [if_pos q, tg_gt hB h hc j q]; exact e1
          · rw [if_neg q]
            have := tg_ld h j q
            rw [← this] at e1
            exact e1
        · show 10 - (nI (j + 1)).toNatClampNeg < 10 - (nI j).toNatClampNeg
          rw [nI_clamp (by omega), nI_clamp (by omega)]
          omega
    · have jn : j = sv (m0.1 4) 0 := by omega
      refine Or.inr ⟨m1, ?_, ?_⟩
      · simp only [fX12_goHour_40b, km_s, rm_s hM, eq_self, gp_tt, bnd_s, clL, inL, e0', if_pos (nI_le c1 (by omega))]
      · by_cases z : R c = 0
        · have j0 : j = 0 := by
            rcases q0 with q | q
            · exact q
            · exact absurd z q
          subst j0
          rw [if_pos z]; exact q2
        · rw [if_neg z, ← jn]; exact q2) FU ((0 : Int32), m) ⟨0, Nat.zero_le _, rfl, Or.inl rfl, hD⟩ (by have := FU_ge; show 10 - (0 : Int32).toNatClampNeg < FU; omega)
  rw [E, bnd_s]
  refine ⟨e, ?_, Q⟩
  simp only [fX12_goHour_131, lt1_e, nI_1]
theorem goHour_m {m0 m : Mem} {h : Nat} {F R : Nat → Nat} (hB : SeaB (m0.1 4)) (hD : MC m0 m F R) (hR : ∀ x, x < 128 → R x < 2 ^ 31) (hh : h < 8) : ∃ m2, fX12_goHour 0 (nI h) m = some m2 ∧ MC m0 m2 (out (tg (m0.1 4) h) (od (m0.1 4)) (sv (m0.1 4) 0) F R 128).1 (out (tg (m0.1 4) h) (od (m0.1 4)) (sv (m0.1 4) 0) F R 128).2 := by
  unfold fX12_goHour fX12_goHour_2
  rw [lt1_e]
  obtain ⟨m1, E1, Q1⟩ := iter_run (b := fun s => fX12_goHour_2b 0 (nI h) s.1 s.2) (fun q => ∃ k, k ≤ 128 ∧ q.1 = nI k ∧ MC m0 q.2 F R ∧ ∀ x, x < k → q.2.2.1 10 x = 0 ∧ q.2.2.1 11 x = 0) (fun q => 200 - q.1.toNatClampNeg) (fun e => MS m0 e F R (fun _ => 0) (fun _ => 0)) (by
    rintro ⟨v, m1⟩ ⟨k, hk, q1, ⟨hM, hf, ⟨h12, h00⟩, hx⟩, q3⟩
    simp only at q1 hM hf h12 h00 hx q3
    subst q1
    rcases Nat.lt_or_ge k 128 with c | c
    · refine Or.inl ⟨(nI (k + 1), uJ (uJ m1 10 k 0) 11 k 0), ?_, ⟨k + 1, by omega, rfl, ⟨hM, hf, ⟨?_, ?_⟩, fun x hx' => ?_⟩, fun x hx' => ?_⟩, ?_⟩
      · have u2 : ∀ v, (uJ m1 10 k v).2.2 = m1.2.2 := fun v => rfl
        simp only [fX12_goHour_2b, if_neg (show ¬ (128 : Int32) ≤ nI k from nI_ge (b := 128) c (by decide)), km_s, rm_s hM, u2, eq_self, gp_tt, bnd_s, lt1_e, inb_nI c (by decide), nI_clamp (show k < 2 ^ 31 by omega), nI_1]
      · show (uJ (uJ m1 10 k 0) 11 k 0).2.1 12 = _
        rw [uJ_o (by decide), uJ_o (by decide)]; exact h12
      · show (uJ (uJ m1 10 k 0) 11 k 0).2.1 0 = _
        rw [uJ_o (by decide), uJ_o (by decide)]; exact h00
      · show (uJ (uJ m1 10 k 0) 11 k 0).2.1 8 x = _ ∧ (uJ (uJ m1 10 k 0) 11 k 0).2.1 9 x = _
        rw [uJ_o (by decide), uJ_o (by decide), uJ_o (by decide), uJ_o (by decide)]
        exact hx x hx'
      · show (uJ (uJ m1 10 k 0) 11 k 0).2.1 10 x = _ ∧ (uJ (uJ m1 10 k 0) 11 k 0).2.1 11 x = _
        rw [uJ_o (by decide), uJ_2, uJ_2]
        by_cases q : x = k
        · rw [if_pos ⟨rfl, q⟩, if_pos ⟨rfl, q⟩]; exact ⟨rfl, rfl⟩
        · rw [if_neg (fun z => q z.2), if_neg (fun z => q z.2), uJ_o (by decide)]; exact q3 x (by omega)
      · show 200 - (nI (k + 1)).toNatClampNeg < 200 - (nI k).toNatClampNeg
        rw [nI_clamp (by omega), nI_clamp (by omega)]
        omega
    · have : k = 128 := by omega
      subst this
      refine Or.inr ⟨m1, ?_, hM, hf, ⟨h12, h00⟩, fun x hx' => ⟨(hx x hx').1, (hx x hx').2, (q3 x hx').1, (q3 x hx').2⟩⟩
      simp only [fX12_goHour_2b, if_pos (show (128 : Int32) ≤ nI 128 by decide)]) FU ((0 : Int32), m) ⟨0, Nat.zero_le _, rfl, hD, fun x hx => by omega⟩ (by have := FU_ge; show 200 - (0 : Int32).toNatClampNeg < FU; omega)
  rw [E1, bnd_s]
  unfold fX12_goHour_29 fX12_goHour_31
  rw [lt1_e]
  obtain ⟨m2, E2, Q2⟩ := iter_run (b := fun s => fX12_goHour_31b 0 (nI h) s.1 s.2) (fun q => ∃ c, c ≤ 128 ∧ q.1 = nI c ∧ MS m0 q.2 F R (out (tg (m0.1 4) h) (od (m0.1 4)) (sv (m0.1 4) 0) F R c).1 (out (tg (m0.1 4) h) (od (m0.1 4)) (sv (m0.1 4) 0) F R c).2) (fun q => 200 - q.1.toNatClampNeg) (fun e => MS m0 e F R (out (tg (m0.1 4) h) (od (m0.1 4)) (sv (m0.1 4) 0) F R 128).1 (out (tg (m0.1 4) h) (od (m0.1 4)) (sv (m0.1 4) 0) F R 128).2) (by
    rintro ⟨v, n1'⟩ ⟨c, hc, q1, q2⟩
    simp only at q1 q2
    subst q1
    rcases Nat.lt_or_ge c 128 with c1 | c1
    · obtain ⟨m2, e1, e2⟩ := cell_go hB q2 c1 hh (hR c c1)
      refine Or.inl ⟨(nI (c + 1), m2), ?_, ⟨c + 1, by omega, rfl, ?_⟩, ?_⟩
      · simp only [fX12_goHour_31b, if_neg (show ¬ (128 : Int32) ≤ nI c from nI_ge (b := 128) c1 (by decide)), lt1_e]
        exact e1
      · rw [out_s]; exact e2
      · show 200 - (nI (c + 1)).toNatClampNeg < 200 - (nI c).toNatClampNeg
        rw [nI_clamp (by omega), nI_clamp (by omega)]
        omega
    · have : c = 128 := by omega
      subst this
      refine Or.inr ⟨n1', ?_, q2⟩
      simp only [fX12_goHour_31b, if_pos (show (128 : Int32) ≤ nI 128 by decide)]) FU ((0 : Int32), m1) ⟨0, Nat.zero_le _, rfl, Q1⟩ (by have := FU_ge; show 200 - (0 : Int32).toNatClampNeg < FU; omega)
  rw [E2, bnd_s]
  generalize out (tg (m0.1 4) h) (od (m0.1 4)) (sv (m0.1 4) 0) F R 128 = S at Q2 ⊢
  unfold fX12_goHour_137 fX12_goHour_139
  rw [lt1_e]
  obtain ⟨m3, E3, Q3⟩ := iter_run (b := fun s => fX12_goHour_139b 0 s.1 s.2) (fun q => ∃ k, k ≤ 128 ∧ q.1 = nI k ∧ RMok q.2 ∧ q.2.1 = m0.1 ∧ (q.2.2.1 12 = m0.2.1 12 ∧ q.2.2.1 0 = m0.2.1 0) ∧ (∀ x, x < 128 → q.2.2.1 10 x = lN (S.1 x) ∧ q.2.2.1 11 x = lN (S.2 x)) ∧ ∀ x, x < k → q.2.2.1 8 x = lN (S.1 x) ∧ q.2.2.1 9 x = lN (S.2 x)) (fun q => 200 - q.1.toNatClampNeg) (fun e => MC m0 e S.1 S.2) (by
    rintro ⟨v, n1'⟩ ⟨k, hk, q1, hM, hf, ⟨h12, h00⟩, hx, q3⟩
    simp only at q1 hM hf h12 h00 hx q3
    subst q1
    rcases Nat.lt_or_ge k 128 with c | c
    · have u2 : ∀ v, (uJ n1' 8 k v).2.2 = n1'.2.2 := fun v => rfl
      have u11 : ∀ v x, (uJ n1' 8 k v).2.1 11 x = n1'.2.1 11 x := fun v x => by rw [uJ_o (by decide)]
      refine Or.inl ⟨(nI (k + 1), uJ (uJ n1' 8 k (lN (S.1 k))) 9 k (lN (S.2 k))), ?_, ⟨k + 1, by omega, rfl, hM, hf, ⟨?_, ?_⟩, fun x hx' => ?_, fun x hx' => ?_⟩, ?_⟩
      · simp only [fX12_goHour_139b, if_neg (show ¬ (128 : Int32) ≤ nI k from nI_ge (b := 128) c (by decide)), km_s, rm_s hM, u2, u11, eq_self, gp_tt, bnd_s, lt1_e, inb_nI c (by decide), nI_clamp (show k < 2 ^ 31 by omega), nI_1, (hx k c).1, (hx k c).2]
      · show (uJ (uJ n1' 8 k _) 9 k _).2.1 12 = _
        rw [uJ_o (by decide), uJ_o (by decide)]; exact h12
      · show (uJ (uJ n1' 8 k _) 9 k _).2.1 0 = _
        rw [uJ_o (by decide), uJ_o (by decide)]; exact h00
      · show (uJ (uJ n1' 8 k _) 9 k _).2.1 10 x = _ ∧ (uJ (uJ n1' 8 k _) 9 k _).2.1 11 x = _
        rw [uJ_o (by decide), uJ_o (by decide), uJ_o (by decide), uJ_o (by decide)]
        exact hx x hx'
      · show (uJ (uJ n1' 8 k _) 9 k _).2.1 8 x = _ ∧ (uJ (uJ n1' 8 k _) 9 k _).2.1 9 x = _
        rw [uJ_o (by decide), uJ_2, uJ_2]
        by_cases q : x = k
        · rw [if_pos ⟨rfl, q⟩, if_pos ⟨rfl, q⟩, q]; exact ⟨rfl, rfl⟩
        · rw [if_neg (fun z => q z.2), if_neg (fun z => q z.2), uJ_o (by decide)]; exact q3 x (by omega)
      · show 200 - (nI (k + 1)).toNatClampNeg < 200 - (nI k).toNatClampNeg
        rw [nI_clamp (by omega), nI_clamp (by omega)]
        omega
    · have : k = 128 := by omega
      subst this
      refine Or.inr ⟨n1', ?_, hM, hf, ⟨h12, h00⟩, q3⟩
      simp only [fX12_goHour_139b, if_pos (show (128 : Int32) ≤ nI 128 by decide)]) FU ((0 : Int32), m2) ⟨0, Nat.zero_le _, rfl, Q2.1, Q2.2.1, Q2.2.2.1, fun x hx => ⟨(Q2.2.2.2 x hx).2.2.1, (Q2.2.2.2 x hx).2.2.2⟩, fun x hx => by omega⟩ (by have := FU_ge; show 200 - (0 : Int32).toNatClampNeg < FU; omega)
  rw [E3, bnd_s]
  exact ⟨m3, rfl, Q3⟩
theorem layOne_m {m : Mem} {c : Nat} (hM0 : RMok m) (hc : c < 128) : ∃ m2, fX12_layOne 0 (nI c) m = some m2 ∧ MC m m2 (fun x => if x = c then 1 else 0) (fun x => if x = c then 1 else 0) := by
  unfold fX12_layOne fX12_layOne_2
  rw [lt1_e]
  obtain ⟨m1, E1, Q1⟩ := iter_run (b := fun s => fX12_layOne_2b 0 (nI c) s.1 s.2) (fun q => ∃ k, k ≤ 128 ∧ q.1 = nI k ∧ RMok q.2 ∧ q.2.1 = m.1 ∧ (q.2.2.1 12 = m.2.1 12 ∧ q.2.2.1 0 = m.2.1 0) ∧ ∀ x, x < k → q.2.2.1 8 x = lN (if x = c then 1 else 0) ∧ q.2.2.1 9 x = lN (if x = c then 1 else 0)) (fun q => 200 - q.1.toNatClampNeg) (fun e => MC m e (fun x => if x = c then 1 else 0) (fun x => if x = c then 1 else 0)) (by
    rintro ⟨v, m1⟩ ⟨k, hk, q1, hM, hf, ⟨h12, h00⟩, q3⟩
    simp only at q1 hM hf h12 h00 q3
    subst q1
    rcases Nat.lt_or_ge k 128 with c1 | c1
    · have u2 : ∀ v, (uJ m1 8 k v).2.2 = m1.2.2 := fun v => rfl
      have u8 : ∀ v, (uJ m1 8 k v).2.1 8 k = v := fun v => by rw [uJ_2, if_pos ⟨rfl, rfl⟩]
      refine Or.inl ⟨(nI (k + 1), uJ (uJ m1 8 k (lN (if k = c then 1 else 0))) 9 k (lN (if k = c then 1 else 0))), ?_, ⟨k + 1, by omega, rfl, hM, hf, ⟨?_, ?_⟩, fun x hx' => ?_⟩, ?_⟩
      · simp only [fX12_layOne_2b, fX12_layOne_24, if_neg (show ¬ (128 : Int32) ≤ nI k from nI_ge (b := 128) c1 (by decide)), km_s, rm_s hM, u2, u8, eq_self, gp_tt, bnd_s, lt1_e, inb_nI c1 (by decide), nI_clamp (show k < 2 ^ 31 by omega), nI_1]
        by_cases q : k = c
        · rw [if_pos (by rw [q]), if_pos q]
          rfl
        · rw [if_neg (fun z => q (nI_inj1 (by omega) (by omega) z)), if_neg q]
          rfl
      · show (uJ (uJ m1 8 k _) 9 k _).2.1 12 = _
        rw [uJ_o (by decide), uJ_o (by decide)]; exact h12
      · show (uJ (uJ m1 8 k _) 9 k _).2.1 0 = _
        rw [uJ_o (by decide), uJ_o (by decide)]; exact h00
      · show (uJ (uJ m1 8 k _) 9 k _).2.1 8 x = _ ∧ (uJ (uJ m1 8 k _) 9 k _).2.1 9 x = _
        rw [uJ_o (by decide), uJ_2, uJ_2]
        by_cases q : x = k
        · rw [if_pos (show 8 = 8 ∧ x = k from ⟨rfl, q⟩), if_pos (show 9 = 9 ∧ x = k from ⟨rfl, q⟩), q]; exact ⟨rfl, rfl⟩
        · rw [if_neg (show ¬ (8 = 8 ∧ x = k) from fun z => q z.2), if_neg (show ¬ (9 = 9 ∧ x = k) from fun z => q z.2), uJ_o (by decide)]; exact q3 x (by omega)
      · show 200 - (nI (k + 1)).toNatClampNeg < 200 - (nI k).toNatClampNeg
        rw [nI_clamp (by omega), nI_clamp (by omega)]
        omega
    · have : k = 128 := by omega
      subst this
      refine Or.inr ⟨m1, ?_, hM, hf, ⟨h12, h00⟩, q3⟩
      simp only [fX12_layOne_2b, if_pos (show (128 : Int32) ≤ nI 128 by decide)]) FU ((0 : Int32), m) ⟨0, Nat.zero_le _, rfl, hM0, rfl, ⟨rfl, rfl⟩, fun x hx => by omega⟩ (by have := FU_ge; show 200 - (0 : Int32).toNatClampNeg < FU; omega)
  rw [E1, bnd_s]
  exact ⟨m1, rfl, Q1⟩
