/-- a story's numbers, and its weight by both -/
def wv (sea : Nat → Int32) (sn k : Nat) : Nat := wN (sv sea (60 + 3 * k)) (sv sea (61 + 3 * k)) (sv sea (62 + 3 * k)) sn (sv sea 4)
theorem sb_story : ∀ k, k < 6 → sbL.getD (60 + 3 * k) 0 ≤ 9 ∧ sbL.getD (61 + 3 * k) 0 ≤ 1023 ∧ sbL.getD (62 + 3 * k) 0 ≤ 1023 := by decide +kernel
theorem wv_le {sea : Nat → Int32} (hB : SeaB sea) (sn : Nat) {k : Nat} (hk : k < 6) : wv sea sn k ≤ 9437184 := by
  obtain ⟨-, b0⟩ := sea_nI hB (j := 60 + 3 * k) (by omega)
  obtain ⟨-, b4⟩ := sea_nI hB (j := 4) (by decide)
  have b4 : sv sea 4 ≤ 10 := b4
  have b0 := Nat.le_trans b0 (sb_story k hk).1
  have h := wN_le (sv sea (60 + 3 * k)) (sv sea (61 + 3 * k)) (sv sea (62 + 3 * k)) sn (sv sea 4)
  have h2 : 4 ^ sv sea 4 ≤ 4 ^ 10 := Nat.pow_le_pow_right (by decide) b4
  have h3 : sv sea (60 + 3 * k) * 4 ^ sv sea 4 ≤ 9 * 4 ^ 10 := Nat.mul_le_mul b0 h2
  unfold wv
  omega
theorem weights {mc mm m2 : Mem} {w s sn k : Nat} {d : Bool} (hC : RCok mc w s d) (hM : RMok m2) (h4 : m2.1 4 = mm.1 4) (hws : WS w s) (hW : WR mc.1 w (mm.1 4) (mm.1 6) (mm.1 0 7)) (hS : Sok (mm.1 4) (mm.1 6) (mm.1 0 7)) (hk : k < sv (mm.1 4) 5) (hsn : sn < 2 ^ 10) : fX1_weight (w + 9) (nI k) (nI sn) mc = some (lN (wv (mm.1 4) sn k)) ∧ fX12_weightOf 0 (nI k) (nI sn) m2 = some (lN (wv (mm.1 4) sn k)) := by
  have hB := hS.2.1
  obtain ⟨e4, b4⟩ := sea_nI hB (j := 4) (by decide)
  have b4 : sv (mm.1 4) 4 ≤ 10 := b4
  obtain ⟨e5, b5⟩ := sea_nI hB (j := 5) (by decide)
  have b5 : sv (mm.1 4) 5 ≤ 6 := b5
  have hk6 : k < 6 := by omega
  obtain ⟨s0, s1, s2⟩ := sb_story k hk6
  obtain ⟨e60, b60⟩ := sea_nI hB (j := 60 + 3 * k) (by omega)
  obtain ⟨e61, b61⟩ := sea_nI hB (j := 61 + 3 * k) (by omega)
  obtain ⟨e62, b62⟩ := sea_nI hB (j := 62 + 3 * k) (by omega)
  obtain ⟨g1, g2, g3⟩ := hW.2.2.2.2.2.2.2.2.2 k hk
  have hlr : sv (mm.1 4) (61 + 3 * k) &&& sv (mm.1 4) (62 + 3 * k) = 0 := by
    rcases hS.1 with h0 | h1
    · have z := hS.2.2.2.2.2.2 h0 (61 + 3 * k) (by omega)
      have : sv (mm.1 4) (61 + 3 * k) = 0 := by unfold sv; rw [z]; rfl
      rw [this]
      simp
    · exact ((hS.2.2.2.2.2.1 h1).2.2.2.2.2.2.1 k hk).2.2.2
  constructor
  · exact weight_c hC hws.w b5 hk b4 (by rw [hW.2.2.2.2.2.2.2.1.2]; exact e5) (by rw [hW.2.2.2.2.2.2.2.1.1]; exact e4) (by omega) (by omega) hsn (by omega) (by rw [g1]; exact e61) (by rw [g2]; exact e62) (by rw [g3]; exact e60)
  · exact weight_m hM hk6 b4 (by rw [h4]; exact e4) (by omega) (by omega) hsn (by omega) (by rw [h4]; exact e61) (by rw [h4]; exact e62) (by rw [h4]; exact e60) hlr
def lk (f : Nat → Nat) : Nat → Int32 × Nat
  | 0 => (-1000000, 0)
  | n + 1 => if f n ≤ (lk f n).2 then lk f n else (nI n, f n)
theorem lk_s (f : Nat → Nat) (n : Nat) : lk f (n + 1) = if f n ≤ (lk f n).2 then lk f n else (nI n, f n) := rfl
theorem lk_le {f : Nat → Nat} {B : Nat} : ∀ n, (∀ j, j < n → f j ≤ B) → (lk f n).2 ≤ B := by
  intro n
  induction n with
  | zero => intro _; exact Nat.zero_le _
  | succ n ih =>
    intro h
    rw [lk_s]
    split
    · exact ih (fun j hj => h j (by omega))
    · exact h n (by omega)
theorem op28 : Op28 Rel := by
  intro mc mm h v1
  obtain ⟨hM, w, s, d, hC, hws, hRows, hTape, hMisc, hW, hS, hImg, hTr⟩ := id h
  obtain ⟨e4, b4⟩ := sea_nI hS.2.1 (j := 4) (by decide)
  have b4 : sv (mm.1 4) 4 ≤ 10 := b4
  obtain ⟨e5, b5⟩ := sea_nI hS.2.1 (j := 5) (by decide)
  have b5 : sv (mm.1 4) 5 ≤ 6 := b5
  simp only [fX11_likeliest, fX12_likeliest, bnd_s, lt1_e, km_s, kc_s, rc_s hC, rc_w hC hws.w, kc_w hws.w, rm_s hM, th_1, eq_self, gp_tt, clL, inL, areSigns_c hws.w, areSigns_m hM.th, hW.2.2.2.2.2.2.2.1.1, hW.2.2.2.2.2.2.2.1.2]
  by_cases h1 : mm.1 4 5 = 0
  · exact ⟨_, _, if_pos h1, if_pos h1, h.thrown⟩
  simp only [if_neg h1]
  rw [e4]
  by_cases h2 : iw v1 0 ((1 : Int32) <<< (nI (sv (mm.1 4) 4) &&& 31) - 1) = 0
  · exact ⟨_, _, if_pos h2, if_pos h2, h.thrown⟩
  obtain ⟨sn, hsn, rfl⟩ := set_nI b4 h2
  have hsn : sn < 2 ^ 10 := Nat.lt_of_lt_of_le hsn (Nat.pow_le_pow_right (by decide) b4)
  simp only [if_neg h2]
  have hf : ∀ j, j < sv (mm.1 4) 5 → wv (mm.1 4) sn j ≤ 9437184 := fun j hj => wv_le hS.2.1 sn (by omega)
  generalize hwv : wv (mm.1 4) sn = f at hf
  have c1 : fX1_likeliestStory (w + 9) (nI sn) mc = some (lk f (sv (mm.1 4) 5)).1 := by
    simp only [fX1_likeliestStory, fX1_likeliestStory_8, lt1_e]
    rw [show ((-1000000 : Int32), (0 : Int64), (0 : Int32)) = (fun k => ((lk f k).1, lN (lk f k).2, nI k)) 0 from rfl, iter_traj (fun k => ((lk f k).1, lN (lk f k).2, nI k)) (sv (mm.1 4) 5) (lk f (sv (mm.1 4) 5)).1 (by omega) ?_ ?_, bnd_s]
    · intro k hk
      have hwt := (weights (mm := mm) (m2 := mm) hC hM rfl hws hW hS hk hsn).1
      rw [hwv] at hwt
      have hle := lk_le (f := f) k (fun j hj => hf j (by omega))
      have hfk := hf k hk
      simp only [fX1_likeliestStory_8b, fX1_likeliestStory_39, kc_w hws.w, eq_self, gp_tt, hW.2.2.2.2.2.2.2.1.2, e5, if_neg (nI_ge hk (by omega)), hwt, bnd_s, lt1_e, nI_1, pk_lLE (show f k < 2 ^ 63 by omega) (show (lk f k).2 < 2 ^ 63 by omega)]
      rw [lk_s]
      split <;> rfl
    · simp only [fX1_likeliestStory_8b, kc_w hws.w, eq_self, gp_tt, hW.2.2.2.2.2.2.2.1.2, e5, if_pos (nI_le (Nat.le_refl (sv (mm.1 4) 5)) (by omega))]
  have c2 : fX12_likeliest_38 0 (nI sn) (-1000000) 0 0 (uI mm 0 0 0) = some ((lk f (sv (mm.1 4) 5)).1.toInt64, uI mm 0 0 0) := by
    simp only [fX12_likeliest_38]
    rw [show ((-1000000 : Int32), (0 : Int64), (0 : Int32)) = (fun k => ((lk f k).1, lN (lk f k).2, nI k)) 0 from rfl, iter_traj (fun k => ((lk f k).1, lN (lk f k).2, nI k)) (sv (mm.1 4) 5) (lk f (sv (mm.1 4) 5)).1 (by omega) ?_ ?_, bnd_s]
    · intro k hk
      have hwt := (weights (mm := mm) (m2 := uI mm 0 0 0) hC hM.th rfl hws hW hS hk hsn).2
      rw [hwv] at hwt
      have hle := lk_le (f := f) k (fun j hj => hf j (by omega))
      have hfk := hf k hk
      simp only [fX12_likeliest_38b, fX12_likeliest_71, fX12_likeliest_85, km_s, rm_s hM, eq_self, gp_tt, bnd_s, clL, inL, th_1, e5, if_neg (nI_ge hk (by omega)), hwt, lt1_e, nI_1, pk_lLE (show f k < 2 ^ 63 by omega) (show (lk f k).2 < 2 ^ 63 by omega)]
      rw [lk_s]
      split <;> rfl
    · simp only [fX12_likeliest_38b, km_s, rm_s hM, eq_self, gp_tt, bnd_s, clL, inL, th_1, e5, if_pos (nI_le (Nat.le_refl (sv (mm.1 4) 5)) (by omega))]
  rw [c1, c2, bnd_s]
  exact ⟨_, _, rfl, rfl, h.thrown⟩
def sm (f : Nat → Nat) : Nat → Nat
  | 0 => 0
  | n + 1 => sm f n + f n
theorem sm_s (f : Nat → Nat) (n : Nat) : sm f (n + 1) = sm f n + f n := rfl
theorem sm_le {f : Nat → Nat} {B : Nat} : ∀ n, (∀ j, j < n → f j ≤ B) → sm f n ≤ n * B := by
  intro n
  induction n with
  | zero => intro _; exact Nat.zero_le _
  | succ n ih =>
    intro h
    rw [sm_s, Nat.succ_mul]
    exact Nat.add_le_add (ih (fun j hj => h j (by omega))) (h n (by omega))
theorem op27 : Op27 Rel := by
  intro mc mm h v1 v2 v3
  obtain ⟨hM, w, s, d, hC, hws, hRows, hTape, hMisc, hW, hS, hImg, hTr⟩ := id h
  obtain ⟨e4, b4⟩ := sea_nI hS.2.1 (j := 4) (by decide)
  have b4 : sv (mm.1 4) 4 ≤ 10 := b4
  obtain ⟨e5, b5⟩ := sea_nI hS.2.1 (j := 5) (by decide)
  have b5 : sv (mm.1 4) 5 ≤ 6 := b5
  simp only [fX11_odds, fX12_odds, isWithin_e, in_0_1, bnd_s, lt1_e, km_s, kc_s, rc_s hC, rc_w hC hws.w, kc_w hws.w, rm_s hM, th_1, eq_self, gp_tt, isStory_c hws.w, isStory_m hM.th, areSigns_c hws.w, areSigns_m hM.th, hW.2.2.2.2.2.2.2.1.1, hW.2.2.2.2.2.2.2.1.2]
  rw [e4, e5]
  by_cases h1 : iw v1 0 (nI (sv (mm.1 4) 5) - 1) = 0
  · exact ⟨_, _, if_pos h1, if_pos h1, h.thrown⟩
  obtain ⟨k, hk, rfl⟩ := iw_lt (by omega) h1
  simp only [if_neg h1]
  by_cases h2 : iw v2 0 ((1 : Int32) <<< (nI (sv (mm.1 4) 4) &&& 31) - 1) = 0
  · exact ⟨_, _, if_pos h2, if_pos h2, h.thrown⟩
  obtain ⟨sn, hsn, rfl⟩ := set_nI b4 h2
  have hsn : sn < 2 ^ 10 := Nat.lt_of_lt_of_le hsn (Nat.pow_le_pow_right (by decide) b4)
  simp only [if_neg h2]
  by_cases h3 : iw v3 0 1 = 0
  · exact ⟨_, _, if_pos h3, if_pos h3, h.thrown⟩
  simp only [if_neg h3]
  have hf : ∀ j, j < sv (mm.1 4) 5 → wv (mm.1 4) sn j ≤ 9437184 := fun j hj => wv_le hS.2.1 sn (by omega)
  have hwt := fun j hj => weights (mm := mm) (m2 := uI mm 0 0 0) (k := j) hC hM.th rfl hws hW hS hj hsn
  generalize hwv : wv (mm.1 4) sn = f at hf hwt
  have hsum := sm_le (f := f) (sv (mm.1 4) 5) hf
  have hsm : sm f (sv (mm.1 4) 5) < 2 ^ 46 := by
    have : sv (mm.1 4) 5 * 9437184 ≤ 6 * 9437184 := Nat.mul_le_mul_right _ b5
    omega
  have c1 : fX11_odds_46 (nI k) (nI sn) v3 (w + 9) 0 0 mc = fX11_odds_75 (nI k) (nI sn) v3 (w + 9) (lN (sm f (sv (mm.1 4) 5))) mc := by
    simp only [fX11_odds_46]
    rw [show ((0 : Int64), (0 : Int32)) = (fun j => (lN (sm f j), nI j)) 0 from rfl, iter_traj (fun j => (lN (sm f j), nI j)) (sv (mm.1 4) 5) (lN (sm f (sv (mm.1 4) 5))) (by omega) ?_ ?_, bnd_s]
    · intro j hj
      simp only [fX11_odds_46b, kc_w hws.w, eq_self, gp_tt, hW.2.2.2.2.2.2.2.1.2, e5, if_neg (nI_ge hj (by omega)), (hwt j hj).1, bnd_s, lt1_e, nI_1, lN_add, sm_s]
    · simp only [fX11_odds_46b, kc_w hws.w, eq_self, gp_tt, hW.2.2.2.2.2.2.2.1.2, e5, if_pos (nI_le (Nat.le_refl (sv (mm.1 4) 5)) (by omega))]
  have c2 : fX12_odds_41 0 (nI k) (nI sn) v3 0 0 (uI mm 0 0 0) = fX12_odds_70 0 (nI k) (nI sn) v3 (lN (sm f (sv (mm.1 4) 5))) (uI mm 0 0 0) := by
    simp only [fX12_odds_41]
    rw [show ((0 : Int64), (0 : Int32)) = (fun j => (lN (sm f j), nI j)) 0 from rfl, iter_traj (fun j => (lN (sm f j), nI j)) (sv (mm.1 4) 5) (lN (sm f (sv (mm.1 4) 5))) (by omega) ?_ ?_, bnd_s]
    · intro j hj
      simp only [fX12_odds_41b, km_s, rm_s hM, eq_self, gp_tt, bnd_s, clL, inL, th_1, e5, if_neg (nI_ge hj (by omega)), (hwt j hj).2, lt1_e, nI_1, lN_add, sm_s]
    · simp only [fX12_odds_41b, km_s, rm_s hM, eq_self, gp_tt, bnd_s, clL, inL, th_1, e5, if_pos (nI_le (Nat.le_refl (sv (mm.1 4) 5)) (by omega))]
  rw [c1, c2]
  simp only [fX11_odds_75, fX12_odds_70, kc_w hws.w, km_s, eq_self, gp_tt, (hwt k hk).1, (hwt k hk).2, bnd_s]
  rcases Nat.eq_zero_or_pos (sm f (sv (mm.1 4) 5)) with hz | hz
  · rw [hz, if_pos (show lN 0 = (0 : Int64) from rfl)]
    obtain ⟨c, hc, rfl⟩ := iw_nI h3 (n := 1) rfl
    have q : fX11_partOfFraction (lN (f k)) (lN 0) (nI c) = fX11_partOfFraction_12 (nI c) := by
      simp only [fX11_partOfFraction]
      by_cases q1 : lN (f k) ≤ (0 : Int64)
      · rw [if_pos q1]
      · rw [if_neg q1, if_neg (show ¬ (0 : Int64) < lN 0 by decide)]
    rw [q]
    rcases (by omega : c = 0 ∨ c = 1) with rfl | rfl
    · exact ⟨_, _, rfl, rfl, h.thrown⟩
    · exact ⟨_, _, rfl, rfl, h.thrown⟩
  · have q : ¬ lN (sm f (sv (mm.1 4) 5)) = (0 : Int64) := fun q => by
      have := (pk_lEQ (a := sm f (sv (mm.1 4) 5)) (b := 0) (by omega) (by decide)).mp q
      omega
    rw [if_neg q]
    have hfk := hf k hk
    obtain ⟨r, r1, r2⟩ := frac_eq (a := f k) (b := sm f (sv (mm.1 4) 5)) v3 (by omega) hsm hz
    rw [r1, r2]
    exact ⟨_, _, rfl, rfl, h.thrown⟩
