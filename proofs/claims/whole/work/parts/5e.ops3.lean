theorem iter_traj {S E : Type} {b : S → Option (S ⊕ E)} (T : Nat → S) (n : Nat) (e : E) (hn : n < 8192) (h1 : ∀ k, k < n → b (T k) = some (.inl (T (k + 1)))) (h2 : b (T n) = some (.inr e)) : iter b FU (T 0) = some e := by
  have key : ∀ N k, k ≤ n → n - k < N → iter b N (T k) = some e := by
    intro N
    induction N with
    | zero => intro k _ h; omega
    | succ N ih =>
      intro k hk hN
      unfold iter
      rcases Nat.lt_or_ge k n with h | h
      · rw [h1 k h]; exact ih (k + 1) (by omega) (by omega)
      · have : k = n := by omega
        subst this
        rw [h2]
  exact key FU 0 (Nat.zero_le _) (by have := FU_ge; omega)
theorem iw_lt {v : Int32} {N : Nat} (hN : N < 2 ^ 30) (h : ¬ iw v 0 (nI N - 1) = 0) : ∃ k, k < N ∧ v = nI k := by
  obtain ⟨h1, h2⟩ := iw_ne0 h
  have e : (nI N - (1 : Int32)).toInt = (N : Int) - 1 := pk_sub_toInt (a := N) (b := 1) hN (by decide)
  obtain ⟨k, hk, rfl⟩ := nI_of (Int32.not_lt.mpr h1)
  refine ⟨k, ?_, rfl⟩
  rw [Int32.le_iff_toInt_le, e, nI_toInt hk] at h2
  omega
theorem isSign_c {m : Mem} {b : Nat} (hb : WI b) (v : Int32) : fX1_isSign (b + 9) v m = some (iw v 0 (m.1 (b + 9) 5 - 1)) := by
  simp only [fX1_isSign, kc_w hb, eq_self, gp_tt, isWithin_e, bnd_s, gp_pos (iw_zb _ _ _)]
theorem isStory_c {m : Mem} {b : Nat} (hb : WI b) (v : Int32) : fX1_isStory (b + 9) v m = some (iw v 0 (m.1 (b + 9) 6 - 1)) := by
  simp only [fX1_isStory, kc_w hb, eq_self, gp_tt, isWithin_e, bnd_s, gp_pos (iw_zb _ _ _)]
theorem areSigns_c {m : Mem} {b : Nat} (hb : WI b) (v : Int32) : fX1_isSetOfSigns (b + 9) v m = some (iw v 0 (((1 : Int32) <<< (m.1 (b + 9) 5 &&& 31)) - 1)) := by
  simp only [fX1_isSetOfSigns, kc_w hb, eq_self, gp_tt, isWithin_e, bnd_s, gp_pos (iw_zb _ _ _)]
theorem isSign_m {m : Mem} (hM : RMok m) (v : Int32) : fX12_isSign 0 v m = some (iw v 0 (m.1 4 4 - 1)) := by
  simp only [fX12_isSign, km_s, rm_s hM, eq_self, gp_tt, bnd_s, clL, inL, in_lo0, gp_pos (iw_zb _ _ _)]
theorem isStory_m {m : Mem} (hM : RMok m) (v : Int32) : fX12_isStory 0 v m = some (iw v 0 (m.1 4 5 - 1)) := by
  simp only [fX12_isStory, km_s, rm_s hM, eq_self, gp_tt, bnd_s, clL, inL, in_lo0, gp_pos (iw_zb _ _ _)]
theorem areSigns_m {m : Mem} (hM : RMok m) (v : Int32) : fX12_areSigns 0 v m = some (iw v 0 (((1 : Int32) <<< (m.1 4 4 &&& 31)) - 1)) := by
  simp only [fX12_areSigns, km_s, rm_s hM, eq_self, gp_tt, bnd_s, clL, inL, in_lo0, gp_pos (iw_zb _ _ _)]
theorem ix2 (a c k t : Nat) : (nI a + nI c * nI k) + nI t = nI (a + c * k + t) := by rw [pk_mul, nI_add, nI_add]
theorem signOf_m {m : Mem} (hM : RMok m) {k c : Nat} (h : 40 + 2 * k + c < 206) : fX12_signOf 0 (nI k) (nI c) m = some (m.1 4 (40 + 2 * k + c)) := by
  have e : ((40 : Int32) + (2 : Int32) * nI k) + nI c = nI (40 + 2 * k + c) := ix2 40 2 k c
  simp only [fX12_signOf, km_s, rm_s hM, eq_self, gp_tt, bnd_s, e, inb_nI h (by decide), nI_clamp (show 40 + 2 * k + c < 2 ^ 31 by omega)]
theorem storyOf_m {m : Mem} (hM : RMok m) {k c : Nat} (h : 60 + 3 * k + c < 206) : fX12_storyOf 0 (nI k) (nI c) m = some (m.1 4 (60 + 3 * k + c)) := by
  have e : ((60 : Int32) + (3 : Int32) * nI k) + nI c = nI (60 + 3 * k + c) := ix2 60 3 k c
  simp only [fX12_storyOf, km_s, rm_s hM, eq_self, gp_tt, bnd_s, e, inb_nI h (by decide), nI_clamp (show 60 + 3 * k + c < 2 ^ 31 by omega)]
def bt (a s : Int32) : Int32 := if (a >>> (s &&& 31)) &&& 1 = 1 then 1 else 0
theorem isIn_e (s a : Int32) : fX11_isIn s a = some (bt a s) := by
  unfold fX11_isIn bt
  split <;> rfl
theorem bt_0 {a s : Int32} : bt a s = 0 ↔ ¬ (a >>> (s &&& 31)) &&& 1 = 1 := by
  unfold bt
  by_cases h : (a >>> (s &&& 31)) &&& 1 = 1 <;> simp [h]
theorem bt_v (a s : Int32) : (a >>> (s &&& 31)) &&& 1 = bt a s := by
  unfold bt
  obtain ⟨j, hj, e⟩ := pk_andE (a >>> (s &&& 31)) (m := 1) 1 (by decide)
  rw [e]
  rcases (by omega : j = 0 ∨ j = 1) with rfl | rfl
  · rw [if_neg (by decide)]; rfl
  · rw [if_pos (by decide)]; rfl
/-- which of the first n hold a bit -/
def sw (f : Nat → Int32) (s : Int32) : Nat → Int32
  | 0 => 0
  | n + 1 => if bt (f n) s = 0 then sw f s n else sw f s n ||| ((1 : Int32) <<< (nI n &&& 31))
theorem sw_s (f : Nat → Int32) (s : Int32) (n : Nat) : sw f s (n + 1) = if bt (f n) s = 0 then sw f s n else sw f s n ||| ((1 : Int32) <<< (nI n &&& 31)) := rfl
theorem sw_c {f g : Nat → Int32} (s : Int32) {n : Nat} (h : ∀ j, j < n → f j = g j) : sw f s n = sw g s n := by
  induction n with
  | zero => rfl
  | succ n ih =>
    unfold sw
    rw [ih (fun j hj => h j (by omega)), h n (by omega)]
theorem storiesWith_c {m : Mem} {b q n : Nat} (hb : WI b) (hq : KC q = 14) (hq2 : NC q = 6) (v : Int32) (hn : n ≤ 6) (h6 : m.1 (b + 9) 6 = nI n) : fX1_storiesWith (b + 9) v q m = some (sw (m.1 q) v n) := by
  simp only [fX1_storiesWith, fX1_storiesWith_5, lt1_e]
  rw [show ((0 : Int32), (0 : Int32)) = (fun k => (sw (m.1 q) v k, nI k)) 0 from rfl, iter_traj (fun k => (sw (m.1 q) v k, nI k)) n (sw (m.1 q) v n) (by omega) ?_ ?_, bnd_s]
  · intro k hk
    simp only [fX1_storiesWith_5b, fX1_storiesWith_39, kc_w hb, hq, hq2, eq_self, gp_tt, h6, isIn_e, bnd_s, lt1_e, if_neg (nI_ge hk (by omega)), if_neg (show ¬ Int32.ofNat 6 ≤ nI k from nI_ge (show k < 6 by omega) (by decide)), inb_nI (show k < 6 by omega) (by decide), nI_clamp (show k < 2 ^ 31 by omega), nI_1]
    rw [sw_s]
    by_cases h : bt (m.1 q k) v = 0
    · rw [if_pos h, if_pos h]
    · rw [if_neg h, if_neg h]
  · simp only [fX1_storiesWith_5b, kc_w hb, eq_self, gp_tt, h6, if_pos (nI_le (Nat.le_refl n) (by omega))]
theorem storiesBy_m {m : Mem} {n c : Nat} (hM : RMok m) (v : Int32) (hn : n ≤ 6) (hc : c ≤ 2) (h5 : m.1 4 5 = nI n) : fX12_storiesBy 0 v (nI c) m = some (sw (fun j => m.1 4 (60 + 3 * j + c)) v n) := by
  simp only [fX12_storiesBy, fX12_storiesBy_5, lt1_e]
  rw [show ((0 : Int32), (0 : Int32)) = (fun k => (sw (fun j => m.1 4 (60 + 3 * j + c)) v k, nI k)) 0 from rfl, iter_traj (fun k => (sw (fun j => m.1 4 (60 + 3 * j + c)) v k, nI k)) n (sw (fun j => m.1 4 (60 + 3 * j + c)) v n) (by omega) ?_ ?_, bnd_s]
  · intro k hk
    simp only [fX12_storiesBy_5b, km_s, rm_s hM, eq_self, gp_tt, bnd_s, clL, inL, h5, lt1_e, if_neg (nI_ge hk (by omega)), storyOf_m hM (show 60 + 3 * k + c < 206 by omega), nI_1, bt_v]
    rw [sw_s]
    by_cases h : bt (m.1 4 (60 + 3 * k + c)) v = 0
    · rw [if_pos h, h, Int32.zero_shiftLeft, Int32.or_zero]
    · rw [if_neg h]
      have : bt (m.1 4 (60 + 3 * k + c)) v = 1 := by
        unfold bt at h ⊢
        by_cases h2 : (m.1 4 (60 + 3 * k + c) >>> (v &&& 31)) &&& 1 = 1
        · rw [if_pos h2]
        · rw [if_neg h2] at h; exact absurd rfl h
      rw [this]
  · simp only [fX12_storiesBy_5b, km_s, rm_s hM, eq_self, gp_tt, bnd_s, clL, inL, h5, if_pos (nI_le (Nat.le_refl n) (by omega))]
theorem op33 : Op33 Rel := by
  intro mc mm h v1
  obtain ⟨hM, w, s, d, hC, hws, hRows, hTape, hMisc, hW, hS, hImg, hTr⟩ := id h
  obtain ⟨eS, bS⟩ := sea_nI hS.2.1 (j := 4) (by decide)
  have bS : sv (mm.1 4) 4 ≤ 10 := bS
  simp only [fX11_kind, fX12_kind, bnd_s, lt1_e, km_s, kc_s, rc_s hC, rc_w hC hws.w, kc_w hws.w, nc_w hws.w, rm_s hM, th_1, eq_self, gp_tt, isSign_c hws.w, isSign_m hM.th, hW.2.2.2.2.2.2.2.1.1]
  rw [eS]
  by_cases h1 : iw v1 0 (nI (sv (mm.1 4) 4) - 1) = 0
  · exact ⟨_, _, if_pos h1, if_pos h1, h.thrown⟩
  obtain ⟨k, hk, rfl⟩ := iw_lt (by omega) h1
  simp only [if_neg h1, inb_nI (show k < 10 by omega) (by decide), gp_tt, eq_self, nI_clamp (show k < 2 ^ 31 by omega)]
  have e := signOf_m hM.th (k := k) (c := 0) (by omega)
  have e : fX12_signOf 0 (nI k) (0 : Int32) (uI mm 0 0 0) = some (mm.1 4 (40 + 2 * k)) := e
  rw [e, bnd_s, (hW.2.2.2.2.2.2.2.2.1 k hk).1]
  exact ⟨_, _, rfl, rfl, h.thrown⟩
theorem op36 : Op36 Rel := by
  intro mc mm h v1
  obtain ⟨hM, w, s, d, hC, hws, hRows, hTape, hMisc, hW, hS, hImg, hTr⟩ := id h
  obtain ⟨n, hn, t1, t2, t3⟩ := hTr
  simp only [fX11_trace, fX12_trace, isWithin_e, in_lo0, bnd_s, lt1_e, km_s, kc_s, rc_s hC, rm_s hM, th_1, eq_self, gp_tt, t1, t2]
  by_cases h1 : iw v1 0 (nI n - 1) = 0
  · exact ⟨_, _, if_pos h1, if_pos h1, h.thrown⟩
  obtain ⟨k, hk, rfl⟩ := iw_lt (by omega) h1
  simp only [if_neg h1, inb_nI (show k < 16 by omega) (by decide), gp_tt, eq_self, nI_clamp (show k < 2 ^ 31 by omega), t3 k hk]
  exact ⟨_, _, rfl, rfl, h.thrown⟩
theorem op24 : Op24 Rel := by
  intro mc mm h v1 v2
  obtain ⟨hM, w, s, d, hC, hws, hRows, hTape, hMisc, hW, hS, hImg, hTr⟩ := id h
  obtain ⟨eS, bS⟩ := sea_nI hS.2.1 (j := 4) (by decide)
  have bS : sv (mm.1 4) 4 ≤ 10 := bS
  obtain ⟨eT, bT⟩ := sea_nI hS.2.1 (j := 5) (by decide)
  have bT : sv (mm.1 4) 5 ≤ 6 := bT
  have hst : mc.1 (w + 9) 6 = nI (sv (mm.1 4) 5) := by rw [hW.2.2.2.2.2.2.2.1.2]; exact eT
  have kw := kc_w hws.w
  have nw := nc_w hws.w
  simp only [fX11_sign, fX12_sign, fX12_sign_25, in_0_2, bnd_s, lt1_e, km_s, kc_s, rc_s hC, rc_w hC hws.w, kc_w hws.w, nc_w hws.w, rm_s hM, th_1, eq_self, gp_tt, isSign_c hws.w, isSign_m hM.th, hW.2.2.2.2.2.2.2.1.1, storiesWith_c hws.w kw.2.2.2.2.2.2.2.2.2.2.2.2.1 nw.2.2.2.2.2.2.2.1 v1 bT hst, storiesWith_c hws.w kw.2.2.2.2.2.2.2.2.2.2.2.2.2.1 nw.2.2.2.2.2.2.2.2.1 v1 bT hst]
  rw [eS]
  by_cases h1 : iw v1 0 (nI (sv (mm.1 4) 4) - 1) = 0
  · exact ⟨_, _, if_pos h1, if_pos h1, h.thrown⟩
  obtain ⟨k, hk, rfl⟩ := iw_lt (by omega) h1
  simp only [if_neg h1, inb_nI (show k < 10 by omega) (by decide), gp_tt, eq_self, nI_clamp (show k < 2 ^ 31 by omega)]
  by_cases h2 : iw v2 0 2 = 0
  · have q : ∀ z : Int32, iw z 0 2 ≠ 0 → v2 ≠ z := fun z hz e => hz (e ▸ h2)
    rw [if_neg (q 0 (by decide)), if_neg (q 1 (by decide)), if_neg (q 2 (by decide)), if_pos h2]
    exact ⟨_, _, rfl, rfl, h.thrown⟩
  rw [if_neg h2]
  have e1 : fX12_signOf 0 (nI k) (1 : Int32) (uI mm 0 0 0) = some (mm.1 4 (40 + 2 * k + 1)) := signOf_m hM.th (k := k) (c := 1) (by omega)
  obtain ⟨c, hc, rfl⟩ := iw_nI h2 (n := 2) rfl
  rcases (by omega : c = 0 ∨ c = 1 ∨ c = 2) with rfl | rfl | rfl
  · rw [if_pos (by decide), if_pos (by decide), e1, bnd_s, (hW.2.2.2.2.2.2.2.2.1 k hk).2, show 41 + 2 * k = 40 + 2 * k + 1 by omega]
    exact ⟨_, _, rfl, rfl, h.thrown⟩
  · simp only [if_neg (show ¬ nI 1 = 0 by decide), if_pos (show nI 1 = 1 by decide), storiesBy_m hM.th (nI k) bT (show 1 ≤ 2 by decide) eT, bnd_s]
    refine ⟨_, _, rfl, ?_, h.thrown⟩
    rw [sw_c (f := mc.1 (w + 12)) (g := fun j => (uI mm 0 0 0).1 4 (60 + 3 * j + 1)) (nI k) (fun j hj => by rw [(hW.2.2.2.2.2.2.2.2.2 j hj).1, show 60 + 3 * j + 1 = 61 + 3 * j by omega]; rfl)]
  · simp only [if_neg (show ¬ nI 2 = 0 by decide), if_neg (show ¬ nI 2 = 1 by decide), if_pos (show nI 2 = 2 by decide), storiesBy_m hM.th (nI k) bT (show 2 ≤ 2 by decide) eT, bnd_s]
    refine ⟨_, _, rfl, ?_, h.thrown⟩
    rw [sw_c (f := mc.1 (w + 13)) (g := fun j => (uI mm 0 0 0).1 4 (60 + 3 * j + 2)) (nI k) (fun j hj => by rw [(hW.2.2.2.2.2.2.2.2.2 j hj).2.1, show 60 + 3 * j + 2 = 62 + 3 * j by omega]; rfl)]
