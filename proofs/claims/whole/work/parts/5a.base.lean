/-! the two memories: what of them stands still, and small facts -/
def RCt : List (List (Option Nat)) := [[], [some 45, some 47, some 49, some 51, some 53, some 55, some 57, some 59], [some 3], [], [some 5], [some 2], [some 61, some 76], [], [], [], [], [], [], [some 14], [], [some 16, some 20, some 21, some 24], [some 17, some 18, some 19], [], [], [], [], [some 22, some 23], [], [], [some 25, some 26, some 27, some 28, some 29], [], [], [], [], [], [some 31, some 35, some 36, some 39], [some 32, some 33, some 34], [], [], [], [], [some 37, some 38], [], [], [some 40, some 41, some 42, some 43, some 44], [], [], [], [], [], [some 46], [], [some 48], [], [some 50], [], [some 52], [], [some 54], [], [some 56], [], [some 58], [], [some 60], [], [some 62, some 66, some 67, some 70], [some 63, some 64, some 65], [], [], [], [], [some 68, some 69], [], [], [some 71, some 72, some 73, some 74, some 75], [], [], [], [], [], [some 77, some 81, some 82, some 85], [some 78, some 79, some 80], [], [], [], [], [some 83, some 84], [], [], [some 86, some 87, some 88, some 89, some 90], [], [], [], [], []]
def RC (w s : Nat) (d : Bool) (a k : Nat) : Option Nat := if a = 0 then ([some 1, some 2, some 4, some 6, some 7, some 13, some w, some s] : List (Option Nat)).getD k none else if a = 7 then (if d = true then ([some 10, some 11, some 8, some 9, some 12] : List (Option Nat)) else [some 8, some 9, some 10, some 11, some 12]).getD k none else (RCt.getD a []).getD k none
def RCok (m : Mem) (w s : Nat) (d : Bool) : Prop := ∀ a, a < 91 → ∀ k, k < 10 → m.2.2 a k = RC w s d a k
def RMt : List (Option Nat) := [none, none, some 1, some 2, some 3, some 4, some 5, none, some 6, some 7, none, none, none, none, none, none, none, none, none, some 8, some 9, some 10, some 11, some 12, none, none, some 13, some 14, some 15, some 16, none]
def RMok (m : Mem) : Prop := ∀ k, k < 31 → m.2.2 0 k = RMt.getD k none
def WI (b : Nat) : Prop := b = 15 ∨ b = 30 ∨ b = 61 ∨ b = 76
theorem rc_w {m : Mem} {w s b : Nat} {d : Bool} (h : RCok m w s d) (hb : WI b) : m.2.2 b 0 = some (b + 1) ∧ m.2.2 b 1 = some (b + 5) ∧ m.2.2 b 2 = some (b + 6) ∧ m.2.2 b 3 = some (b + 9) ∧ m.2.2 (b + 1) 0 = some (b + 2) ∧ m.2.2 (b + 1) 1 = some (b + 3) ∧ m.2.2 (b + 1) 2 = some (b + 4) ∧ m.2.2 (b + 6) 0 = some (b + 7) ∧ m.2.2 (b + 6) 1 = some (b + 8) ∧ m.2.2 (b + 9) 0 = some (b + 10) ∧ m.2.2 (b + 9) 1 = some (b + 11) ∧ m.2.2 (b + 9) 2 = some (b + 12) ∧ m.2.2 (b + 9) 3 = some (b + 13) ∧ m.2.2 (b + 9) 4 = some (b + 14) := by
  rcases hb with rfl | rfl | rfl | rfl <;> exact ⟨h _ (by decide) _ (by decide), h _ (by decide) _ (by decide), h _ (by decide) _ (by decide), h _ (by decide) _ (by decide), h _ (by decide) _ (by decide), h _ (by decide) _ (by decide), h _ (by decide) _ (by decide), h _ (by decide) _ (by decide), h _ (by decide) _ (by decide), h _ (by decide) _ (by decide), h _ (by decide) _ (by decide), h _ (by decide) _ (by decide), h _ (by decide) _ (by decide), h _ (by decide) _ (by decide)⟩
theorem kc_w {b : Nat} (hb : WI b) : KC b = 10 ∧ KC (b + 1) = 9 ∧ KC (b + 2) = 14 ∧ KC (b + 3) = 14 ∧ KC (b + 4) = 14 ∧ KC (b + 5) = 4 ∧ KC (b + 6) = 2 ∧ KC (b + 7) = 14 ∧ KC (b + 8) = 14 ∧ KC (b + 9) = 1 ∧ KC (b + 10) = 14 ∧ KC (b + 11) = 14 ∧ KC (b + 12) = 14 ∧ KC (b + 13) = 14 ∧ KC (b + 14) = 14 := by
  rcases hb with rfl | rfl | rfl | rfl <;> decide
theorem nc_w {b : Nat} (hb : WI b) : NC (b + 2) = 8 ∧ NC (b + 3) = 4 ∧ NC (b + 4) = 4 ∧ NC (b + 7) = 10 ∧ NC (b + 8) = 10 ∧ NC (b + 10) = 10 ∧ NC (b + 11) = 10 ∧ NC (b + 12) = 6 ∧ NC (b + 13) = 6 ∧ NC (b + 14) = 6 := by
  rcases hb with rfl | rfl | rfl | rfl <;> decide
theorem kc_r : ∀ r, r < 8 → KC (45 + 2 * r) = 6 ∧ KC (46 + 2 * r) = 14 ∧ NC (46 + 2 * r) = 40 := by decide
theorem rc_r {m : Mem} {w s : Nat} {d : Bool} (h : RCok m w s d) : ∀ r, r < 8 → m.2.2 1 r = some (45 + 2 * r) ∧ m.2.2 (45 + 2 * r) 0 = some (46 + 2 * r) := by
  intro r hr
  have h1 := h 1 (by decide) r (by omega)
  have h2 := h (45 + 2 * r) (by omega) 0 (by decide)
  rcases (by omega : r = 0 ∨ r = 1 ∨ r = 2 ∨ r = 3 ∨ r = 4 ∨ r = 5 ∨ r = 6 ∨ r = 7) with rfl | rfl | rfl | rfl | rfl | rfl | rfl | rfl <;> exact ⟨h1, h2⟩
theorem kc_s : KC 0 = 11 ∧ KC 1 = 17 ∧ KC 2 = 7 ∧ KC 3 = 13 ∧ KC 4 = 5 ∧ KC 5 = 8 ∧ KC 6 = 18 ∧ KC 7 = 3 ∧ KC 8 = 15 ∧ KC 9 = 14 ∧ KC 10 = 15 ∧ KC 11 = 14 ∧ KC 12 = 15 ∧ KC 13 = 0 ∧ KC 14 = 14 ∧ NC 1 = 8 ∧ NC 3 = 600 ∧ NC 6 = 2 ∧ NC 8 = 128 ∧ NC 9 = 128 ∧ NC 10 = 128 ∧ NC 11 = 128 ∧ NC 12 = 9 ∧ NC 14 = 16 := by decide
theorem km_s : KM 0 = 12 ∧ KM 1 = 14 ∧ KM 2 = 14 ∧ KM 3 = 14 ∧ KM 4 = 14 ∧ KM 5 = 14 ∧ KM 6 = 14 ∧ KM 7 = 14 ∧ KM 14 = 14 ∧ KM 15 = 14 ∧ KM 16 = 14 ∧ KM 8 = 15 ∧ KM 9 = 15 ∧ KM 10 = 15 ∧ KM 11 = 15 ∧ KM 12 = 15 ∧ KM 13 = 16 ∧ NM 1 = 8 ∧ NM 2 = 8 ∧ NM 3 = 320 ∧ NM 4 = 206 ∧ NM 5 = 206 ∧ NM 6 = 8 ∧ NM 7 = 600 ∧ NM 8 = 128 ∧ NM 9 = 128 ∧ NM 10 = 128 ∧ NM 11 = 128 ∧ NM 12 = 9 ∧ NM 13 = 2 ∧ NM 14 = 412 ∧ NM 15 = 16 ∧ NM 16 = 16 := by decide
theorem rm_s {m : Mem} (h : RMok m) : m.2.2 0 2 = some 1 ∧ m.2.2 0 3 = some 2 ∧ m.2.2 0 4 = some 3 ∧ m.2.2 0 5 = some 4 ∧ m.2.2 0 6 = some 5 ∧ m.2.2 0 8 = some 6 ∧ m.2.2 0 9 = some 7 ∧ m.2.2 0 19 = some 8 ∧ m.2.2 0 20 = some 9 ∧ m.2.2 0 21 = some 10 ∧ m.2.2 0 22 = some 11 ∧ m.2.2 0 23 = some 12 ∧ m.2.2 0 26 = some 13 ∧ m.2.2 0 27 = some 14 ∧ m.2.2 0 28 = some 15 ∧ m.2.2 0 29 = some 16 := ⟨h 2 (by decide), h 3 (by decide), h 4 (by decide), h 5 (by decide), h 6 (by decide), h 8 (by decide), h 9 (by decide), h 19 (by decide), h 20 (by decide), h 21 (by decide), h 22 (by decide), h 23 (by decide), h 26 (by decide), h 27 (by decide), h 28 (by decide), h 29 (by decide)⟩
theorem rc_s {m : Mem} {w s : Nat} {d : Bool} (h : RCok m w s d) : m.2.2 0 0 = some 1 ∧ m.2.2 0 1 = some 2 ∧ m.2.2 0 2 = some 4 ∧ m.2.2 0 3 = some 6 ∧ m.2.2 0 4 = some 7 ∧ m.2.2 0 5 = some 13 ∧ m.2.2 0 6 = some w ∧ m.2.2 0 7 = some s ∧ m.2.2 2 0 = some 3 ∧ m.2.2 4 0 = some 5 ∧ m.2.2 5 0 = some 2 ∧ m.2.2 6 0 = some 61 ∧ m.2.2 6 1 = some 76 ∧ m.2.2 13 0 = some 14 := ⟨h 0 (by decide) 0 (by decide), h 0 (by decide) 1 (by decide), h 0 (by decide) 2 (by decide), h 0 (by decide) 3 (by decide), h 0 (by decide) 4 (by decide), h 0 (by decide) 5 (by decide), h 0 (by decide) 6 (by decide), h 0 (by decide) 7 (by decide), h 2 (by decide) 0 (by decide), h 4 (by decide) 0 (by decide), h 5 (by decide) 0 (by decide), h 6 (by decide) 0 (by decide), h 6 (by decide) 1 (by decide), h 13 (by decide) 0 (by decide)⟩
-- binds and memory, as rules for simp
theorem bnd_s {α β : Type} {a : α} {k : α → Option β} : bnd (some a) k = k a := rfl
theorem bnd2_s {α γ β : Type} {a : α} {c : γ} {k : α → γ → Option β} : bnd2 (some (a, c)) k = k a c := rfl
theorem lt1_e {α β : Type} {x : α} {k : α → Option β} : lt1 x k = k x := rfl
theorem gp_t {β : Type} {k : Option β} : gp True k = k := if_pos trivial
theorem uI_1 (m : Mem) (a k : Nat) (v : Int32) (b j : Nat) : (uI m a k v).1 b j = if b = a ∧ j = k then v else m.1 b j := rfl
theorem uI_2 (m : Mem) (a k : Nat) (v : Int32) : (uI m a k v).2 = m.2 := rfl
theorem uJ_1 (m : Mem) (a k : Nat) (v : Int64) : (uJ m a k v).1 = m.1 := rfl
theorem uJ_2 (m : Mem) (a k : Nat) (v : Int64) (b j : Nat) : (uJ m a k v).2.1 b j = if b = a ∧ j = k then v else m.2.1 b j := rfl
theorem uJ_3 (m : Mem) (a k : Nat) (v : Int64) : (uJ m a k v).2.2 = m.2.2 := rfl
theorem uX_1 (m : Mem) (a : Nat) (f : Nat → Int32) (b : Nat) : (uX m a f).1 b = if b = a then f else m.1 b := rfl
theorem uX_2 (m : Mem) (a : Nat) (f : Nat → Int32) : (uX m a f).2 = m.2 := rfl
theorem uI_o {m : Mem} {a k b : Nat} {v : Int32} (h : b ≠ a) : (uI m a k v).1 b = m.1 b := by
  funext j
  simp [uI, h]
/-- within, as a number -/
def iw (v lo hi : Int32) : Int32 := if v < lo then 0 else if hi < v then 0 else 1
theorem isWithin_e (v lo hi : Int32) : fX11_isWithin v lo hi = some (iw v lo hi) := by
  unfold fX11_isWithin iw
  split
  · rfl
  · split <;> rfl
theorem iw_0 {v lo hi : Int32} : iw v lo hi = 0 ↔ v < lo ∨ hi < v := by
  unfold iw
  by_cases h1 : v < lo
  · simp [h1]
  · by_cases h2 : hi < v <;> simp [h1, h2]
theorem iw_zb (v lo hi : Int32) : zb (iw v lo hi) = true := by
  unfold iw
  split
  · rfl
  · split <;> rfl
theorem t64_lt {a b : Int32} : a.toInt64 < b.toInt64 ↔ a < b := by
  rw [Int64.lt_iff_toInt_lt, Int32.lt_iff_toInt_lt, Int32.toInt_toInt64, Int32.toInt_toInt64]
theorem in_e (v lo hi : Int32) : fX12_in v.toInt64 lo.toInt64 hi.toInt64 = some (iw v lo hi) := by
  unfold fX12_in iw
  by_cases h1 : v < lo
  · rw [if_pos (t64_lt.mpr h1), if_pos h1]
  · rw [if_neg (fun h => h1 (t64_lt.mp h)), if_neg h1]
    by_cases h2 : hi < v
    · rw [if_pos (t64_lt.mpr h2), if_pos h2]
    · rw [if_neg (fun h => h2 (t64_lt.mp h)), if_neg h2]
theorem in_m999_999 (v : Int32) : fX12_in v.toInt64 (-999 : Int64) (999 : Int64) = some (iw v (-999) (999)) := in_e v (-999) (999)
theorem in_m99_99 (v : Int32) : fX12_in v.toInt64 (-99 : Int64) (99 : Int64) = some (iw v (-99) (99)) := in_e v (-99) (99)
theorem in_1_60 (v : Int32) : fX12_in v.toInt64 (1 : Int64) (60 : Int64) = some (iw v (1) (60)) := in_e v (1) (60)
theorem in_0_7 (v : Int32) : fX12_in v.toInt64 (0 : Int64) (7 : Int64) = some (iw v (0) (7)) := in_e v (0) (7)
theorem in_0_2 (v : Int32) : fX12_in v.toInt64 (0 : Int64) (2 : Int64) = some (iw v (0) (2)) := in_e v (0) (2)
theorem in_1_40 (v : Int32) : fX12_in v.toInt64 (1 : Int64) (40 : Int64) = some (iw v (1) (40)) := in_e v (1) (40)
theorem in_1_8 (v : Int32) : fX12_in v.toInt64 (1 : Int64) (8 : Int64) = some (iw v (1) (8)) := in_e v (1) (8)
theorem in_1_100 (v : Int32) : fX12_in v.toInt64 (1 : Int64) (100 : Int64) = some (iw v (1) (100)) := in_e v (1) (100)
theorem in_0_1 (v : Int32) : fX12_in v.toInt64 (0 : Int64) (1 : Int64) = some (iw v (0) (1)) := in_e v (0) (1)
theorem in_1_999999 (v : Int32) : fX12_in v.toInt64 (1 : Int64) (999999 : Int64) = some (iw v (1) (999999)) := in_e v (1) (999999)
theorem in_0_6 (v : Int32) : fX12_in v.toInt64 (0 : Int64) (6 : Int64) = some (iw v (0) (6)) := in_e v (0) (6)
theorem in_0_8 (v : Int32) : fX12_in v.toInt64 (0 : Int64) (8 : Int64) = some (iw v (0) (8)) := in_e v (0) (8)
theorem in_1_511 (v : Int32) : fX12_in v.toInt64 (1 : Int64) (511 : Int64) = some (iw v (1) (511)) := in_e v (1) (511)
theorem in_0_200 (v : Int32) : fX12_in v.toInt64 (0 : Int64) (200 : Int64) = some (iw v (0) (200)) := in_e v (0) (200)
theorem in_0_50 (v : Int32) : fX12_in v.toInt64 (0 : Int64) (50 : Int64) = some (iw v (0) (50)) := in_e v (0) (50)
theorem in_0_99 (v : Int32) : fX12_in v.toInt64 (0 : Int64) (99 : Int64) = some (iw v (0) (99)) := in_e v (0) (99)
theorem in_0_999 (v : Int32) : fX12_in v.toInt64 (0 : Int64) (999 : Int64) = some (iw v (0) (999)) := in_e v (0) (999)
theorem in_1_999 (v : Int32) : fX12_in v.toInt64 (1 : Int64) (999 : Int64) = some (iw v (1) (999)) := in_e v (1) (999)
theorem in_30_190 (v : Int32) : fX12_in v.toInt64 (30 : Int64) (190 : Int64) = some (iw v (30) (190)) := in_e v (30) (190)
theorem in_0_9 (v : Int32) : fX12_in v.toInt64 (0 : Int64) (9 : Int64) = some (iw v (0) (9)) := in_e v (0) (9)
theorem in_3_5 (v : Int32) : fX12_in v.toInt64 (3 : Int64) (5 : Int64) = some (iw v (3) (5)) := in_e v (3) (5)
theorem in_lo0 (v hi : Int32) : fX12_in v.toInt64 (0 : Int64) hi.toInt64 = some (iw v 0 hi) := in_e v 0 hi
theorem isRow_e (v : Int32) : fX12_isRow v = some (iw v 0 7) := by unfold fX12_isRow; rw [in_0_7, bnd_s, gp_pos (iw_zb _ _ _)]
theorem isHead_e (v : Int32) : fX12_isHead v = some (iw v 0 7) := by unfold fX12_isHead; rw [in_0_7, bnd_s, gp_pos (iw_zb _ _ _)]
theorem found_e (v : Int32) (m : Mem) : fX11_found 0 v m = some ((-9000000000000000010 : Int64) - v.toInt64, uI m 0 9 v) := rfl
theorem fine_e (v : Int64) (m : Mem) : fX11_fine 0 v m = some (v, uI m 0 9 0) := rfl
theorem finding_e (v : Int32) (m : Mem) : fX12_finding 0 v m = some ((-9000000000000000010 : Int64) - v.toInt64, uI m 0 1 v) := rfl
-- loops
theorem iter_run {S E : Type} {b : S → Option (S ⊕ E)} (I : S → Prop) (μ : S → Nat) (Q : E → Prop) (h : ∀ s, I s → (∃ t, b s = some (.inl t) ∧ I t ∧ μ t < μ s) ∨ (∃ e, b s = some (.inr e) ∧ Q e)) : ∀ n s, I s → μ s < n → ∃ e, iter b n s = some e ∧ Q e := by
  intro n
  induction n with
  | zero => intro s _ h2; omega
  | succ n ih =>
    intro s hs hn
    unfold iter
    rcases h s hs with ⟨t, e1, e2, e3⟩ | ⟨e, e1, e2⟩
    · rw [e1]; exact ih t e2 (by omega)
    · rw [e1]; exact ⟨e, rfl, e2⟩
theorem iter_run2 {S1 E1 S2 E2 : Type} {b1 : S1 → Option (S1 ⊕ E1)} {b2 : S2 → Option (S2 ⊕ E2)} (R : S1 → S2 → Prop) (μ : S1 → Nat) (Q : E1 → E2 → Prop) (h : ∀ s1 s2, R s1 s2 → (∃ t1 t2, b1 s1 = some (.inl t1) ∧ b2 s2 = some (.inl t2) ∧ R t1 t2 ∧ μ t1 < μ s1) ∨ (∃ e1 e2, b1 s1 = some (.inr e1) ∧ b2 s2 = some (.inr e2) ∧ Q e1 e2)) : ∀ n s1 s2, R s1 s2 → μ s1 < n → ∃ e1 e2, iter b1 n s1 = some e1 ∧ iter b2 n s2 = some e2 ∧ Q e1 e2 := by
  intro n
  induction n with
  | zero => intro s1 s2 _ h2; omega
  | succ n ih =>
    intro s1 s2 hs hn
    unfold iter
    rcases h s1 s2 hs with ⟨t1, t2, e1, e2, e3, e4⟩ | ⟨x1, x2, e1, e2, e3⟩
    · rw [e1, e2]; exact ih t1 t2 e3 (by omega)
    · rw [e1, e2]; exact ⟨x1, x2, rfl, rfl, e3⟩
theorem inb_nI {k n : Nat} (h : k < n) (hn : n < 2 ^ 31) : inb (nI k) n = true := by
  simp only [inb, Bool.and_eq_true, Bool.not_eq_true', decide_eq_false_iff_not, decide_eq_true_eq]
  exact ⟨nI_pos (by omega), by rw [nI_clamp (by omega)]; exact h⟩
