theorem holds_c {m : Mem} {r : Nat} (hr : r < 8) (v1 v2 : Int32) : fX6_holds (45 + 2 * r) v1 v2 m = some (if v1 < 0 then 0 else if v2 < 0 then 0 else if m.1 (45 + 2 * r) 2 - v2 < v1 then 0 else 1) := by
  unfold fX6_holds
  rw [gp_pos (kc_r r hr).1]
  split
  · rfl
  · split
    · rfl
    · split <;> rfl
/-- a length holds a stretch: by both counts -/
theorem t64_add {a b : Int32} (ha : 0 ≤ a) (hb : 0 ≤ b) : (a.toInt64 + b.toInt64).toInt = a.toInt + b.toInt := by
  have h1 := Int32.toInt_lt a
  have h2 := Int32.toInt_lt b
  have h3 : 0 ≤ a.toInt := Int32.le_iff_toInt_le.mp ha
  have h4 : 0 ≤ b.toInt := Int32.le_iff_toInt_le.mp hb
  rw [Int64.toInt_add, Int32.toInt_toInt64, Int32.toInt_toInt64, Int.bmod_def]
  omega
theorem fits {n : Nat} (hn : n ≤ 40) {a b : Int32} (ha : ¬ a < 0) (hb : ¬ b < 0) : (¬ nI n - b < a) ↔ (a.toInt64 + b.toInt64 ≤ (nI n).toInt64) := by
  have ha := Int32.not_lt.mp ha
  have hb := Int32.not_lt.mp hb
  have h1 := Int32.toInt_lt a
  have h2 := Int32.toInt_lt b
  have h3 : 0 ≤ a.toInt := Int32.le_iff_toInt_le.mp ha
  have h4 : 0 ≤ b.toInt := Int32.le_iff_toInt_le.mp hb
  have t : ∀ n, n ≤ 40 → (nI n).toInt = (n : Int) := by decide +kernel
  have e := t n hn
  have s : (nI n - b).toInt = n - b.toInt := by
    rw [Int32.toInt_sub, e, Int.bmod_def]
    omega
  rw [Int32.lt_iff_toInt_lt, Int64.le_iff_toInt_le, t64_add ha hb, Int32.toInt_toInt64, s, e]
  omega
theorem nI_of {a : Int32} (h : ¬ a < 0) : a = nI a.toNatClampNeg ∧ a.toNatClampNeg < 2 ^ 31 := by
  have ha := Int32.not_lt.mp h
  have h1 := Int32.toInt_lt a
  have h3 : 0 ≤ a.toInt := Int32.le_iff_toInt_le.mp ha
  have e : a.toNatClampNeg = a.toInt.toNat := rfl
  obtain ⟨k, hk, q⟩ : ∃ k, k ≤ 2 ^ 31 - 1 ∧ a = nI k := iw_nI (hi := 2147483647) (n := 2 ^ 31 - 1) (by
    rw [iw_0]
    intro q
    rcases q with q | q
    · exact h q
    · have := Int32.lt_iff_toInt_lt.mp q
      have e2 : (2147483647 : Int32).toInt = 2147483647 := by decide
      omega) (by decide)
  subst q
  rw [nI_clamp (by omega)]
  exact ⟨rfl, by omega⟩
