/-! tokens of a text, as numbers: where one begins says all -/
def pBl (b : Nat) : Bool := decide (b = 32) || decide (b = 10)
def pLt (b : Nat) : Bool := decide (97 ≤ b) && decide (b ≤ 122)
def pFg (b : Nat) : Bool := decide (48 ≤ b) && decide (b ≤ 57)
def sb (b : Nat) : Int32 := (nI b).toInt8.toInt32
theorem byc : ∀ b, b < 256 → fX8_isBlank (sb b) = some (if pBl b = true then 1 else 0) ∧ fX8_isLetter (sb b) = some (if pLt b = true then 1 else 0) ∧ fX8_isFigure (sb b) = some (if pFg b = true then 1 else 0) ∧ (sb b = 59 ↔ b = 59) ∧ (pFg b = true → sb b = nI b) ∧ (pLt b = true → sb b = nI b) := by decide +kernel
theorem bym : ∀ b, b < 256 → fX12_isLetter (nI b) = some (if pLt b = true then 1 else 0) ∧ fX12_isFigure (nI b) = some (if pFg b = true then 1 else 0) ∧ (pBl b = true ↔ (nI b = 32 ∨ nI b = 10)) ∧ (nI b = 59 ↔ b = 59) ∧ ¬ nI b = -1000000 := by decide +kernel
theorem pLt_n {b : Nat} (h : pLt b = true) : 97 ≤ b ∧ b ≤ 122 := by simpa [pLt] using h
theorem pFg_n {b : Nat} (h : pFg b = true) : 48 ≤ b ∧ b ≤ 57 := by simpa [pFg] using h
theorem pEn_ex (P : Nat → Bool) (L : Nat) : ∀ n p, p + n = L → ∃ q, p ≤ q ∧ q ≤ L ∧ (∀ j, p ≤ j → j < q → P j = true) ∧ (q = L ∨ P q = false) := by
  intro n
  induction n with
  | zero => intro p hp; exact ⟨p, Nat.le_refl _, by omega, fun j h1 h2 => by omega, Or.inl (by omega)⟩
  | succ n ih =>
    intro p hp
    cases h : P p with
    | false => exact ⟨p, Nat.le_refl _, by omega, fun j h1 h2 => by omega, Or.inr h⟩
    | true =>
      obtain ⟨q, q1, q2, q3, q4⟩ := ih (p + 1) (by omega)
      refine ⟨q, by omega, q2, fun j h1 h2 => ?_, q4⟩
      rcases Nat.lt_or_ge p j with c | c
      · exact q3 j (by omega) h2
      · have : j = p := by omega
        rw [this]; exact h
theorem pEn_ex2 (P : Nat → Bool) (L p : Nat) : ∃ q, p ≤ L → p ≤ q ∧ q ≤ L ∧ (∀ j, p ≤ j → j < q → P j = true) ∧ (q = L ∨ P q = false) := by
  rcases Nat.lt_or_ge L p with h | h
  · exact ⟨0, fun q => by omega⟩
  · obtain ⟨q, hq⟩ := pEn_ex P L (L - p) p (by omega)
    exact ⟨q, fun _ => hq⟩
/-- where a run ends -/
noncomputable def pEn (P : Nat → Bool) (L p : Nat) : Nat := Classical.choose (pEn_ex2 P L p)
theorem pEn_h (P : Nat → Bool) {L p : Nat} (h : p ≤ L) : p ≤ pEn P L p ∧ pEn P L p ≤ L ∧ (∀ j, p ≤ j → j < pEn P L p → P j = true) ∧ (pEn P L p = L ∨ P (pEn P L p) = false) := Classical.choose_spec (pEn_ex2 P L p) h
noncomputable def pWs (B : Nat → Nat) (L p : Nat) : Nat := pEn (fun j => pBl (B j)) L p
noncomputable def pNm (B : Nat → Nat) (L p : Nat) : Nat := pEn (fun j => pLt (B j)) L p
noncomputable def pNu (B : Nat → Nat) (L p : Nat) : Nat := pEn (fun j => pFg (B j)) L p
/-- the sort of the token that begins at f, and where it ends -/
noncomputable def pKd (B : Nat → Nat) (L f : Nat) : Nat := if L ≤ f then 0 else if pLt (B f) = true then 1 else if pFg (B f) = true then (if pNu B L f - f ≤ 3 then 2 else 4) else if B f = 59 then 3 else 4
noncomputable def pTe (B : Nat → Nat) (L f : Nat) : Nat := if L ≤ f then f else if pLt (B f) = true then pNm B L f else if pFg (B f) = true then pNu B L f else f + 1
def pVl (B : Nat → Nat) (f : Nat) : Nat → Nat
  | 0 => 0
  | n + 1 => pVl B f n * 10 + (B (f + n) - 48)
noncomputable def pNx (B : Nat → Nat) (L f : Nat) : Nat := pWs B L (pTe B L f)
theorem pTe_le {B : Nat → Nat} {L f : Nat} (h : f ≤ L) : f ≤ pTe B L f ∧ pTe B L f ≤ L ∧ (f < L → f < pTe B L f) := by
  unfold pTe
  by_cases h0 : L ≤ f
  · rw [if_pos h0]; exact ⟨Nat.le_refl _, h, fun q => by omega⟩
  · rw [if_neg h0]
    by_cases h1 : pLt (B f) = true
    · rw [if_pos h1]
      obtain ⟨a, b, c, d⟩ := pEn_h (fun j => pLt (B j)) h
      refine ⟨a, b, fun _ => ?_⟩
      rcases Nat.lt_or_ge f (pNm B L f) with q | q
      · exact q
      · have e : pNm B L f = f := Nat.le_antisymm q a
        rcases d with d | d
        · have : pNm B L f = L := d
          omega
        · have d : pLt (B (pNm B L f)) = false := d
          rw [e, h1] at d
          exact absurd d (by decide)
    · rw [if_neg h1]
      by_cases h2 : pFg (B f) = true
      · rw [if_pos h2]
        obtain ⟨a, b, c, d⟩ := pEn_h (fun j => pFg (B j)) h
        refine ⟨a, b, fun _ => ?_⟩
        rcases Nat.lt_or_ge f (pNu B L f) with q | q
        · exact q
        · have e : pNu B L f = f := Nat.le_antisymm q a
          rcases d with d | d
          · have : pNu B L f = L := d
            omega
          · have d : pFg (B (pNu B L f)) = false := d
            rw [e, h2] at d
            exact absurd d (by decide)
      · rw [if_neg h2]
        exact ⟨by omega, by omega, fun _ => by omega⟩
theorem pWs_le {B : Nat → Nat} {L p : Nat} (h : p ≤ L) : p ≤ pWs B L p ∧ pWs B L p ≤ L := ⟨(pEn_h _ h).1, (pEn_h _ h).2.1⟩
theorem pNx_le {B : Nat → Nat} {L f : Nat} (h : f ≤ L) : f ≤ pNx B L f ∧ pNx B L f ≤ L ∧ (f < L → f < pNx B L f) := by
  obtain ⟨a, b, c⟩ := pTe_le (B := B) h
  obtain ⟨d, e⟩ := pWs_le (B := B) b
  unfold pNx
  exact ⟨by omega, e, fun q => by have := c q; omega⟩
theorem pKd_lt {B : Nat → Nat} {L f : Nat} (h : ¬ pKd B L f = 0) : f < L := by
  unfold pKd at h
  rcases Nat.lt_or_ge f L with q | q
  · exact q
  · rw [if_pos q] at h; exact absurd rfl h
theorem pKd_1 {B : Nat → Nat} {L f : Nat} (h : pKd B L f = 1) : f < L ∧ pTe B L f = pNm B L f ∧ ∀ j, f ≤ j → j < pTe B L f → pLt (B j) = true := by
  have hl := pKd_lt (B := B) (L := L) (f := f) (by omega)
  unfold pKd at h
  rw [if_neg (by omega)] at h
  by_cases h1 : pLt (B f) = true
  · have e : pTe B L f = pNm B L f := by unfold pTe; rw [if_neg (by omega), if_pos h1]
    refine ⟨hl, e, fun j a b => ?_⟩
    rw [e] at b
    exact (pEn_h (fun j => pLt (B j)) (Nat.le_of_lt hl)).2.2.1 j a b
  · rw [if_neg h1] at h
    split at h
    · split at h <;> omega
    · split at h <;> omega
theorem pKd_2 {B : Nat → Nat} {L f : Nat} (h : pKd B L f = 2) : f < L ∧ pTe B L f - f ≤ 3 ∧ ∀ j, f ≤ j → j < pTe B L f → pFg (B j) = true := by
  have hl := pKd_lt (B := B) (L := L) (f := f) (by omega)
  unfold pKd at h
  rw [if_neg (by omega)] at h
  by_cases h1 : pLt (B f) = true
  · rw [if_pos h1] at h; omega
  · rw [if_neg h1] at h
    by_cases h2 : pFg (B f) = true
    · rw [if_pos h2] at h
      have e : pTe B L f = pNu B L f := by unfold pTe; rw [if_neg (by omega), if_neg h1, if_pos h2]
      refine ⟨hl, ?_, fun j a b => ?_⟩
      · rw [e]
        by_cases h3 : pNu B L f - f ≤ 3
        · exact h3
        · rw [if_neg h3] at h; omega
      · rw [e] at b
        exact (pEn_h (fun j => pFg (B j)) (Nat.le_of_lt hl)).2.2.1 j a b
    · rw [if_neg h2] at h
      split at h <;> omega
/-- the class's tape and readers -/
def CB (B : Nat → Nat) (L : Nat) (m : Mem) : Prop := (m.2.2 5 0 = some 2 ∧ m.2.2 2 0 = some 3 ∧ m.2.2 4 0 = some 5) ∧ L ≤ 600 ∧ m.1 2 1 = nI L ∧ ∀ j, j < L → B j < 256 ∧ m.1 3 j = sb (B j)
def MB (B : Nat → Nat) (L : Nat) (m : Mem) : Prop := RMok m ∧ L ≤ 600 ∧ m.1 0 12 = nI L ∧ ∀ j, j < L → B j < 256 ∧ m.1 7 j = nI (B j)
def TC (B : Nat → Nat) (L : Nat) (m : Mem) (f : Nat) : Prop := m.1 5 2 = nI f ∧ m.1 5 1 = nI (pTe B L f) ∧ m.1 5 3 = nI (pKd B L f) ∧ (pKd B L f = 2 → m.1 5 4 = nI (pVl B f (pTe B L f - f)))
def mT (k : Nat) : Nat := [1, 2, 3, 4, 0].getD k 0
def TM (B : Nat → Nat) (L : Nat) (m : Mem) (f : Nat) : Prop := m.1 0 15 = nI f ∧ m.1 0 16 = nI (pTe B L f) ∧ m.1 0 13 = nI (pTe B L f) ∧ m.1 0 14 = nI (mT (pKd B L f))
def F5 (m m2 : Mem) : Prop := m2.2 = m.2 ∧ ∀ a, a ≠ 5 → m2.1 a = m.1 a
theorem CB.f {B : Nat → Nat} {L : Nat} {m m2 : Mem} (h : CB B L m) (h2 : F5 m m2) : CB B L m2 := by
  obtain ⟨⟨a1, a2, a3⟩, a4, a5, a6⟩ := h
  obtain ⟨b1, b2⟩ := h2
  exact ⟨⟨by rw [b1]; exact a1, by rw [b1]; exact a2, by rw [b1]; exact a3⟩, a4, by rw [b2 2 (by decide)]; exact a5, fun j hj => by rw [b2 3 (by decide)]; exact a6 j hj⟩
theorem name_c {B : Nat → Nat} {L f : Nat} {m : Mem} (hB : CB B L m) (hf : f ≤ L) (h1 : m.1 5 1 = nI f) : ∃ m2, fX8_takeName 5 m = some m2 ∧ F5 m m2 ∧ m2.1 5 1 = nI (pNm B L f) ∧ m2.1 5 2 = m.1 5 2 ∧ m2.1 5 3 = 1 := by
  obtain ⟨p1, p2, p3, p4⟩ := pEn_h (fun j => pLt (B j)) hf
  have p1 : f ≤ pNm B L f := p1
  have p2 : pNm B L f ≤ L := p2
  have p3 : ∀ j, f ≤ j → j < pNm B L f → pLt (B j) = true := p3
  have p4 : pNm B L f = L ∨ pLt (B (pNm B L f)) = false := p4
  have hL := hB.2.1
  unfold fX8_takeName fX8_takeName_0
  obtain ⟨e, E, Q⟩ := iter_run (b := fun s => fX8_takeName_0b 5 s) (fun q => F5 m q ∧ q.1 5 2 = m.1 5 2 ∧ ∃ k, f ≤ k ∧ k ≤ pNm B L f ∧ q.1 5 1 = nI k) (fun q => 1000 - (q.1 5 1).toNatClampNeg) (fun e => F5 m e ∧ e.1 5 2 = m.1 5 2 ∧ e.1 5 1 = nI (pNm B L f)) (by
    rintro q ⟨qf, q2, k, k1, k2, qk⟩
    obtain ⟨⟨c1, c2, c3⟩, -, c5, c6⟩ := hB.f qf
    rcases Nat.lt_or_ge k L with c | c
    · obtain ⟨b1, b2⟩ := c6 k c
      obtain ⟨y1, y2, y3, y4, y5, y6⟩ := byc (B k) b1
      by_cases z : pLt (B k) = true
      · have kl : k < pNm B L f := by
          rcases Nat.lt_or_ge k (pNm B L f) with x | x
          · exact x
          · have ek : k = pNm B L f := Nat.le_antisymm k2 x
            rcases p4 with x | x
            · omega
            · rw [← ek, z] at x; exact absurd x (by decide)
        refine Or.inl ⟨uI q 5 1 (nI (k + 1)), ?_, ⟨⟨qf.1, fun a ha => by rw [uI_o ha]; exact qf.2 a ha⟩, ?_, k + 1, by omega, by omega, ?_⟩, ?_⟩
        · simp only [fX8_takeName_0b, kc_s, c1, c2, c5, qk, if_neg (nI_ge c (show L < 2 ^ 31 by omega)), eq_self, gp_tt, bnd_s, lt1_e, inb_nI (show k < 600 by omega) (by decide), nI_clamp (show k < 2 ^ 31 by omega), b2, y2, if_pos z, if_neg (show ¬ (1 : Int32) = 0 by decide), nI_1]
        · rw [uI_1, if_neg (by decide)]; exact q2
        · rw [uI_1, if_pos ⟨rfl, rfl⟩]
        · show 1000 - ((uI q 5 1 (nI (k + 1))).1 5 1).toNatClampNeg < 1000 - (q.1 5 1).toNatClampNeg
          rw [uI_1, if_pos ⟨rfl, rfl⟩, qk, nI_clamp (by omega), nI_clamp (by omega)]
          omega
      · have ek : k = pNm B L f := by
          rcases Nat.lt_or_ge k (pNm B L f) with x | x
          · exact absurd (p3 k k1 x) z
          · exact Nat.le_antisymm k2 x
        refine Or.inr ⟨q, ?_, qf, q2, by rw [← ek]; exact qk⟩
        simp only [fX8_takeName_0b, kc_s, c1, c2, c5, qk, if_neg (nI_ge c (show L < 2 ^ 31 by omega)), eq_self, gp_tt, bnd_s, lt1_e, inb_nI (show k < 600 by omega) (by decide), nI_clamp (show k < 2 ^ 31 by omega), b2, y2, if_neg z, if_true]
    · have ek : k = pNm B L f := by omega
      refine Or.inr ⟨q, ?_, qf, q2, by rw [← ek]; exact qk⟩
      simp only [fX8_takeName_0b, kc_s, c1, c5, qk, eq_self, gp_tt, bnd_s, if_pos (nI_le c (show k < 2 ^ 31 by omega))]) FU m ⟨⟨rfl, fun _ _ => rfl⟩, rfl, f, Nat.le_refl _, p1, h1⟩ (by have := FU_ge; omega)
  rw [E, bnd_s, gp_pos kc_s.2.2.2.2.2.1, lt1_e]
  refine ⟨_, rfl, ⟨Q.1.1, fun a ha => by rw [uI_o ha]; exact Q.1.2 a ha⟩, ?_, ?_, ?_⟩
  · rw [uI_1, if_neg (by decide)]; exact Q.2.2
  · rw [uI_1, if_neg (by decide)]; exact Q.2.1
  · rw [uI_1, if_pos ⟨rfl, rfl⟩]
theorem numb_c {B : Nat → Nat} {L f : Nat} {m : Mem} (hB : CB B L m) (hf : f ≤ L) (h1 : m.1 5 1 = nI f) (h2 : m.1 5 2 = nI f) : ∃ m2, fX8_takeNumber 5 m = some m2 ∧ F5 m m2 ∧ m2.1 5 1 = nI (pNu B L f) ∧ m2.1 5 2 = nI f ∧ m2.1 5 3 = (if pNu B L f - f ≤ 3 then 2 else 4) ∧ m2.1 5 4 = nI (pVl B f (pNu B L f - f)) := by
  obtain ⟨p1, p2, p3, p4⟩ := pEn_h (fun j => pFg (B j)) hf
  have p1 : f ≤ pNu B L f := p1
  have p2 : pNu B L f ≤ L := p2
  have p3 : ∀ j, f ≤ j → j < pNu B L f → pFg (B j) = true := p3
  have p4 : pNu B L f = L ∨ pFg (B (pNu B L f)) = false := p4
  have hL := hB.2.1
  unfold fX8_takeNumber
  rw [gp_pos kc_s.2.2.2.2.2.1, lt1_e]
  unfold fX8_takeNumber_5
  obtain ⟨e, E, Q⟩ := iter_run (b := fun s => fX8_takeNumber_5b 5 s) (fun q => F5 m q ∧ q.1 5 2 = nI f ∧ ∃ k, f ≤ k ∧ k ≤ pNu B L f ∧ q.1 5 1 = nI k ∧ q.1 5 4 = nI (pVl B f (k - f))) (fun q => 1000 - (q.1 5 1).toNatClampNeg) (fun e => F5 m e ∧ e.1 5 2 = nI f ∧ e.1 5 1 = nI (pNu B L f) ∧ e.1 5 4 = nI (pVl B f (pNu B L f - f))) (by
    rintro q ⟨qf, q2, k, k1, k2, qk, qv⟩
    obtain ⟨⟨c1, c2, c3⟩, -, c5, c6⟩ := hB.f qf
    rcases Nat.lt_or_ge k L with c | c
    · obtain ⟨b1, b2⟩ := c6 k c
      obtain ⟨y1, y2, y3, y4, y5, y6⟩ := byc (B k) b1
      by_cases z : pFg (B k) = true
      · have kl : k < pNu B L f := by
          rcases Nat.lt_or_ge k (pNu B L f) with x | x
          · exact x
          · have ek : k = pNu B L f := Nat.le_antisymm k2 x
            rcases p4 with x | x
            · omega
            · rw [← ek, z] at x; exact absurd x (by decide)
        have v : nI (pVl B f (k - f)) * 10 + (nI (B k) - 48) = nI (pVl B f (k + 1 - f)) := by
          rw [show k + 1 - f = (k - f) + 1 by omega]
          show _ = nI (pVl B f (k - f) * 10 + (B (f + (k - f)) - 48))
          rw [show f + (k - f) = k by omega, show (10 : Int32) = nI 10 from rfl, show (48 : Int32) = nI 48 from rfl, pk_mul, pk_sub (pFg_n z).1, nI_add]
        refine Or.inl ⟨uI (uI q 5 4 (nI (pVl B f (k + 1 - f)))) 5 1 (nI (k + 1)), ?_, ⟨⟨qf.1, fun a ha => by rw [uI_o ha, uI_o ha]; exact qf.2 a ha⟩, ?_, k + 1, by omega, by omega, ?_, ?_⟩, ?_⟩
        · have u1 : ∀ y, (uI q 5 4 y).1 5 1 = nI k := fun y => by rw [uI_1, if_neg (by decide)]; exact qk
          have y3' := y3
          rw [y5 z] at y3'
          simp only [fX8_takeNumber_5b, kc_s, c1, c2, c5, qk, if_neg (nI_ge c (show L < 2 ^ 31 by omega)), eq_self, gp_tt, bnd_s, lt1_e, inb_nI (show k < 600 by omega) (by decide), nI_clamp (show k < 2 ^ 31 by omega), b2, y5 z, y3', if_pos z, if_neg (show ¬ (1 : Int32) = 0 by decide), qv, v, u1, nI_1]
        · rw [uI_1, if_neg (by decide), uI_1, if_neg (by decide)]; exact q2
        · rw [uI_1, if_pos ⟨rfl, rfl⟩]
        · rw [uI_1, if_neg (by decide), uI_1, if_pos ⟨rfl, rfl⟩]
        · show 1000 - ((uI (uI q 5 4 _) 5 1 (nI (k + 1))).1 5 1).toNatClampNeg < 1000 - (q.1 5 1).toNatClampNeg
          rw [uI_1, if_pos ⟨rfl, rfl⟩, qk, nI_clamp (by omega), nI_clamp (by omega)]
          omega
      · have ek : k = pNu B L f := by
          rcases Nat.lt_or_ge k (pNu B L f) with x | x
          · exact absurd (p3 k k1 x) z
          · exact Nat.le_antisymm k2 x
        refine Or.inr ⟨q, ?_, qf, q2, by rw [← ek]; exact qk, by rw [← ek]; exact qv⟩
        simp only [fX8_takeNumber_5b, kc_s, c1, c2, c5, qk, if_neg (nI_ge c (show L < 2 ^ 31 by omega)), eq_self, gp_tt, bnd_s, lt1_e, inb_nI (show k < 600 by omega) (by decide), nI_clamp (show k < 2 ^ 31 by omega), b2, y3, if_neg z, if_true]
    · have ek : k = pNu B L f := by omega
      refine Or.inr ⟨q, ?_, qf, q2, by rw [← ek]; exact qk, by rw [← ek]; exact qv⟩
      simp only [fX8_takeNumber_5b, kc_s, c1, c5, qk, eq_self, gp_tt, bnd_s, if_pos (nI_le c (show k < 2 ^ 31 by omega))]) FU (uI m 5 4 0) ⟨⟨rfl, fun a ha => uI_o ha⟩, by rw [uI_1, if_neg (by decide)]; exact h2, f, Nat.le_refl _, p1, by rw [uI_1, if_neg (by decide)]; exact h1, by rw [uI_1, if_pos ⟨rfl, rfl⟩, Nat.sub_self]; rfl⟩ (by have := FU_ge; omega)
  rw [E, bnd_s]
  obtain ⟨qf, q2, q1, q4⟩ := Q
  have hs : nI (pNu B L f) - nI f = nI (pNu B L f - f) := pk_sub p1
  have fin : fX8_takeNumber_77 5 e = some (uI e 5 3 (if pNu B L f - f ≤ 3 then 2 else 4)) := by
    simp only [fX8_takeNumber_77, kc_s, eq_self, gp_tt, lt1_e, q1, q2, hs]
    by_cases z : pNu B L f - f ≤ 3
    · rw [if_neg (show ¬ (3 : Int32) < nI (pNu B L f - f) from nI_nlt (a := 3) z (by decide)), if_pos z]
    · rw [if_pos (show (3 : Int32) < nI (pNu B L f - f) from nI_lt (a := 3) (by omega) (by omega)), if_neg z]
  refine ⟨_, fin, ⟨qf.1, fun a ha => by rw [uI_o ha]; exact qf.2 a ha⟩, ?_, ?_, ?_, ?_⟩
  · rw [uI_1, if_neg (by decide)]; exact q1
  · rw [uI_1, if_neg (by decide)]; exact q2
  · rw [uI_1, if_pos ⟨rfl, rfl⟩]
  · rw [uI_1, if_neg (by decide)]; exact q4
theorem adv_c {B : Nat → Nat} {L p : Nat} {m : Mem} (hB : CB B L m) (hp : p ≤ L) (h1 : m.1 5 1 = nI p) : ∃ m2, fX8_advance 5 m = some m2 ∧ F5 m m2 ∧ TC B L m2 (pWs B L p) := by
  obtain ⟨p1, p2, p3, p4⟩ := pEn_h (fun j => pBl (B j)) hp
  have p1 : p ≤ pWs B L p := p1
  have p2 : pWs B L p ≤ L := p2
  have p3 : ∀ j, p ≤ j → j < pWs B L p → pBl (B j) = true := p3
  have p4 : pWs B L p = L ∨ pBl (B (pWs B L p)) = false := p4
  have hL := hB.2.1
  unfold fX8_advance
  rw [gp_pos kc_s.2.2.2.2.2.1, lt1_e, h1]
  unfold fX8_advance_8
  obtain ⟨e, E, Q⟩ := iter_run (b := fun s => fX8_advance_8b 5 s) (fun q => F5 m q ∧ ∃ k, p ≤ k ∧ k ≤ pWs B L p ∧ q.1 5 2 = nI k) (fun q => 1000 - (q.1 5 2).toNatClampNeg) (fun e => F5 m e ∧ e.1 5 2 = nI (pWs B L p)) (by
    rintro q ⟨qf, k, k1, k2, qk⟩
    obtain ⟨⟨c1, c2, c3⟩, -, c5, c6⟩ := hB.f qf
    rcases Nat.lt_or_ge k L with c | c
    · obtain ⟨b1, b2⟩ := c6 k c
      obtain ⟨y1, y2, y3, y4, y5, y6⟩ := byc (B k) b1
      by_cases z : pBl (B k) = true
      · have kl : k < pWs B L p := by
          rcases Nat.lt_or_ge k (pWs B L p) with x | x
          · exact x
          · have ek : k = pWs B L p := Nat.le_antisymm k2 x
            rcases p4 with x | x
            · omega
            · rw [← ek, z] at x; exact absurd x (by decide)
        refine Or.inl ⟨uI q 5 2 (nI (k + 1)), ?_, ⟨⟨qf.1, fun a ha => by rw [uI_o ha]; exact qf.2 a ha⟩, k + 1, by omega, by omega, ?_⟩, ?_⟩
        · simp only [fX8_advance_8b, kc_s, c1, c2, c5, qk, if_neg (nI_ge c (show L < 2 ^ 31 by omega)), eq_self, gp_tt, bnd_s, lt1_e, inb_nI (show k < 600 by omega) (by decide), nI_clamp (show k < 2 ^ 31 by omega), b2, y1, if_pos z, if_neg (show ¬ (1 : Int32) = 0 by decide), nI_1]
        · rw [uI_1, if_pos ⟨rfl, rfl⟩]
        · show 1000 - ((uI q 5 2 (nI (k + 1))).1 5 2).toNatClampNeg < 1000 - (q.1 5 2).toNatClampNeg
          rw [uI_1, if_pos ⟨rfl, rfl⟩, qk, nI_clamp (by omega), nI_clamp (by omega)]
          omega
      · have ek : k = pWs B L p := by
          rcases Nat.lt_or_ge k (pWs B L p) with x | x
          · exact absurd (p3 k k1 x) z
          · exact Nat.le_antisymm k2 x
        refine Or.inr ⟨q, ?_, qf, by rw [← ek]; exact qk⟩
        simp only [fX8_advance_8b, kc_s, c1, c2, c5, qk, if_neg (nI_ge c (show L < 2 ^ 31 by omega)), eq_self, gp_tt, bnd_s, lt1_e, inb_nI (show k < 600 by omega) (by decide), nI_clamp (show k < 2 ^ 31 by omega), b2, y1, if_neg z, if_true]
    · have ek : k = pWs B L p := by omega
      refine Or.inr ⟨q, ?_, qf, by rw [← ek]; exact qk⟩
      simp only [fX8_advance_8b, kc_s, c1, c5, qk, eq_self, gp_tt, bnd_s, if_pos (nI_le c (show k < 2 ^ 31 by omega))]) FU (uI m 5 2 (nI p)) ⟨⟨rfl, fun a ha => uI_o ha⟩, p, Nat.le_refl _, p1, by rw [uI_1, if_pos ⟨rfl, rfl⟩]⟩ (by have := FU_ge; omega)
  rw [E, bnd_s]
  obtain ⟨qf, q2⟩ := Q
  generalize hf : pWs B L p = f at *
  unfold fX8_advance_53
  rw [gp_pos kc_s.2.2.2.2.2.1, lt1_e, q2]
  generalize hm8 : uI e 5 1 (nI f) = m8
  have f8 : F5 m m8 := ⟨by rw [← hm8, uI_2]; exact qf.1, fun a ha => by rw [← hm8, uI_o ha]; exact qf.2 a ha⟩
  have s1 : m8.1 5 1 = nI f := by rw [← hm8, uI_1, if_pos ⟨rfl, rfl⟩]
  have s2 : m8.1 5 2 = nI f := by rw [← hm8, uI_1, if_neg (by decide)]; exact q2
  have hB8 := hB.f f8
  obtain ⟨⟨c1, c2, c3⟩, -, c5, c6⟩ := id hB8
  rw [c1, bnd_s, gp_pos kc_s.2.2.1, s2, c5]
  rcases Nat.lt_or_ge f L with c | c
  · rw [if_pos (nI_lt c (by omega)), c2, bnd_s, gp_pos kc_s.2.2.2.1, kc_s.2.2.2.2.2.2.2.2.2.2.2.2.2.2.2.2.1, gp_pos (inb_nI (show f < 600 by omega) (by decide)), nI_clamp (show f < 2 ^ 31 by omega)]
    obtain ⟨b1, b2⟩ := c6 f c
    obtain ⟨y1, y2, y3, y4, y5, y6⟩ := byc (B f) b1
    rw [b2, y2, bnd_s]
    by_cases h2 : pLt (B f) = true
    · rw [if_pos h2, if_neg (show ¬ (1 : Int32) = 0 by decide)]
      obtain ⟨m2, e1, e2, e3, e4, e5⟩ := name_c hB8 (Nat.le_of_lt c) s1
      rw [e1, bnd_s]
      have kd : pKd B L f = 1 := by unfold pKd; rw [if_neg (by omega), if_pos h2]
      have te : pTe B L f = pNm B L f := by unfold pTe; rw [if_neg (by omega), if_pos h2]
      refine ⟨m2, rfl, ⟨e2.1.trans f8.1, fun a ha => (e2.2 a ha).trans (f8.2 a ha)⟩, by rw [e4, s2], by rw [e3, te], by rw [e5, kd]; rfl, fun q => by omega⟩
    · rw [if_neg h2, if_pos rfl, gp_pos (inb_nI (show f < 600 by omega) (by decide)), y3, bnd_s]
      by_cases h3 : pFg (B f) = true
      · rw [if_pos h3, if_neg (show ¬ (1 : Int32) = 0 by decide)]
        obtain ⟨m2, e1, e2, e3, e4, e5, e6⟩ := numb_c hB8 (Nat.le_of_lt c) s1 s2
        rw [e1, bnd_s]
        have kd : pKd B L f = if pNu B L f - f ≤ 3 then 2 else 4 := by unfold pKd; rw [if_neg (by omega), if_neg h2, if_pos h3]
        have te : pTe B L f = pNu B L f := by unfold pTe; rw [if_neg (by omega), if_neg h2, if_pos h3]
        refine ⟨m2, rfl, ⟨e2.1.trans f8.1, fun a ha => (e2.2 a ha).trans (f8.2 a ha)⟩, e4, by rw [e3, te], ?_, fun q => by rw [e6, te]⟩
        rw [e5, kd]
        split <;> rfl
      · rw [if_neg h3, if_pos rfl, gp_pos (inb_nI (show f < 600 by omega) (by decide))]
        have te : pTe B L f = f + 1 := by unfold pTe; rw [if_neg (by omega), if_neg h2, if_neg h3]
        have adv : ∀ v : Int32, fX8_advance_156 5 5 v m8 = some (uI (uI m8 5 3 v) 5 1 (nI (f + 1))) := fun v => by
          have u : (uI m8 5 3 v).1 5 2 = nI f := by rw [uI_1, if_neg (by decide)]; exact s2
          simp only [fX8_advance_156, kc_s, eq_self, gp_tt, lt1_e, u, nI_1]
        have fin : ∀ v : Nat, pKd B L f = v → ¬ v = 2 → ∃ m2, some (uI (uI m8 5 3 (nI v)) 5 1 (nI (f + 1))) = some m2 ∧ F5 m m2 ∧ TC B L m2 f := fun v hv h2 => by
          refine ⟨_, rfl, ⟨f8.1, fun a ha => by rw [uI_o ha, uI_o ha]; exact f8.2 a ha⟩, ?_, ?_, ?_, fun q => by omega⟩
          · rw [uI_1, if_neg (by decide), uI_1, if_neg (by decide)]; exact s2
          · rw [uI_1, if_pos ⟨rfl, rfl⟩, te]
          · rw [uI_1, if_neg (by decide), uI_1, if_pos ⟨rfl, rfl⟩, hv]
        by_cases h4 : B f = 59
        · have kd : pKd B L f = 3 := by unfold pKd; rw [if_neg (by omega), if_neg h2, if_neg h3, if_pos h4]
          rw [if_pos (y4.mpr h4), adv]
          exact fin 3 kd (by decide)
        · have kd : pKd B L f = 4 := by unfold pKd; rw [if_neg (by omega), if_neg h2, if_neg h3, if_neg h4]
          rw [if_neg (fun q => h4 (y4.mp q)), adv]
          exact fin 4 kd (by decide)
  · rw [if_neg (nI_nlt c (by omega)), lt1_e]
    have kd : pKd B L f = 0 := by unfold pKd; rw [if_pos c]
    have te : pTe B L f = f := by unfold pTe; rw [if_pos c]
    refine ⟨_, rfl, ⟨f8.1, fun a ha => by rw [uI_o ha]; exact f8.2 a ha⟩, ?_, ?_, ?_, fun q => by omega⟩
    · rw [uI_1, if_neg (by decide)]; exact s2
    · rw [uI_1, if_neg (by decide), te]; exact s1
    · rw [uI_1, if_pos ⟨rfl, rfl⟩, kd]; rfl
