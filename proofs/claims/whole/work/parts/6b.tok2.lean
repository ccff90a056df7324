/-- the reference's bytes -/
def Fm0 (m m2 : Mem) : Prop := m2.2 = m.2 ∧ (∀ a, a ≠ 0 → m2.1 a = m.1 a) ∧ ∀ x, (x < 13 ∨ 16 < x) → m2.1 0 x = m.1 0 x
theorem Fm0.r (m : Mem) : Fm0 m m := ⟨rfl, fun _ _ => rfl, fun _ _ => rfl⟩
theorem Fm0.u {m q : Mem} (h : Fm0 m q) {x : Nat} (v : Int32) (hx : 13 ≤ x ∧ x ≤ 16) : Fm0 m (uI q 0 x v) := ⟨h.1, fun a ha => by rw [uI_o ha]; exact h.2.1 a ha, fun y hy => by rw [uI_1, if_neg (by omega)]; exact h.2.2 y hy⟩
theorem MB.f {B : Nat → Nat} {L : Nat} {m m2 : Mem} (h : MB B L m) (h2 : Fm0 m m2) : MB B L m2 := by
  obtain ⟨a1, a2, a3, a4⟩ := h
  exact ⟨fun k hk => by rw [h2.1]; exact a1 k hk, a2, by rw [h2.2.2 12 (by decide)]; exact a3, fun j hj => by rw [h2.2.1 7 (by decide)]; exact a4 j hj⟩
theorem byteAt_m {B : Nat → Nat} {L k : Nat} {m : Mem} (h : MB B L m) (hk : k ≤ L) : fX12_byteAt 0 (nI k) m = some (if k = L then -1000000 else nI (B k)) := by
  obtain ⟨a1, a2, a3, a4⟩ := h
  rcases Nat.lt_or_ge k L with c | c
  · simp only [fX12_byteAt, km_s, rm_s a1, a3, if_neg (nI_ge c (show L < 2 ^ 31 by omega)), eq_self, gp_tt, bnd_s, inb_nI (show k < 600 by omega) (by decide), nI_clamp (show k < 2 ^ 31 by omega), (a4 k c).2, if_neg (show ¬ k = L by omega)]
  · simp only [fX12_byteAt, km_s, a3, eq_self, gp_tt, if_pos (nI_le c (show k < 2 ^ 31 by omega)), if_pos (show k = L by omega)]
theorem name_m {B : Nat → Nat} {L f : Nat} {m : Mem} (hB : MB B L m) (hf : f ≤ L) (h1 : m.1 0 13 = nI f) : ∃ e, iter (fun s => fX12_next_77b 0 s) FU m = some e ∧ Fm0 m e ∧ e.1 0 15 = m.1 0 15 ∧ e.1 0 13 = nI (pNm B L f) := by
  obtain ⟨p1, p2, p3, p4⟩ := pEn_h (fun j => pLt (B j)) hf
  have p1 : f ≤ pNm B L f := p1
  have p2 : pNm B L f ≤ L := p2
  have p3 : ∀ j, f ≤ j → j < pNm B L f → pLt (B j) = true := p3
  have p4 : pNm B L f = L ∨ pLt (B (pNm B L f)) = false := p4
  have hL := hB.2.1
  obtain ⟨e, E, Q⟩ := iter_run (b := fun s => fX12_next_77b 0 s) (fun q => Fm0 m q ∧ q.1 0 15 = m.1 0 15 ∧ ∃ k, f ≤ k ∧ k ≤ pNm B L f ∧ q.1 0 13 = nI k) (fun q => 1000 - (q.1 0 13).toNatClampNeg) (fun e => Fm0 m e ∧ e.1 0 15 = m.1 0 15 ∧ e.1 0 13 = nI (pNm B L f)) (by
    rintro q ⟨qf, q2, k, k1, k2, qk⟩
    have hB' := hB.f qf
    have bA := byteAt_m hB' (k := k) (by omega)
    rcases Nat.lt_or_ge k L with c | c
    · obtain ⟨y, b2⟩ := hB'.2.2.2 k c
      obtain ⟨y1, y2, y3, y4, y5⟩ := bym (B k) y
      rw [if_neg (by omega)] at bA
      by_cases z : pLt (B k) = true
      · have kl : k < pNm B L f := by
          rcases Nat.lt_or_ge k (pNm B L f) with x | x
          · exact x
          · have ek : k = pNm B L f := Nat.le_antisymm k2 x
            rcases p4 with x | x
            · omega
            · rw [← ek, z] at x; exact absurd x (by decide)
        refine Or.inl ⟨uI q 0 13 (nI (k + 1)), ?_, ⟨qf.u _ (by decide), ?_, k + 1, by omega, by omega, ?_⟩, ?_⟩
        · simp only [fX12_next_77b, km_s, qk, bA, y1, if_pos z, eq_self, gp_tt, bnd_s, lt1_e, if_neg (show ¬ (1 : Int32) = 0 by decide), nI_1]
        · rw [uI_1, if_neg (by decide)]; exact q2
        · rw [uI_1, if_pos ⟨rfl, rfl⟩]
        · show 1000 - ((uI q 0 13 (nI (k + 1))).1 0 13).toNatClampNeg < 1000 - (q.1 0 13).toNatClampNeg
          rw [uI_1, if_pos ⟨rfl, rfl⟩, qk, nI_clamp (by omega), nI_clamp (by omega)]
          omega
      · have ek : k = pNm B L f := by
          rcases Nat.lt_or_ge k (pNm B L f) with x | x
          · exact absurd (p3 k k1 x) z
          · exact Nat.le_antisymm k2 x
        refine Or.inr ⟨q, ?_, qf, q2, by rw [← ek]; exact qk⟩
        simp only [fX12_next_77b, km_s, qk, bA, y1, if_neg z, eq_self, gp_tt, bnd_s, if_true]
    · have ek : k = pNm B L f := by omega
      rw [if_pos (by omega)] at bA
      have no : fX12_isLetter (-1000000) = some 0 := by decide +kernel
      refine Or.inr ⟨q, ?_, qf, q2, by rw [← ek]; exact qk⟩
      simp only [fX12_next_77b, km_s, qk, bA, no, eq_self, gp_tt, bnd_s, if_true]) FU m ⟨Fm0.r m, rfl, f, Nat.le_refl _, p1, h1⟩ (by have := FU_ge; omega)
  exact ⟨e, E, Q⟩
theorem numb_m {B : Nat → Nat} {L f : Nat} {m : Mem} (hB : MB B L m) (hf : f ≤ L) (h1 : m.1 0 13 = nI f) : ∃ e, iter (fun s => fX12_next_119b 0 s) FU m = some e ∧ Fm0 m e ∧ e.1 0 15 = m.1 0 15 ∧ e.1 0 13 = nI (pNu B L f) := by
  obtain ⟨p1, p2, p3, p4⟩ := pEn_h (fun j => pFg (B j)) hf
  have p1 : f ≤ pNu B L f := p1
  have p2 : pNu B L f ≤ L := p2
  have p3 : ∀ j, f ≤ j → j < pNu B L f → pFg (B j) = true := p3
  have p4 : pNu B L f = L ∨ pFg (B (pNu B L f)) = false := p4
  have hL := hB.2.1
  obtain ⟨e, E, Q⟩ := iter_run (b := fun s => fX12_next_119b 0 s) (fun q => Fm0 m q ∧ q.1 0 15 = m.1 0 15 ∧ ∃ k, f ≤ k ∧ k ≤ pNu B L f ∧ q.1 0 13 = nI k) (fun q => 1000 - (q.1 0 13).toNatClampNeg) (fun e => Fm0 m e ∧ e.1 0 15 = m.1 0 15 ∧ e.1 0 13 = nI (pNu B L f)) (by
    rintro q ⟨qf, q2, k, k1, k2, qk⟩
    have hB' := hB.f qf
    have bA := byteAt_m hB' (k := k) (by omega)
    rcases Nat.lt_or_ge k L with c | c
    · obtain ⟨y, b2⟩ := hB'.2.2.2 k c
      obtain ⟨y1, y2, y3, y4, y5⟩ := bym (B k) y
      rw [if_neg (by omega)] at bA
      by_cases z : pFg (B k) = true
      · have kl : k < pNu B L f := by
          rcases Nat.lt_or_ge k (pNu B L f) with x | x
          · exact x
          · have ek : k = pNu B L f := Nat.le_antisymm k2 x
            rcases p4 with x | x
            · omega
            · rw [← ek, z] at x; exact absurd x (by decide)
        refine Or.inl ⟨uI q 0 13 (nI (k + 1)), ?_, ⟨qf.u _ (by decide), ?_, k + 1, by omega, by omega, ?_⟩, ?_⟩
        · simp only [fX12_next_119b, km_s, qk, bA, y2, if_pos z, eq_self, gp_tt, bnd_s, lt1_e, if_neg (show ¬ (1 : Int32) = 0 by decide), nI_1]
        · rw [uI_1, if_neg (by decide)]; exact q2
        · rw [uI_1, if_pos ⟨rfl, rfl⟩]
        · show 1000 - ((uI q 0 13 (nI (k + 1))).1 0 13).toNatClampNeg < 1000 - (q.1 0 13).toNatClampNeg
          rw [uI_1, if_pos ⟨rfl, rfl⟩, qk, nI_clamp (by omega), nI_clamp (by omega)]
          omega
      · have ek : k = pNu B L f := by
          rcases Nat.lt_or_ge k (pNu B L f) with x | x
          · exact absurd (p3 k k1 x) z
          · exact Nat.le_antisymm k2 x
        refine Or.inr ⟨q, ?_, qf, q2, by rw [← ek]; exact qk⟩
        simp only [fX12_next_119b, km_s, qk, bA, y2, if_neg z, eq_self, gp_tt, bnd_s, if_true]
    · have ek : k = pNu B L f := by omega
      rw [if_pos (by omega)] at bA
      have no : fX12_isFigure (-1000000) = some 0 := by decide +kernel
      refine Or.inr ⟨q, ?_, qf, q2, by rw [← ek]; exact qk⟩
      simp only [fX12_next_119b, km_s, qk, bA, no, eq_self, gp_tt, bnd_s, if_true]) FU m ⟨Fm0.r m, rfl, f, Nat.le_refl _, p1, h1⟩ (by have := FU_ge; omega)
  exact ⟨e, E, Q⟩
theorem next_m {B : Nat → Nat} {L p : Nat} {m : Mem} (hB : MB B L m) (hp : p ≤ L) (h1 : m.1 0 13 = nI p) : ∃ m2, fX12_next 0 m = some m2 ∧ Fm0 m m2 ∧ TM B L m2 (pWs B L p) := by
  obtain ⟨p1, p2, p3, p4⟩ := pEn_h (fun j => pBl (B j)) hp
  have p1 : p ≤ pWs B L p := p1
  have p2 : pWs B L p ≤ L := p2
  have p3 : ∀ j, p ≤ j → j < pWs B L p → pBl (B j) = true := p3
  have p4 : pWs B L p = L ∨ pBl (B (pWs B L p)) = false := p4
  have hL := hB.2.1
  unfold fX12_next fX12_next_0
  obtain ⟨e, E, Q⟩ := iter_run (b := fun s => fX12_next_0b 0 s) (fun q => Fm0 m q ∧ ∃ k, p ≤ k ∧ k ≤ pWs B L p ∧ q.1 0 13 = nI k) (fun q => 1000 - (q.1 0 13).toNatClampNeg) (fun e => Fm0 m e ∧ e.1 0 13 = nI (pWs B L p)) (by
    rintro q ⟨qf, k, k1, k2, qk⟩
    have hB' := hB.f qf
    have bA := byteAt_m hB' (k := k) (by omega)
    have stp : ∀ x : Int32, fX12_byteAt 0 (nI k) q = some x → (x = 32 ∨ x = 10) → fX12_next_0b 0 q = some (.inl (uI q 0 13 (nI (k + 1)))) := by
      intro x e1 e2
      simp only [fX12_next_0b, fX12_next_26, km_s, qk, e1, eq_self, gp_tt, bnd_s, lt1_e, nI_1]
      rcases e2 with e2 | e2
      · rw [if_pos e2]
      · rw [if_neg (by rw [e2]; decide), if_pos e2]
    have exi : ∀ x : Int32, fX12_byteAt 0 (nI k) q = some x → ¬ (x = 32 ∨ x = 10) → fX12_next_0b 0 q = some (.inr q) := by
      intro x e1 e2
      simp only [fX12_next_0b, fX12_next_26, km_s, qk, e1, eq_self, gp_tt, bnd_s, lt1_e, nI_1]
      rw [if_neg (fun z => e2 (Or.inl z)), if_neg (fun z => e2 (Or.inr z))]
    rcases Nat.lt_or_ge k L with c | c
    · obtain ⟨y, b2⟩ := hB'.2.2.2 k c
      obtain ⟨y1, y2, y3, y4, y5⟩ := bym (B k) y
      rw [if_neg (by omega)] at bA
      by_cases z : pBl (B k) = true
      · have kl : k < pWs B L p := by
          rcases Nat.lt_or_ge k (pWs B L p) with x | x
          · exact x
          · have ek : k = pWs B L p := Nat.le_antisymm k2 x
            rcases p4 with x | x
            · omega
            · rw [← ek, z] at x; exact absurd x (by decide)
        refine Or.inl ⟨uI q 0 13 (nI (k + 1)), stp _ bA (y3.mp z), ⟨qf.u _ (by decide), k + 1, by omega, by omega, ?_⟩, ?_⟩
        · rw [uI_1, if_pos ⟨rfl, rfl⟩]
        · show 1000 - ((uI q 0 13 (nI (k + 1))).1 0 13).toNatClampNeg < 1000 - (q.1 0 13).toNatClampNeg
          rw [uI_1, if_pos ⟨rfl, rfl⟩, qk, nI_clamp (by omega), nI_clamp (by omega)]
          omega
      · have ek : k = pWs B L p := by
          rcases Nat.lt_or_ge k (pWs B L p) with x | x
          · exact absurd (p3 k k1 x) z
          · exact Nat.le_antisymm k2 x
        exact Or.inr ⟨q, exi _ bA (fun x => z (y3.mpr x)), qf, by rw [← ek]; exact qk⟩
    · have ek : k = pWs B L p := by omega
      rw [if_pos (by omega)] at bA
      exact Or.inr ⟨q, exi _ bA (by decide), qf, by rw [← ek]; exact qk⟩) FU m ⟨Fm0.r m, p, Nat.le_refl _, p1, h1⟩ (by have := FU_ge; omega)
  rw [E, bnd_s]
  obtain ⟨qf, q2⟩ := Q
  generalize hf : pWs B L p = f at *
  unfold fX12_next_39
  rw [gp_pos km_s.1, lt1_e, q2]
  generalize hm8 : uI e 0 15 (nI f) = m8
  have f8 : Fm0 m m8 := by rw [← hm8]; exact qf.u _ (by decide)
  have s1 : m8.1 0 13 = nI f := by rw [← hm8, uI_1, if_neg (by decide)]; exact q2
  have s2 : m8.1 0 15 = nI f := by rw [← hm8, uI_1, if_pos ⟨rfl, rfl⟩]
  have hB8 := hB.f f8
  have bA := byteAt_m hB8 (k := f) p2
  rw [s1, bA, bnd_s]
  -- the token's sort and its end are set last
  have fin : ∀ (m3 : Mem) (v : Nat), Fm0 m m3 → m3.1 0 15 = nI f → m3.1 0 13 = nI (pTe B L f) → v = mT (pKd B L f) → ∃ m2, fX12_next_196 0 (uI m3 0 14 (nI v)) = some m2 ∧ Fm0 m m2 ∧ TM B L m2 f := by
    intro m3 v g1 g2 g3 g4
    have z : (uI m3 0 14 (nI v)).1 0 13 = nI (pTe B L f) := by rw [uI_1, if_neg (by decide)]; exact g3
    refine ⟨uI (uI m3 0 14 (nI v)) 0 16 (nI (pTe B L f)), ?_, (g1.u _ (by decide)).u _ (by decide), ?_, ?_, ?_, ?_⟩
    · simp only [fX12_next_196, km_s, eq_self, gp_tt, lt1_e, z]
    · rw [uI_1, if_neg (by decide), uI_1, if_neg (by decide)]; exact g2
    · rw [uI_1, if_pos ⟨rfl, rfl⟩]
    · rw [uI_1, if_neg (by decide)]; exact z
    · rw [uI_1, if_neg (by decide), uI_1, if_pos ⟨rfl, rfl⟩, g4]
  rcases Nat.lt_or_ge f L with c | c
  · obtain ⟨y, b2⟩ := hB8.2.2.2 f c
    obtain ⟨y1, y2, y3, y4, y5⟩ := bym (B f) y
    rw [if_neg (show ¬ f = L by omega), if_neg y5, y1, bnd_s]
    by_cases h2 : pLt (B f) = true
    · rw [if_pos h2, if_neg (show ¬ (1 : Int32) = 0 by decide)]
      obtain ⟨m3, e1, e2, e3, e4⟩ := name_m hB8 (Nat.le_of_lt c) s1
      unfold fX12_next_77
      rw [e1, bnd_s]
      unfold fX12_next_104
      rw [gp_pos km_s.1, lt1_e]
      have kd : pKd B L f = 1 := by unfold pKd; rw [if_neg (by omega), if_pos h2]
      have te : pTe B L f = pNm B L f := by unfold pTe; rw [if_neg (by omega), if_pos h2]
      exact fin m3 2 ⟨e2.1.trans f8.1, fun a ha => (e2.2.1 a ha).trans (f8.2.1 a ha), fun x hx => (e2.2.2 x hx).trans (f8.2.2 x hx)⟩ (e3.trans s2) (by rw [te]; exact e4) (by rw [kd]; rfl)
    · rw [if_neg h2, if_pos rfl, y2, bnd_s]
      by_cases h3 : pFg (B f) = true
      · rw [if_pos h3, if_neg (show ¬ (1 : Int32) = 0 by decide)]
        obtain ⟨m3, e1, e2, e3, e4⟩ := numb_m hB8 (Nat.le_of_lt c) s1
        unfold fX12_next_119
        rw [e1, bnd_s]
        have te : pTe B L f = pNu B L f := by unfold pTe; rw [if_neg (by omega), if_neg h2, if_pos h3]
        have pn := (pEn_h (fun j => pFg (B j)) p2)
        have pn1 : f ≤ pNu B L f := pn.1
        have pn2 : pNu B L f ≤ L := pn.2.1
        have g1 : Fm0 m m3 := ⟨e2.1.trans f8.1, fun a ha => (e2.2.1 a ha).trans (f8.2.1 a ha), fun x hx => (e2.2.2 x hx).trans (f8.2.2 x hx)⟩
        unfold fX12_next_146 fX12_next_165
        rw [gp_pos km_s.1, e3, e4, s2, pk_sub pn1, gp_pos km_s.1, lt1_e, gp_pos km_s.1, lt1_e]
        by_cases h4 : pNu B L f - f ≤ 3
        · have kd : pKd B L f = 2 := by unfold pKd; rw [if_neg (by omega), if_neg h2, if_pos h3, if_pos h4]
          rw [if_pos (show nI (pNu B L f - f) ≤ (3 : Int32) from nI_le (b := 3) h4 (by decide))]
          exact fin m3 3 g1 (e3.trans s2) (by rw [te]; exact e4) (by rw [kd]; rfl)
        · have kd : pKd B L f = 4 := by unfold pKd; rw [if_neg (by omega), if_neg h2, if_pos h3, if_neg h4]
          rw [if_neg (show ¬ nI (pNu B L f - f) ≤ (3 : Int32) from nI_ge (a := 3) (by omega) (by omega))]
          exact fin m3 0 g1 (e3.trans s2) (by rw [te]; exact e4) (by rw [kd]; rfl)
      · rw [if_neg h3, if_pos rfl, lt1_e]
        have te : pTe B L f = f + 1 := by unfold pTe; rw [if_neg (by omega), if_neg h2, if_neg h3]
        have z1 : (uI m8 0 13 (nI f + 1)).1 0 13 = nI (pTe B L f) := by rw [uI_1, if_pos ⟨rfl, rfl⟩, te, nI_1]
        have z2 : (uI m8 0 13 (nI f + 1)).1 0 15 = nI f := by rw [uI_1, if_neg (by decide)]; exact s2
        unfold fX12_next_193
        rw [gp_pos km_s.1, lt1_e, gp_pos km_s.1, lt1_e]
        by_cases h4 : B f = 59
        · have kd : pKd B L f = 3 := by unfold pKd; rw [if_neg (by omega), if_neg h2, if_neg h3, if_pos h4]
          rw [if_pos (y4.mpr h4)]
          exact fin _ 4 (f8.u _ (by decide)) z2 z1 (by rw [kd]; rfl)
        · have kd : pKd B L f = 4 := by unfold pKd; rw [if_neg (by omega), if_neg h2, if_neg h3, if_neg h4]
          rw [if_neg (fun q => h4 (y4.mp q))]
          exact fin _ 0 (f8.u _ (by decide)) z2 z1 (by rw [kd]; rfl)
  · have kd : pKd B L f = 0 := by unfold pKd; rw [if_pos c]
    have te : pTe B L f = f := by unfold pTe; rw [if_pos c]
    rw [if_pos (show f = L by omega), if_pos rfl, lt1_e]
    exact fin m8 1 f8 s2 (by rw [te]; exact s1) (by rw [kd]; rfl)
/-! names -/
def byN (i j : Nat) : Nat := ((bytS.getD i []).getD j 0).toNatClampNeg
def lnN (i : Nat) : Nat := lenS.getD i 0
theorem byN_f : ∀ i, i < 24 → lnN i ≤ 8 ∧ 1 ≤ lnN i ∧ ∀ j, j < lnN i → 97 ≤ byN i j ∧ byN i j ≤ 122 ∧ (bytS.getD i []).getD j 0 = nI (byN i j) := by decide +kernel
def pWn (B : Nat → Nat) (L i f : Nat) : Prop := pKd B L f = 1 ∧ pTe B L f - f = lnN i ∧ ∀ j, j < lnN i → B (f + j) = byN i j
theorem isName_c {B : Nat → Nat} {L f i : Nat} {m : Mem} (hB : CB B L m) (hf : f ≤ L) (hT : TC B L m f) (hi : i < 24) : (pWn B L i f ∧ fX8_isName 5 i m = some 1) ∨ (¬ pWn B L i f ∧ fX8_isName 5 i m = some 0) := by
  obtain ⟨t2, t1, t3, t4⟩ := hT
  obtain ⟨⟨c1, c2, c3⟩, hL, c5, c6⟩ := hB
  obtain ⟨l8, l1, lj⟩ := byN_f i hi
  obtain ⟨u1, u2, u3⟩ := pTe_le (B := B) hf
  unfold fX8_isName
  rw [gp_pos kc_s.2.2.2.2.2.1, t3, t1, t2, pk_sub u1]
  by_cases h1 : pKd B L f = 1
  · rw [if_pos (by rw [h1]; rfl), gp_pos hi]
    by_cases h2 : pTe B L f - f = lnN i
    · rw [if_pos (by rw [h2]; rfl), lt1_e]
      unfold fX8_isName_28
      have lets := (pKd_1 h1).2.2
      obtain ⟨e, E, Q⟩ := iter_run (b := fun s => fX8_isName_28b 5 i s m) (fun q => ∃ k, k ≤ lnN i ∧ q = nI k ∧ ∀ j, j < k → B (f + j) = byN i j) (fun q => 20 - q.toNatClampNeg) (fun e => (e = .inl () ∧ ¬ pWn B L i f) ∨ (e = .inr () ∧ pWn B L i f)) (by
        rintro q ⟨k, hk, rfl, hall⟩
        rcases Nat.lt_or_ge k (lnN i) with c | c
        · obtain ⟨g1, g2, g3⟩ := lj k c
          have lt := lets (f + k) (by omega) (by omega)
          obtain ⟨b1, b2⟩ := c6 (f + k) (by omega)
          have y6 := (byc (B (f + k)) b1).2.2.2.2.2 lt
          rw [y6] at b2
          have kl : ¬ Int32.ofNat (lenS.getD i 0) ≤ nI k := nI_ge c (by show lnN i < 2 ^ 31; omega)
          have inb' : inb (nI k) (lenS.getD i 0) = true := inb_nI c (by show lnN i < 2 ^ 31; omega)
          by_cases z : B (f + k) = byN i k
          · refine Or.inl ⟨nI (k + 1), ?_, ⟨k + 1, by omega, rfl, fun j hj => ?_⟩, ?_⟩
            · simp only [fX8_isName_28b, gp_pos hi, if_neg kl, kc_s, c1, c2, t2, eq_self, gp_tt, bnd_s, nI_add, inb_nI (show f + k < 600 by omega) (by decide), inb', nI_clamp (show f + k < 2 ^ 31 by omega), nI_clamp (show k < 2 ^ 31 by omega), b2, g3, if_pos (congrArg nI z), lt1_e, nI_1]
            · rcases Nat.lt_or_ge j k with c' | c'
              · exact hall j c'
              · have : j = k := by omega
                subst this; exact z
            · rw [nI_clamp (by omega), nI_clamp (by omega)]
              omega
          · refine Or.inr ⟨.inl (), ?_, Or.inl ⟨rfl, fun w => z (w.2.2 k c)⟩⟩
            simp only [fX8_isName_28b, gp_pos hi, if_neg kl, kc_s, c1, c2, t2, eq_self, gp_tt, bnd_s, nI_add, inb_nI (show f + k < 600 by omega) (by decide), inb', nI_clamp (show f + k < 2 ^ 31 by omega), nI_clamp (show k < 2 ^ 31 by omega), b2, g3, if_neg (fun w => z (nI_inj1 (by omega) (by omega) w))]
        · have ek : k = lnN i := by omega
          subst ek
          refine Or.inr ⟨.inr (), ?_, Or.inr ⟨rfl, h1, h2, hall⟩⟩
          simp only [fX8_isName_28b, gp_pos hi, if_pos (show Int32.ofNat (lenS.getD i 0) ≤ nI (lnN i) from nI_le (Nat.le_refl _) (by omega))]) FU (0 : Int32) ⟨0, Nat.zero_le _, rfl, fun j hj => by omega⟩ (by have := FU_ge; omega)
      rw [E, bnd_s]
      rcases Q with ⟨rfl, q⟩ | ⟨rfl, q⟩
      · exact Or.inr ⟨q, rfl⟩
      · exact Or.inl ⟨q, rfl⟩
    · rw [if_neg (show ¬ nI (pTe B L f - f) = Int32.ofNat (lenS.getD i 0) from fun q => h2 (nI_inj1 (a := pTe B L f - f) (b := lenS.getD i 0) (by omega) (by show lnN i < 2 ^ 31; omega) q))]
      exact Or.inr ⟨fun w => h2 w.2.1, rfl⟩
  · rw [if_neg]
    · exact Or.inr ⟨fun w => h1 w.1, rfl⟩
    · intro q
      have kb : pKd B L f ≤ 4 := by
        unfold pKd
        split
        · omega
        · split
          · omega
          · split
            · split <;> omega
            · split <;> omega
      exact h1 (nI_inj1 (a := pKd B L f) (b := 1) (by omega) (by decide) q)
/-- the number that a word's bytes make -/
def wvF (g : Nat → Nat) : Nat → Nat
  | 0 => 0
  | n + 1 => wvF g n * 256 + g n
theorem wvF_s (g : Nat → Nat) (n : Nat) : wvF g (n + 1) = wvF g n * 256 + g n := rfl
theorem wvF_lt (g : Nat → Nat) : ∀ n, (∀ j, j < n → g j < 256) → wvF g n < 256 ^ n := by
  intro n
  induction n with
  | zero => intro _; exact (by decide : 0 < 256 ^ 0)
  | succ n ih =>
    intro h
    have := ih (fun j hj => h j (by omega))
    have := h n (by omega)
    rw [wvF_s, Nat.pow_succ]
    omega
theorem wvF_inj : ∀ n m (g h : Nat → Nat), (∀ j, j < n → 1 ≤ g j ∧ g j < 256) → (∀ j, j < m → 1 ≤ h j ∧ h j < 256) → wvF g n = wvF h m → n = m ∧ ∀ j, j < n → g j = h j := by
  intro n
  induction n with
  | zero =>
    intro m g h _ hh e
    cases m with
    | zero => exact ⟨rfl, fun j hj => by omega⟩
    | succ m =>
      have := (hh m (by omega)).1
      rw [wvF_s] at e
      have e : 0 = wvF h m * 256 + h m := e
      omega
  | succ n ih =>
    intro m g h hg hh e
    cases m with
    | zero =>
      have := (hg n (by omega)).1
      rw [wvF_s] at e
      have e : wvF g n * 256 + g n = 0 := e
      omega
    | succ m =>
      rw [wvF_s, wvF_s] at e
      have g1 := hg n (by omega)
      have h1 := hh m (by omega)
      have e1 : g n = h m := by omega
      have e2 : wvF g n = wvF h m := by omega
      obtain ⟨r1, r2⟩ := ih m g h (fun j hj => hg j (by omega)) (fun j hj => hh j (by omega)) e2
      subst r1
      refine ⟨rfl, fun j hj => ?_⟩
      rcases Nat.lt_or_ge j n with c | c
      · exact r2 j c
      · have : j = n := by omega
        subst this; exact e1
theorem wvF_c {g h : Nat → Nat} : ∀ n, (∀ j, j < n → g j = h j) → wvF g n = wvF h n := by
  intro n
  induction n with
  | zero => intro _; rfl
  | succ n ih => intro q; rw [wvF_s, wvF_s, ih (fun j hj => q j (by omega)), q n (by omega)]
noncomputable def pWd (B : Nat → Nat) (L f : Nat) : Nat := if pKd B L f = 1 ∧ pTe B L f - f < 9 then wvF (fun j => B (f + j)) (pTe B L f - f) else 0
theorem lN_b64 (n : Nat) : (lN n).toBitVec = BitVec.ofNat 64 n := rfl
theorem sh8 {v b : Nat} (hv : v < 2 ^ 56) (hb : b < 256) : (lN v <<< ((8 : Int32).toInt64 &&& 63)) ||| lN b = lN (v * 256 + b) := by
  apply Int64.toBitVec_inj.mp
  rw [Int64.toBitVec_or, Int64.toBitVec_shiftLeft]
  have e : ((((8 : Int32).toInt64 &&& 63).toBitVec).smod 64).toNat = 8 := by decide
  rw [BitVec.shiftLeft_eq', e, lN_b64, lN_b64, lN_b64]
  apply BitVec.eq_of_toNat_eq
  rw [BitVec.toNat_or, BitVec.toNat_shiftLeft, BitVec.toNat_ofNat, BitVec.toNat_ofNat, BitVec.toNat_ofNat, Nat.mod_eq_of_lt (show v < 2 ^ 64 by omega), Nat.mod_eq_of_lt (show b < 2 ^ 64 by omega), Nat.mod_eq_of_lt (show v * 256 + b < 2 ^ 64 by omega), Nat.shiftLeft_eq, Nat.mod_eq_of_lt (show v * 2 ^ 8 < 2 ^ 64 by omega), ← Nat.shiftLeft_eq, ← Nat.shiftLeft_add_eq_or_of_lt (show b < 2 ^ 8 by omega), Nat.shiftLeft_eq]
theorem word_m {B : Nat → Nat} {L f : Nat} {m : Mem} (hB : MB B L m) (hf : f ≤ L) (hT : TM B L m f) (h0 : m.1 0 17 = 0) : fX12_word 0 m = some (lN (pWd B L f)) := by
  obtain ⟨t15, t16, t13, t14⟩ := hT
  obtain ⟨u1, u2, u3⟩ := pTe_le (B := B) hf
  have hL := hB.2.1
  unfold fX12_word fX12_word_7
  rw [lt1_e, gp_pos km_s.1, lt1_e, t15]
  have fin : ∀ e, fX12_word_56 0 e m = some e := fun e => by simp only [fX12_word_56, km_s, eq_self, gp_tt, h0, if_true]
  have kb : pKd B L f ≤ 4 := by
    unfold pKd
    split
    · omega
    · split
      · omega
      · split
        · split <;> omega
        · split <;> omega
  have tk : nI (mT (pKd B L f)) = 2 ↔ pKd B L f = 1 := by
    have : ∀ k, k ≤ 4 → (nI (mT k) = 2 ↔ k = 1) := by decide
    exact this _ kb
  by_cases h1 : pKd B L f = 1 ∧ pTe B L f - f < 9
  · have tr : iter (fun s => fX12_word_7b 0 s.1 s.2 m) FU ((0 : Int64), nI f) = some (lN (wvF (fun j => B (f + j)) (pTe B L f - f))) := by
      refine iter_traj (fun k => (lN (wvF (fun j => B (f + j)) k), nI (f + k))) (pTe B L f - f) _ (by omega) (fun k hk => ?_) ?_
      · obtain ⟨b1, b2⟩ := hB.2.2.2 (f + k) (by omega)
        have lt : wvF (fun j => B (f + j)) k < 256 ^ k := wvF_lt _ k (fun j hj => (hB.2.2.2 (f + j) (by omega)).1)
        have lt2 : (256 : Nat) ^ k ≤ 256 ^ 7 := Nat.pow_le_pow_right (by decide) (by omega)
        have lt3 : (256 : Nat) ^ 7 = 2 ^ 56 := by decide
        simp only [fX12_word_7b, km_s, rm_s hB.1, eq_self, gp_tt, t16, t15, t14, if_neg (nI_ge (show f + k < pTe B L f by omega) (by omega)), if_pos (tk.mpr h1.1), pk_sub u1, if_neg (show ¬ (9 : Int32) ≤ nI (pTe B L f - f) from nI_ge (b := 9) h1.2 (by decide)), bnd_s, inb_nI (show f + k < 600 by omega) (by decide), nI_clamp (show f + k < 2 ^ 31 by omega), b2, nI_l (show B (f + k) < 2 ^ 31 by omega), lt1_e, sh8 (show wvF (fun j => B (f + j)) k < 2 ^ 56 by omega) b1, nI_1]
        rfl
      · simp only [fX12_word_7b, km_s, eq_self, gp_tt, t16, if_pos (nI_le (show pTe B L f ≤ f + (pTe B L f - f) by omega) (by omega))]
    rw [tr, bnd_s, fin]
    unfold pWd
    rw [if_pos h1]
  · have st : fX12_word_7b 0 0 (nI f) m = some (.inr 0) := by
      simp only [fX12_word_7b, km_s, eq_self, gp_tt, t16, t15, t14, pk_sub u1]
      by_cases c : pTe B L f ≤ f
      · rw [if_pos (nI_le c (by omega))]
      · rw [if_neg (nI_ge (by omega) (by omega))]
        by_cases c2 : pKd B L f = 1
        · rw [if_pos (tk.mpr c2), if_pos (show (9 : Int32) ≤ nI (pTe B L f - f) from nI_le (a := 9) (by omega) (by omega))]
        · rw [if_neg (fun q => c2 (tk.mp q))]
    have tr : iter (fun s => fX12_word_7b 0 s.1 s.2 m) FU ((0 : Int64), nI f) = some 0 := iter_traj (fun _ => ((0 : Int64), nI f)) 0 _ (by decide) (fun k hk => by omega) st
    rw [tr, bnd_s, fin]
    unfold pWd
    rw [if_neg h1]
    rfl
theorem word_f {m : Mem} (hB : RMok m) (h15 : ∃ k, k ≤ 600 ∧ m.1 0 15 = nI k) (h16 : ∃ k, k ≤ 600 ∧ m.1 0 16 = nI k) (h0 : ¬ m.1 0 17 = 0) : fX12_word 0 m = some 0 := by
  obtain ⟨a, ha, e15⟩ := h15
  obtain ⟨b, hb, e16⟩ := h16
  unfold fX12_word fX12_word_7
  rw [lt1_e, gp_pos km_s.1, lt1_e, e15]
  obtain ⟨e, E, -⟩ := iter_run (b := fun s => fX12_word_7b 0 s.1 s.2 m) (fun q => ∃ k, k ≤ 600 ∧ q.2 = nI k) (fun q => 1000 - q.2.toNatClampNeg) (fun _ => True) (by
    rintro ⟨x, y⟩ ⟨k, hk, q⟩
    simp only at q
    subst q
    rcases Nat.lt_or_ge k b with c | c
    · by_cases c2 : m.1 0 14 = 2
      · by_cases c3 : (9 : Int32) ≤ m.1 0 16 - m.1 0 15
        · refine Or.inr ⟨x, ?_, trivial⟩
          simp only [fX12_word_7b, km_s, eq_self, gp_tt, if_pos c3, if_pos c2]
          rw [e16, if_neg (nI_ge c (by omega))]
        · refine Or.inl ⟨((x <<< ((8 : Int32).toInt64 &&& 63)) ||| ((m.1 7 k).toInt64), nI (k + 1)), ?_, ⟨k + 1, by omega, rfl⟩, ?_⟩
          · simp only [fX12_word_7b, km_s, rm_s hB, eq_self, gp_tt, if_neg c3, if_pos c2, bnd_s, inb_nI (show k < 600 by omega) (by decide), nI_clamp (show k < 2 ^ 31 by omega), lt1_e, nI_1]
            rw [e16, if_neg (nI_ge c (by omega))]
          · show 1000 - (nI (k + 1)).toNatClampNeg < 1000 - (nI k).toNatClampNeg
            rw [nI_clamp (by omega), nI_clamp (by omega)]
            omega
      · refine Or.inr ⟨x, ?_, trivial⟩
        simp only [fX12_word_7b, km_s, eq_self, gp_tt, if_neg c2]
        rw [e16, if_neg (nI_ge c (by omega))]
    · refine Or.inr ⟨x, ?_, trivial⟩
      simp only [fX12_word_7b, km_s, eq_self, gp_tt, e16, if_pos (nI_le c (by omega))]) FU ((0 : Int64), nI a) ⟨a, ha, rfl⟩ (by have := FU_ge; omega)
  rw [E, bnd_s]
  simp only [fX12_word_56, km_s, eq_self, gp_tt, if_neg h0]
/-- a word's number -/
def cW (i : Nat) : Nat := wvF (byN i) (lnN i)
theorem cW_v : ∀ i, i < 24 → 0 < cW i ∧ cW i < 2 ^ 63 := by decide +kernel
theorem pWd_i {B : Nat → Nat} {L f i : Nat} (hB : ∀ j, j < L → B j < 256) (hf : f ≤ L) (hi : i < 24) : (lN (pWd B L f) = lN (cW i)) ↔ pWn B L i f := by
  obtain ⟨l8, l1, lj⟩ := byN_f i hi
  obtain ⟨c1, c2⟩ := cW_v i hi
  obtain ⟨u1, u2, u3⟩ := pTe_le (B := B) hf
  have wb : pWd B L f < 2 ^ 63 := by
    unfold pWd
    split
    · rename_i h
      have lets := (pKd_1 h.1).2.2
      -- the first letter is below 128
      obtain ⟨n, hn⟩ : ∃ n, pTe B L f - f = n := ⟨_, rfl⟩
      rw [hn]
      have key : ∀ n, n ≤ pTe B L f - f → wvF (fun j => B (f + j)) n < 123 * 256 ^ (n - 1) ∨ n = 0 := by
        intro n
        induction n with
        | zero => intro _; exact Or.inr rfl
        | succ n ih =>
          intro hn
          refine Or.inl ?_
          have bn := pLt_n (lets (f + n) (by omega) (by omega))
          rw [wvF_s, Nat.add_sub_cancel]
          rcases Nat.eq_zero_or_pos n with q | q
          · subst q
            show 0 * 256 + B (f + 0) < 123 * 256 ^ 0
            omega
          · rcases ih (by omega) with z | z
            · obtain ⟨t, rfl⟩ : ∃ t, n = t + 1 := ⟨n - 1, by omega⟩
              rw [Nat.add_sub_cancel] at z
              rw [Nat.pow_succ]
              omega
            · omega
      rcases key n (by omega) with z | z
      · have q : (256 : Nat) ^ (n - 1) ≤ 256 ^ 7 := Nat.pow_le_pow_right (by decide) (by omega)
        have q2 : 123 * (256 : Nat) ^ 7 < 2 ^ 63 := by decide
        omega
      · rw [z]; exact (by decide : 0 < 2 ^ 63)
    · decide
  rw [pk_lEQ wb c2]
  unfold pWd
  constructor
  · intro e
    by_cases h : pKd B L f = 1 ∧ pTe B L f - f < 9
    · rw [if_pos h] at e
      have lets := (pKd_1 h.1).2.2
      obtain ⟨r1, r2⟩ := wvF_inj _ _ (fun j => B (f + j)) (byN i) (fun j hj => by
        have := pLt_n (lets (f + j) (by omega) (by omega))
        exact ⟨by show 1 ≤ B (f + j); omega, by show B (f + j) < 256; omega⟩) (fun j hj => by
        have := lj j hj
        omega) e
      exact ⟨h.1, r1, fun j hj => r2 j (by omega)⟩
    · rw [if_neg h] at e
      omega
  · rintro ⟨w1, w2, w3⟩
    rw [if_pos ⟨w1, by omega⟩, w2]
    exact wvF_c _ w3
