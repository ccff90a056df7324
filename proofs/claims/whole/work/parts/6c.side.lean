/-! class and reference read one text side by side -/
section
variable {mc0 mm0 : Mem} {s : Nat} {B : Nat → Nat} {L : Nat}
/-- both have read as far; a fault, once told, stands -/
def RR (mc0 mm0 : Mem) (s : Nat) (B : Nat → Nat) (L f : Nat) (mc mm : Mem) : Prop :=
  (mc.2 = mc0.2 ∧ mm.2 = mm0.2) ∧ (∀ a, a ≠ 4 → a ≠ 5 → ¬ (s ≤ a ∧ a ≤ s + 14) → mc.1 a = mc0.1 a) ∧ (∀ a, a ≠ 0 → a ≠ 5 → mm.1 a = mm0.1 a) ∧ (∀ x, (x < 13 ∨ 18 < x) → mm.1 0 x = mm0.1 0 x) ∧ f ≤ L ∧ TC B L mc f ∧ ∃ g, g ≤ L ∧ TM B L mm g ∧ ((mc.1 4 1 = 0 ∧ mm.1 0 17 = 0 ∧ g = f) ∨ (∃ k p, 1 ≤ k ∧ k ≤ 3 ∧ mc.1 4 1 = nI k ∧ mm.1 0 17 = nI k ∧ mc.1 4 2 = nI p ∧ mm.1 0 18 = nI p))
/-- what stands still while they read -/
def BA (mc0 mm0 : Mem) (s : Nat) (B : Nat → Nat) (L : Nat) : Prop := CB B L mc0 ∧ MB B L mm0 ∧ (s = 15 ∨ s = 30) ∧ WI s ∧ ∃ w d, RCok mc0 w s d
theorem RR.cb {f : Nat} {mc mm : Mem} (hA : BA mc0 mm0 s B L) (h : RR mc0 mm0 s B L f mc mm) : CB B L mc := by
  obtain ⟨⟨⟨a1, a2, a3⟩, a4, a5, a6⟩, -, hs, -⟩ := hA
  obtain ⟨⟨h1, -⟩, h2, -⟩ := h
  exact ⟨⟨by rw [h1]; exact a1, by rw [h1]; exact a2, by rw [h1]; exact a3⟩, a4, by rw [h2 2 (by decide) (by decide) (by omega)]; exact a5, fun j hj => by rw [h2 3 (by decide) (by decide) (by omega)]; exact a6 j hj⟩
theorem RR.mb {f : Nat} {mc mm : Mem} (hA : BA mc0 mm0 s B L) (h : RR mc0 mm0 s B L f mc mm) : MB B L mm := by
  obtain ⟨-, ⟨a1, a2, a3, a4⟩, -⟩ := hA
  obtain ⟨⟨-, h1⟩, -, h2, h3, -⟩ := h
  exact ⟨fun k hk => by rw [h1]; exact a1 k hk, a2, by rw [h3 12 (by decide)]; exact a3, fun j hj => by rw [h2 7 (by decide) (by decide)]; exact a4 j hj⟩
theorem RR.rc {f : Nat} {mc mm : Mem} (hA : BA mc0 mm0 s B L) (h : RR mc0 mm0 s B L f mc mm) : ∃ w d, RCok mc w s d := by
  obtain ⟨-, -, -, -, w, d, hc⟩ := hA
  exact ⟨w, d, fun a ha x hx => by rw [h.1.1]; exact hc a ha x hx⟩
theorem RR.good {f : Nat} {mc mm : Mem} (h : RR mc0 mm0 s B L f mc mm) (g : mm.1 0 17 = 0) : mc.1 4 1 = 0 ∧ TM B L mm f := by
  obtain ⟨-, -, -, -, -, -, x, x1, x2, x3⟩ := h
  rcases x3 with ⟨y1, y2, y3⟩ | ⟨k, p, k1, k2, y1, y2, y3, y4⟩
  · exact ⟨y1, by rw [← y3]; exact x2⟩
  · rw [y2] at g
    exact absurd g (nI_ne0 (by omega) (by omega))
theorem RR.bad {f : Nat} {mc mm : Mem} (h : RR mc0 mm0 s B L f mc mm) (g : ¬ mm.1 0 17 = 0) : ∃ k p, 1 ≤ k ∧ k ≤ 3 ∧ mc.1 4 1 = nI k ∧ mm.1 0 17 = nI k ∧ mc.1 4 2 = nI p ∧ mm.1 0 18 = nI p := by
  obtain ⟨-, -, -, -, -, -, x, x1, x2, x3⟩ := h
  rcases x3 with ⟨y1, y2, y3⟩ | y
  · exact absurd y2 g
  · exact y
theorem RR.badc {f : Nat} {mc mm : Mem} (h : RR mc0 mm0 s B L f mc mm) (g : ¬ mm.1 0 17 = 0) : ¬ mc.1 4 1 = 0 := by
  obtain ⟨k, p, k1, k2, y1, -⟩ := h.bad g
  rw [y1]
  exact nI_ne0 (by omega) (by omega)
def UW (m m2 : Mem) : Prop := ∀ a, a ≠ 4 → a ≠ 5 → m2.1 a = m.1 a
theorem UW.t {a b c : Mem} (h : UW a b) (h2 : UW b c) : UW a c := fun x h4 h5 => (h2 x h4 h5).trans (h x h4 h5)
def FO (m m2 : Mem) : Prop := m2.2 = m.2 ∧ ∀ a, a ≠ 5 → m2.1 a = m.1 a
/-- the world's block changed: all of this stays -/
theorem RR.w {f : Nat} {mc mc2 mm : Mem} (hA : BA mc0 mm0 s B L) (h : RR mc0 mm0 s B L f mc mm) (h1 : mc2.2 = mc.2) (h2 : ∀ a, ¬ (s ≤ a ∧ a ≤ s + 14) → mc2.1 a = mc.1 a) : RR mc0 mm0 s B L f mc2 mm := by
  obtain ⟨-, -, hs, -⟩ := hA
  obtain ⟨⟨a1, a1'⟩, a2, a3, a4, a5, a6, a7⟩ := h
  have e5 : mc2.1 5 = mc.1 5 := h2 5 (by omega)
  have e4 : mc2.1 4 = mc.1 4 := h2 4 (by omega)
  refine ⟨⟨h1.trans a1, a1'⟩, fun a h4 h5 hb => (h2 a hb).trans (a2 a h4 h5 hb), a3, a4, a5, ?_, ?_⟩
  · unfold TC at a6 ⊢
    rw [e5]; exact a6
  · rw [e4]; exact a7
theorem RR.m {f : Nat} {mc mm mm2 : Mem} (h : RR mc0 mm0 s B L f mc mm) (h1 : FO mm mm2) : RR mc0 mm0 s B L f mc mm2 := by
  obtain ⟨⟨a1, a1'⟩, a2, a3, a4, a5, a6, a7⟩ := h
  have e0 : mm2.1 0 = mm.1 0 := h1.2 0 (by decide)
  refine ⟨⟨a1, h1.1.trans a1'⟩, a2, fun a h0 h5 => (h1.2 a h5).trans (a3 a h0 h5), fun x hx => by rw [e0]; exact a4 x hx, a5, a6, ?_⟩
  unfold TM at a7 ⊢
  rw [e0]; exact a7
theorem fail_e (k : Int32) (m : Mem) (h : m.2.2 4 0 = some 5) : fX5_fail 4 k m = some (if m.1 4 1 = 0 then uI (uI m 4 1 k) 4 2 (m.1 5 2) else m) := by
  have u : (uI m 4 1 k).2.2 4 0 = some 5 := h
  have u2 : (uI m 4 1 k).1 5 2 = m.1 5 2 := by rw [uI_o (by decide)]
  simp only [fX5_fail, kc_s, eq_self, gp_tt, lt1_e, u, bnd_s, u2]
  split <;> rfl
theorem bad_e (k : Int32) (m : Mem) : fX12_bad 0 k m = some (if m.1 0 17 = 0 then uI (uI m 0 17 k) 0 18 (m.1 0 15) else m) := by
  have u2 : (uI m 0 17 k).1 0 15 = m.1 0 15 := by rw [uI_1, if_neg (by decide)]
  simp only [fX12_bad, km_s, eq_self, gp_tt, lt1_e, u2]
  split <;> rfl
theorem RR.fail {f k : Nat} {mc mm : Mem} (hA : BA mc0 mm0 s B L) (h : RR mc0 mm0 s B L f mc mm) (k1 : 1 ≤ k) (k3 : k ≤ 3) : ∃ mc2 mm2, fX5_fail 4 (nI k) mc = some mc2 ∧ fX12_bad 0 (nI k) mm = some mm2 ∧ RR mc0 mm0 s B L f mc2 mm2 ∧ ¬ mm2.1 0 17 = 0 ∧ UW mc mc2 ∧ mm2.1 5 = mm.1 5 ∧ (¬ mm.1 0 17 = 0 → mm2 = mm ∧ mc2 = mc) := by
  have hs := hA.2.2.1
  have c3 := (h.cb hA).1.2.2
  rw [fail_e _ _ c3, bad_e]
  by_cases g : mm.1 0 17 = 0
  · obtain ⟨g1, g2⟩ := h.good g
    rw [if_pos g, if_pos g1]
    obtain ⟨⟨a1, a1'⟩, a2, a3, a4, a5, a6, a7⟩ := h
    refine ⟨_, _, rfl, rfl, ⟨⟨a1, a1'⟩, fun a h4 h5 hb => ?_, fun a h0 h5 => ?_, fun x hx => ?_, a5, ?_, f, a5, ?_, Or.inr ⟨k, f, k1, k3, ?_, ?_, ?_, ?_⟩⟩, ?_, fun a h4 h5 => ?_, ?_, fun q => absurd g q⟩
    · rw [uI_o h4, uI_o h4]; exact a2 a h4 h5 hb
    · rw [uI_o h0, uI_o h0]; exact a3 a h0 h5
    · rw [uI_1, if_neg (by omega), uI_1, if_neg (by omega)]; exact a4 x hx
    · unfold TC at a6 ⊢
      rw [uI_o (by decide), uI_o (by decide)]; exact a6
    · unfold TM at g2 ⊢
      rw [uI_1, if_neg (by decide), uI_1, if_neg (by decide), uI_1, if_neg (by decide), uI_1, if_neg (by decide), uI_1, if_neg (by decide), uI_1, if_neg (by decide), uI_1, if_neg (by decide), uI_1, if_neg (by decide)]; exact g2
    · rw [uI_1, if_neg (by decide), uI_1, if_pos ⟨rfl, rfl⟩]
    · rw [uI_1, if_neg (by decide), uI_1, if_pos ⟨rfl, rfl⟩]
    · rw [uI_1, if_pos ⟨rfl, rfl⟩]; exact a6.1
    · rw [uI_1, if_pos ⟨rfl, rfl⟩]; exact g2.1
    · rw [uI_1, if_neg (by decide), uI_1, if_pos ⟨rfl, rfl⟩]
      exact nI_ne0 (by omega) (by omega)
    · rw [uI_o h4, uI_o h4]
    · rw [uI_o (by decide), uI_o (by decide)]
  · rw [if_neg g, if_neg (h.badc g)]
    exact ⟨_, _, rfl, rfl, h, g, fun _ _ _ => rfl, rfl, fun _ => ⟨rfl, rfl⟩⟩
theorem RR.adv {f : Nat} {mc mm : Mem} (hA : BA mc0 mm0 s B L) (h : RR mc0 mm0 s B L f mc mm) (g : mm.1 0 17 = 0) : ∃ mc2 mm2, fX8_advance 5 mc = some mc2 ∧ fX12_next 0 mm = some mm2 ∧ RR mc0 mm0 s B L (pNx B L f) mc2 mm2 ∧ mm2.1 0 17 = 0 ∧ UW mc mc2 ∧ mm2.1 5 = mm.1 5 := by
  have hs := hA.2.2.1
  obtain ⟨g1, g2⟩ := h.good g
  have cb := h.cb hA
  have mb := h.mb hA
  obtain ⟨⟨a1, a1'⟩, a2, a3, a4, a5, a6, a7⟩ := h
  obtain ⟨t1, t2, t3⟩ := pTe_le (B := B) a5
  obtain ⟨mc2, e1, e2, e3⟩ := adv_c cb t2 a6.2.1
  obtain ⟨mm2, e4, e5, e6⟩ := next_m mb t2 g2.2.2.1
  refine ⟨mc2, mm2, e1, e4, ⟨⟨e2.1.trans a1, e5.1.trans a1'⟩, fun a h4 h5 hb => (e2.2 a h5).trans (a2 a h4 h5 hb), fun a h0 h5 => (e5.2.1 a h0).trans (a3 a h0 h5), fun x hx => (e5.2.2 x (by omega)).trans (a4 x hx), (pNx_le a5).2.1, e3, pNx B L f, (pNx_le a5).2.1, e6, Or.inl ⟨?_, ?_, rfl⟩⟩, ?_, fun a h4 h5 => e2.2 a h5, e5.2.1 5 (by decide)⟩
  · rw [e2.2 4 (by decide)]; exact g1
  · rw [e5.2.2 17 (by decide)]; exact g
  · rw [e5.2.2 17 (by decide)]; exact g
theorem RR.advf {f : Nat} {mc mm : Mem} (hA : BA mc0 mm0 s B L) (h : RR mc0 mm0 s B L f mc mm) (g : ¬ mm.1 0 17 = 0) : ∃ mc2, fX8_advance 5 mc = some mc2 ∧ RR mc0 mm0 s B L (pNx B L f) mc2 mm ∧ UW mc mc2 := by
  have hs := hA.2.2.1
  have cb := h.cb hA
  have hbad := h.bad g
  obtain ⟨⟨a1, a1'⟩, a2, a3, a4, a5, a6, x, x1, x2, x3⟩ := h
  obtain ⟨t1, t2, t3⟩ := pTe_le (B := B) a5
  obtain ⟨mc2, e1, e2, e3⟩ := adv_c cb t2 a6.2.1
  obtain ⟨k, p, k1, k2, y1, y2, y3, y4⟩ := hbad
  have e4 : mc2.1 4 = mc.1 4 := e2.2 4 (by decide)
  refine ⟨mc2, e1, ⟨⟨e2.1.trans a1, a1'⟩, fun a h4 h5 hb => (e2.2 a h5).trans (a2 a h4 h5 hb), a3, a4, (pNx_le a5).2.1, e3, x, x1, x2, Or.inr ⟨k, p, k1, k2, by rw [e4]; exact y1, y2, by rw [e4]; exact y3, y4⟩⟩, fun a h4 h5 => e2.2 a h5⟩
theorem kd4 (B : Nat → Nat) (L f : Nat) : pKd B L f ≤ 4 := by
  unfold pKd
  split
  · omega
  · split
    · omega
    · split
      · split <;> omega
      · split <;> omega
theorem kdC {B : Nat → Nat} {L f k : Nat} (hk : k ≤ 4) : nI (pKd B L f) = nI k ↔ pKd B L f = k := by
  have := kd4 B L f
  exact ⟨fun q => nI_inj1 (by omega) (by omega) q, fun q => by rw [q]⟩
theorem mT_i : ∀ k, k ≤ 4 → (nI (mT k) = (3 : Int32) ↔ k = 2) ∧ (nI (mT k) = (4 : Int32) ↔ k = 3) ∧ (nI (mT k) = (1 : Int32) ↔ k = 0) := by decide
theorem vl3 {B : Nat → Nat} {f : Nat} : ∀ n, n ≤ 3 → (∀ j, j < n → pFg (B (f + j)) = true) → pVl B f n < 10 ^ n := by
  intro n
  induction n with
  | zero => intro _ _; exact (by decide : 0 < 10 ^ 0)
  | succ n ih =>
    intro hn h
    have := ih (by omega) (fun j hj => h j (by omega))
    have := pFg_n (h n (by omega))
    show pVl B f n * 10 + (B (f + n) - 48) < 10 ^ (n + 1)
    rw [Nat.pow_succ]
    omega
/-- the reference's number -/
theorem numv_m {f : Nat} {mm : Mem} (hB : MB B L mm) (hf : f ≤ L) (hT : TM B L mm f) (lo hi : Int32) : iter (fun s => fX12_number_17b 0 lo hi s.1 s.2 mm) FU ((0 : Int32), nI f) = some (if pKd B L f = 2 then nI (pVl B f (pTe B L f - f)) else 0) := by
  obtain ⟨t15, t16, t13, t14⟩ := hT
  obtain ⟨u1, u2, u3⟩ := pTe_le (B := B) hf
  have hL := hB.2.1
  have tk := (mT_i _ (kd4 B L f)).1
  by_cases h1 : pKd B L f = 2
  · rw [if_pos h1]
    obtain ⟨-, -, fg⟩ := pKd_2 h1
    refine iter_traj (fun k => (nI (pVl B f k), nI (f + k))) (pTe B L f - f) _ (by omega) (fun k hk => ?_) ?_
    · obtain ⟨b1, b2⟩ := hB.2.2.2 (f + k) (by omega)
      have g := pFg_n (fg (f + k) (by omega) (by omega))
      have v : (10 : Int32) * nI (pVl B f k) + nI (B (f + k)) - 48 = nI (pVl B f (k + 1)) := by
        show _ = nI (pVl B f k * 10 + (B (f + k) - 48))
        rw [show (10 : Int32) = nI 10 from rfl, show (48 : Int32) = nI 48 from rfl, pk_mul, nI_add, pk_sub (by omega)]
        congr 1
        omega
      simp only [fX12_number_17b, km_s, rm_s hB.1, eq_self, gp_tt, t16, t14, if_neg (nI_ge (show f + k < pTe B L f by omega) (by omega)), if_pos (tk.mpr h1), bnd_s, inb_nI (show f + k < 600 by omega) (by decide), nI_clamp (show f + k < 2 ^ 31 by omega), b2, lt1_e, v, nI_1]
      rfl
    · simp only [fX12_number_17b, km_s, eq_self, gp_tt, t16, if_pos (nI_le (show pTe B L f ≤ f + (pTe B L f - f) by omega) (by omega))]
  · rw [if_neg h1]
    have st : fX12_number_17b 0 lo hi 0 (nI f) mm = some (.inr 0) := by
      simp only [fX12_number_17b, km_s, eq_self, gp_tt, t16, t14]
      by_cases c : pTe B L f ≤ f
      · rw [if_pos (nI_le c (by omega))]
      · rw [if_neg (nI_ge (by omega) (by omega)), if_neg (fun q => h1 (tk.mp q))]
    exact iter_traj (fun _ => ((0 : Int32), nI f)) 0 _ (by decide) (fun k hk => by omega) st
theorem RR.num {f : Nat} {mc mm : Mem} (hA : BA mc0 mm0 s B L) (h : RR mc0 mm0 s B L f mc mm) (lo hi : Int32) : ∃ v1 v2 mc2 mm2 f2, fX5_takeNumber 4 lo hi mc = some (v1, mc2) ∧ fX12_number 0 lo hi mm = some (v2, mm2) ∧ RR mc0 mm0 s B L f2 mc2 mm2 ∧ UW mc mc2 ∧ mm2.1 5 = mm.1 5 ∧ f ≤ f2 ∧ (mm2.1 0 17 = 0 → mm.1 0 17 = 0 ∧ f < f2 ∧ ∃ v, v < 1000 ∧ v1 = nI v ∧ v2 = nI v ∧ ¬ iw (nI v) lo hi = 0) ∧ (¬ mm2.1 0 17 = 0 → v1 = lo) ∧ (¬ mm.1 0 17 = 0 → mm2 = mm) := by
  obtain ⟨⟨c1, c2, c3⟩, hL, c5, c6⟩ := h.cb hA
  have mb := h.mb hA
  have a5 := h.2.2.2.2.1
  have a6 := h.2.2.2.2.2.1
  have k2 := kdC (B := B) (L := L) (f := f) (k := 2) (by decide)
  by_cases g : mm.1 0 17 = 0
  · obtain ⟨g1, g2⟩ := h.good g
    have tk := (mT_i _ (kd4 B L f)).1
    have e0 : fX12_number 0 lo hi mm = fX12_number_56 0 lo hi (if pKd B L f = 2 then nI (pVl B f (pTe B L f - f)) else 0) mm := by
      unfold fX12_number
      rw [gp_pos km_s.1, g, if_pos (by decide), lt1_e, lt1_e, g2.1]
      unfold fX12_number_17
      rw [numv_m mb a5 g2 lo hi, bnd_s]
    rw [e0]
    by_cases h2 : pKd B L f = 2
    · rw [if_pos h2]
      obtain ⟨fl, t3, fg⟩ := pKd_2 h2
      obtain ⟨u1, u2, u3⟩ := pTe_le (B := B) a5
      have vb : pVl B f (pTe B L f - f) < 1000 := by
        have := vl3 (B := B) (f := f) (pTe B L f - f) t3 (fun j hj => fg (f + j) (by omega) (by omega))
        have q : (10 : Nat) ^ (pTe B L f - f) ≤ 10 ^ 3 := Nat.pow_le_pow_right (by decide) t3
        omega
      have v4 := a6.2.2.2 h2
      generalize hv : pVl B f (pTe B L f - f) = v at v4 vb
      by_cases h3 : iw (nI v) lo hi = 0
      · obtain ⟨mc2, mm2, e1, e2, e3, e4, e5, e6, e7⟩ := h.fail hA (k := 2) (by decide) (by decide)
        have e1 : fX5_fail 4 2 mc = some mc2 := e1
        have e2 : fX12_bad 0 2 mm = some mm2 := e2
        have t14 : nI (mT (pKd B L f)) = 3 := tk.mpr h2
        have t14' : mm2.1 0 14 = 3 := by
          rw [bad_e, if_pos g] at e2
          rw [← Option.some.inj e2, uI_1, if_neg (by decide), uI_1, if_neg (by decide), g2.2.2.2]
          exact t14
        refine ⟨lo, nI v, mc2, mm2, f, ?_, ?_, e3, e5, e6, Nat.le_refl _, fun q => absurd q e4, fun _ => rfl, fun q => absurd g q⟩
        · simp only [fX5_takeNumber, fX5_takeNumber_39, kc_s, c3, eq_self, gp_tt, bnd_s, a6.2.2.1, if_pos (show nI (pKd B L f) = 2 from k2.mpr h2), v4, isWithin_e, h3, if_true, e1, if_neg (e3.badc e4)]
        · simp only [fX12_number_56, fX12_number_81, fX12_number_95, fX12_must, fX12_must_9, km_s, eq_self, gp_tt, bnd_s, g2.2.2.2, if_pos t14, in_e, h3, if_true, e2, t14', if_neg (show ¬ (1 : Int32) = 0 by decide), if_neg e4]
      · obtain ⟨mc2, mm2, e1, e2, e3, e4, e5, e6⟩ := h.adv hA g
        have t14 : nI (mT (pKd B L f)) = 3 := tk.mpr h2
        refine ⟨nI v, nI v, mc2, mm2, pNx B L f, ?_, ?_, e3, e5, e6, (pNx_le a5).1, fun _ => ⟨g, (pNx_le a5).2.2 fl, v, vb, rfl, rfl, h3⟩, fun q => absurd e4 q, fun q => absurd g q⟩
        · simp only [fX5_takeNumber, fX5_takeNumber_39, kc_s, c3, eq_self, gp_tt, bnd_s, a6.2.2.1, if_pos (show nI (pKd B L f) = 2 from k2.mpr h2), v4, isWithin_e, if_neg h3, g1, if_true, lt1_e, e1]
        · simp only [fX12_number_56, fX12_number_81, fX12_number_95, fX12_must, fX12_must_9, km_s, eq_self, gp_tt, bnd_s, g2.2.2.2, if_pos t14, in_e, if_neg h3, if_neg (show ¬ (1 : Int32) = 0 by decide), g, if_true, e2]
    · rw [if_neg h2]
      obtain ⟨mc2, mm2, e1, e2, e3, e4, e5, e6, e7⟩ := h.fail hA (k := 1) (by decide) (by decide)
      have e1 : fX5_fail 4 1 mc = some mc2 := e1
      have e2 : fX12_bad 0 1 mm = some mm2 := e2
      have t14 : ¬ nI (mT (pKd B L f)) = 3 := fun q => h2 (tk.mp q)
      refine ⟨lo, 0, mc2, mm2, f, ?_, ?_, e3, e5, e6, Nat.le_refl _, fun q => absurd q e4, fun _ => rfl, fun q => absurd g q⟩
      · simp only [fX5_takeNumber, fX5_takeNumber_39, kc_s, c3, eq_self, gp_tt, bnd_s, a6.2.2.1, if_neg (show ¬ nI (pKd B L f) = 2 from fun q => h2 (k2.mp q)), e1, if_neg (e3.badc e4)]
      · simp only [fX12_number_56, fX12_number_81, fX12_number_95, fX12_must, fX12_must_9, km_s, eq_self, gp_tt, bnd_s, g2.2.2.2, if_neg t14, if_true, e2, if_neg e4]
  · have gc := h.badc g
    obtain ⟨k, p, k1, k3, y1, y2, -⟩ := h.bad g
    have fe : ∀ x, fX5_fail 4 x mc = some mc := fun x => by rw [fail_e _ _ c3, if_neg gc]
    refine ⟨lo, 0, mc, mm, f, ?_, ?_, h, fun _ _ _ => rfl, rfl, Nat.le_refl _, fun q => absurd q g, fun _ => rfl, fun _ => rfl⟩
    · simp only [fX5_takeNumber, fX5_takeNumber_39, kc_s, c3, eq_self, gp_tt, bnd_s, isWithin_e, fe, if_neg gc]
      split
      · split <;> rfl
      · rfl
    · simp only [fX12_number, km_s, eq_self, gp_tt]
      rw [y2, if_neg (nI_nle (by omega) (by omega))]
/-- a clause's end -/
theorem RR.stop {f : Nat} {mc mm : Mem} (hA : BA mc0 mm0 s B L) (h : RR mc0 mm0 s B L f mc mm) : ∃ mc2 mm2 f2, fX5_takeEnd 4 mc = some mc2 ∧ (if mm.1 0 17 = 0 then (if mm.1 0 14 = (4 : Int32) then fX12_must 0 1 mm else fX12_must 0 0 mm) else some mm) = some mm2 ∧ RR mc0 mm0 s B L f2 mc2 mm2 ∧ UW mc mc2 ∧ mm2.1 5 = mm.1 5 ∧ f ≤ f2 ∧ (mm2.1 0 17 = 0 → mm.1 0 17 = 0 ∧ f < f2) ∧ (¬ mm.1 0 17 = 0 → mm2 = mm) := by
  obtain ⟨⟨c1, c2, c3⟩, hL, c5, c6⟩ := h.cb hA
  have a5 := h.2.2.2.2.1
  have a6 := h.2.2.2.2.2.1
  have k3 := kdC (B := B) (L := L) (f := f) (k := 3) (by decide)
  by_cases g : mm.1 0 17 = 0
  · obtain ⟨g1, g2⟩ := h.good g
    have tk := (mT_i _ (kd4 B L f)).2.1
    rw [if_pos g, g2.2.2.2]
    by_cases h3 : pKd B L f = 3
    · obtain ⟨mc2, mm2, e1, e2, e3, e4, e5, e6⟩ := h.adv hA g
      rw [if_pos (tk.mpr h3)]
      refine ⟨mc2, mm2, pNx B L f, ?_, ?_, e3, e5, e6, (pNx_le a5).1, fun _ => ⟨g, (pNx_le a5).2.2 (pKd_lt (B := B) (by omega))⟩, fun q => absurd g q⟩
      · simp only [fX5_takeEnd, kc_s, c3, eq_self, gp_tt, bnd_s, a6.2.2.1, if_pos (show nI (pKd B L f) = 3 from k3.mpr h3), e1]
      · simp only [fX12_must, fX12_must_9, km_s, eq_self, gp_tt, if_neg (show ¬ (1 : Int32) = 0 by decide), g, if_true, e2, bnd_s]
    · obtain ⟨mc2, mm2, e1, e2, e3, e4, e5, e6, e7⟩ := h.fail hA (k := 1) (by decide) (by decide)
      have e1 : fX5_fail 4 1 mc = some mc2 := e1
      have e2 : fX12_bad 0 1 mm = some mm2 := e2
      rw [if_neg (fun q => h3 (tk.mp q))]
      refine ⟨mc2, mm2, f, ?_, ?_, e3, e5, e6, Nat.le_refl _, fun q => absurd q e4, fun q => absurd g q⟩
      · simp only [fX5_takeEnd, kc_s, c3, eq_self, gp_tt, bnd_s, a6.2.2.1, if_neg (show ¬ nI (pKd B L f) = 3 from fun q => h3 (k3.mp q)), e1]
      · simp only [fX12_must, fX12_must_9, km_s, eq_self, gp_tt, if_true, e2, bnd_s, if_neg e4]
  · have gc := h.badc g
    rw [if_neg g]
    by_cases h3 : pKd B L f = 3
    · obtain ⟨mc2, e1, e2, e3⟩ := h.advf hA g
      refine ⟨mc2, mm, pNx B L f, ?_, rfl, e2, e3, rfl, (pNx_le a5).1, fun q => absurd q g, fun _ => rfl⟩
      simp only [fX5_takeEnd, kc_s, c3, eq_self, gp_tt, bnd_s, a6.2.2.1, if_pos (show nI (pKd B L f) = 3 from k3.mpr h3), e1]
    · have fe : fX5_fail 4 1 mc = some mc := by rw [fail_e _ _ c3, if_neg gc]
      refine ⟨mc, mm, f, ?_, rfl, h, fun _ _ _ => rfl, rfl, Nat.le_refl _, fun q => absurd q g, fun _ => rfl⟩
      simp only [fX5_takeEnd, kc_s, c3, eq_self, gp_tt, bnd_s, a6.2.2.1, if_neg (show ¬ nI (pKd B L f) = 3 from fun q => h3 (k3.mp q)), fe]
theorem RR.ends {f j : Nat} {mc mm : Mem} (hA : BA mc0 mm0 s B L) (h : RR mc0 mm0 s B L f mc mm) (hj : j < 12) : ∃ mc2 mm2 r f2, fX5_takeEnd 4 mc = some mc2 ∧ fX12_ends 0 (nI j) mm = some (r, mm2) ∧ RR mc0 mm0 s B L f2 mc2 mm2 ∧ UW mc mc2 ∧ (∀ x, x ≠ j → mm2.1 5 x = mm.1 5 x) ∧ (mm2.1 0 17 = 0 → mm.1 0 17 = 0 ∧ f < f2 ∧ r = 1 ∧ mm2.1 5 j = mm.1 5 j + 1) ∧ (¬ mm2.1 0 17 = 0 → r = 0) ∧ (¬ mm.1 0 17 = 0 → FO mm mm2) := by
  obtain ⟨mc2, mm2, f2, e1, e2, e3, e4, e5, e6, e7, e8⟩ := h.stop hA
  have mb := e3.mb hA
  have i12 : ∀ j, j < 12 → inb (nI j) 206 = true := by decide
  have fin : ∀ v : Int32, ∃ mm3, fX12_ends_43 0 5 (nI j) (mm2.1 5 j) v mm2 = some (if mm2.1 0 17 = 0 then 1 else 0, mm3) ∧ FO mm2 mm3 ∧ (∀ x, x ≠ j → mm3.1 5 x = mm2.1 5 x) ∧ mm3.1 5 j = mm2.1 5 j + v := by
    intro v
    refine ⟨uI mm2 5 j (mm2.1 5 j + v), ?_, ⟨rfl, fun a ha => uI_o ha⟩, fun x hx => by rw [uI_1, if_neg (fun q => hx q.2)], by rw [uI_1, if_pos ⟨rfl, rfl⟩]⟩
    have u : (uI mm2 5 j (mm2.1 5 j + v)).1 0 17 = mm2.1 0 17 := by rw [uI_o (by decide)]
    simp only [fX12_ends_43, km_s, eq_self, gp_tt, i12 j hj, lt1_e, nI_clamp (show j < 2 ^ 31 by omega), u]
    split <;> rfl
  have e24 : fX12_ends 0 (nI j) mm = fX12_ends_24 0 (nI j) mm2 := by
    unfold fX12_ends fX12_ends_21
    rw [gp_pos km_s.1]
    by_cases g : mm.1 0 17 = 0
    · rw [if_pos g] at e2 ⊢
      rw [gp_pos km_s.1, gp_pos km_s.1]
      by_cases t : mm.1 0 14 = 4
      · rw [if_pos t] at e2 ⊢
        rw [e2, bnd_s]
      · rw [if_neg t] at e2 ⊢
        rw [e2, bnd_s]
    · rw [if_neg g] at e2 ⊢
      rw [Option.some.inj e2]
  have e43 : fX12_ends_24 0 (nI j) mm2 = fX12_ends_43 0 5 (nI j) (mm2.1 5 j) (if mm2.1 0 17 = 0 then 1 else 0) mm2 := by
    simp only [fX12_ends_24, km_s, rm_s mb.1, eq_self, gp_tt, bnd_s, i12 j hj, nI_clamp (show j < 2 ^ 31 by omega)]
    split <;> rfl
  obtain ⟨mm3, x1, x2, x3, x4⟩ := fin (if mm2.1 0 17 = 0 then 1 else 0)
  have u0 : mm3.1 0 17 = mm2.1 0 17 := by rw [x2.2 0 (by decide)]
  refine ⟨mc2, mm3, (if mm2.1 0 17 = 0 then 1 else 0), f2, e1, by rw [e24, e43]; exact x1, e3.m x2, e4, fun x hx => (x3 x hx).trans (by rw [e5]), fun q => ?_, fun q => ?_, fun q => ?_⟩
  · rw [u0] at q
    obtain ⟨y1, y2⟩ := e7 q
    rw [if_pos q] at x4 ⊢
    exact ⟨y1, y2, rfl, by rw [x4, e5]⟩
  · rw [u0] at q
    rw [if_neg q]
  · rw [e8 q] at x2
    exact x2
/-- what the reference's word is -/
theorem RR.word {f : Nat} {mc mm : Mem} (hA : BA mc0 mm0 s B L) (h : RR mc0 mm0 s B L f mc mm) : ∃ r, fX12_word 0 mm = some r ∧ (∀ i, i < 24 → (r = lN (cW i) ↔ (mm.1 0 17 = 0 ∧ pWn B L i f))) ∧ (¬ mm.1 0 17 = 0 → r = 0) := by
  have mb := h.mb hA
  have a5 := h.2.2.2.2.1
  have hL := mb.2.1
  by_cases g : mm.1 0 17 = 0
  · obtain ⟨g1, g2⟩ := h.good g
    refine ⟨_, word_m mb a5 g2 g, fun i hi => ?_, fun q => absurd g q⟩
    rw [pWd_i (fun j hj => (mb.2.2.2 j hj).1) a5 hi]
    exact ⟨fun q => ⟨g, q⟩, fun q => q.2⟩
  · obtain ⟨x, x1, x2, -⟩ := h.2.2.2.2.2.2
    obtain ⟨u1, u2, u3⟩ := pTe_le (B := B) x1
    refine ⟨0, word_f mb.1 ⟨x, by omega, x2.1⟩ ⟨_, by omega, x2.2.1⟩ g, fun i hi => ⟨fun q => ?_, fun q => absurd q.1 g⟩, fun _ => rfl⟩
    obtain ⟨c1, c2⟩ := cW_v i hi
    have := (pk_lEQ (a := 0) (b := cW i) (by decide) c2).mp q
    omega
theorem RR.name {f i : Nat} {mc mm : Mem} (hA : BA mc0 mm0 s B L) (h : RR mc0 mm0 s B L f mc mm) (hi : i < 24) : (pWn B L i f ∧ fX8_isName 5 i mc = some 1) ∨ (¬ pWn B L i f ∧ fX8_isName 5 i mc = some 0) := isName_c (h.cb hA) h.2.2.2.2.1 h.2.2.2.2.2.1 hi
theorem pWn_lt {i f : Nat} (h : pWn B L i f) : f < L := (pKd_1 h.1).1
/-- one more of a sort begins -/
theorem RR.begs {f i c R j : Nat} {mc mm : Mem} (hA : BA mc0 mm0 s B L) (h : RR mc0 mm0 s B L f mc mm) (hi : i < 24) (hc : c ≤ R) (hR : R ≤ 100) (hj : j < 12) (hcnt : mm.1 0 17 = 0 → mm.1 5 j = nI c) : ∃ r, fX12_word 0 mm = some r ∧
    ((¬ r = lN (cW i) ∧ fX5_begins 4 i (nI c) (nI R) mc = some (0, mc) ∧ ¬ (mm.1 0 17 = 0 ∧ pWn B L i f)) ∨
     (r = lN (cW i) ∧ mm.1 0 17 = 0 ∧ c < R ∧ ∃ mc2 mm2, fX5_begins 4 i (nI c) (nI R) mc = some (1, mc2) ∧ fX12_begins 0 (nI j) (nI R) mm = some mm2 ∧ RR mc0 mm0 s B L (pNx B L f) mc2 mm2 ∧ mm2.1 0 17 = 0 ∧ UW mc mc2 ∧ mm2.1 5 = mm.1 5) ∨
     (r = lN (cW i) ∧ mm.1 0 17 = 0 ∧ c = R ∧ ∃ mc2 mm2, fX5_begins 4 i (nI c) (nI R) mc = some (0, mc2) ∧ fX12_begins 0 (nI j) (nI R) mm = some mm2 ∧ RR mc0 mm0 s B L f mc2 mm2 ∧ ¬ mm2.1 0 17 = 0 ∧ UW mc mc2 ∧ mm2.1 5 = mm.1 5)) := by
  obtain ⟨⟨c1, c2, c3⟩, hL, c5, c6⟩ := h.cb hA
  have mb := h.mb hA
  have i12 : ∀ j, j < 12 → inb (nI j) 206 = true := by decide
  obtain ⟨r, w1, w2, w3⟩ := h.word hA
  refine ⟨r, w1, ?_⟩
  by_cases g : mm.1 0 17 = 0
  · obtain ⟨g1, g2⟩ := h.good g
    rcases h.name hA hi with ⟨n1, n2⟩ | ⟨n1, n2⟩
    · have hr := (w2 i hi).mpr ⟨g, n1⟩
      rcases Nat.lt_or_ge c R with q | q
      · obtain ⟨mc2, mm2, e1, e2, e3, e4, e5, e6⟩ := h.adv hA g
        refine Or.inr (Or.inl ⟨hr, g, q, mc2, mm2, ?_, ?_, e3, e4, e5, e6⟩)
        · simp only [fX5_begins, kc_s, c3, eq_self, gp_tt, g1, if_true, bnd_s, n2, if_neg (show ¬ (1 : Int32) = 0 by decide), if_pos (nI_lt q (show R < 2 ^ 31 by omega)), e1]
        · simp only [fX12_begins, fX12_begins_15, fX12_must, fX12_must_9, km_s, rm_s mb.1, eq_self, gp_tt, bnd_s, i12 j hj, nI_clamp (show j < 2 ^ 31 by omega), hcnt g, if_neg (fun z => absurd (nI_inj1 (show c < 2 ^ 31 by omega) (show R < 2 ^ 31 by omega) z) (by omega)), if_neg (show ¬ (1 : Int32) = 0 by decide), g, if_true, e2]
      · have cR : c = R := by omega
        obtain ⟨mc2, mm2, e1, e2, e3, e4, e5, e6, e7⟩ := h.fail hA (k := 3) (by decide) (by decide)
        have e1 : fX5_fail 4 3 mc = some mc2 := e1
        have e2 : fX12_bad 0 3 mm = some mm2 := e2
        refine Or.inr (Or.inr ⟨hr, g, cR, mc2, mm2, ?_, ?_, e3, e4, e5, e6⟩)
        · simp only [fX5_begins, kc_s, c3, eq_self, gp_tt, g1, if_true, bnd_s, n2, if_neg (show ¬ (1 : Int32) = 0 by decide), if_neg (nI_nlt q (show c < 2 ^ 31 by omega)), e1]
        · simp only [fX12_begins, fX12_begins_15, fX12_must, fX12_must_9, km_s, rm_s mb.1, eq_self, gp_tt, bnd_s, i12 j hj, nI_clamp (show j < 2 ^ 31 by omega), hcnt g, if_pos (congrArg nI cR), if_neg (show ¬ (1 : Int32) = 0 by decide), e2, if_neg e4]
    · refine Or.inl ⟨fun q => n1 ((w2 i hi).mp q).2, ?_, fun q => n1 q.2⟩
      simp only [fX5_begins, kc_s, c3, eq_self, gp_tt, g1, if_true, bnd_s, n2]
  · refine Or.inl ⟨fun q => g ((w2 i hi).mp q).1, ?_, fun q => g q.1⟩
    simp only [fX5_begins, kc_s, eq_self, gp_tt, if_neg (h.badc g)]
theorem way_k : (110 : Int64) = lN (cW 2) ∧ (28261 : Int64) = lN (cW 3) ∧ (101 : Int64) = lN (cW 4) ∧ (29541 : Int64) = lN (cW 5) ∧ (115 : Int64) = lN (cW 6) ∧ (29559 : Int64) = lN (cW 7) ∧ (119 : Int64) = lN (cW 8) ∧ (28279 : Int64) = lN (cW 9) := by decide +kernel
theorem way_n : ∀ v, v < 8 → 0 ≤ v → fX5_wayName (nI v) = some (2 + v) := by decide +kernel
theorem way_o : ∀ v, v < 8 → 0 ≤ v → fX12_wayOf (lN (cW (2 + v))) = some (nI v) ∧ ¬ nI v = -1000000 := by decide +kernel
theorem way_0 : fX12_wayOf 0 = some (-1000000) := by decide +kernel
theorem RR.way {f : Nat} {mc mm : Mem} (hA : BA mc0 mm0 s B L) (h : RR mc0 mm0 s B L f mc mm) : ∃ v1 v2 mc2 mm2 f2 x r, fX5_takeWay 4 mc = some (v1, mc2) ∧ fX12_word 0 mm = some x ∧ fX12_wayOf x = some r ∧ fX12_named 0 r mm = some (v2, mm2) ∧ RR mc0 mm0 s B L f2 mc2 mm2 ∧ UW mc mc2 ∧ mm2.1 5 = mm.1 5 ∧ (mm2.1 0 17 = 0 → mm.1 0 17 = 0 ∧ f < f2 ∧ ∃ v, 0 ≤ v ∧ v < 8 ∧ v1 = nI v ∧ v2 = nI v) ∧ (¬ mm.1 0 17 = 0 → mm2 = mm) := by
  obtain ⟨⟨c1, c2, c3⟩, hL, c5, c6⟩ := h.cb hA
  have a5 := h.2.2.2.2.1
  obtain ⟨x, w1, w2, w3⟩ := h.word hA
  obtain ⟨e, E, Q⟩ := iter_run (b := fun s => fX5_takeWay_2b 4 s mc) (fun q => ∃ v, 0 ≤ v ∧ v ≤ 8 ∧ q = nI v ∧ ∀ u, 0 ≤ u → u < v → ¬ pWn B L (2 + u) f) (fun q => 20 - q.toNatClampNeg) (fun e => (∃ v, 0 ≤ v ∧ v < 8 ∧ e = .inl (nI v) ∧ pWn B L (2 + v) f) ∨ (e = .inr () ∧ ∀ u, 0 ≤ u → u < 8 → ¬ pWn B L (2 + u) f)) (by
    rintro q ⟨v, v1, v2, rfl, hall⟩
    rcases Nat.lt_or_ge v 8 with c | c
    · have nm := way_n v c v1
      rcases h.name hA (i := 2 + v) (by omega) with ⟨n1, n2⟩ | ⟨n1, n2⟩
      · refine Or.inr ⟨.inl (nI v), ?_, Or.inl ⟨v, v1, c, rfl, n1⟩⟩
        simp only [fX5_takeWay_2b, if_neg (show ¬ (8 : Int32) ≤ nI v from nI_ge (b := 8) c (by decide)), kc_s, c3, eq_self, gp_tt, bnd_s, nm, n2, if_neg (show ¬ (1 : Int32) = 0 by decide)]
      · refine Or.inl ⟨nI (v + 1), ?_, ⟨v + 1, by omega, by omega, rfl, fun u u1 u2 => ?_⟩, ?_⟩
        · simp only [fX5_takeWay_2b, if_neg (show ¬ (8 : Int32) ≤ nI v from nI_ge (b := 8) c (by decide)), kc_s, c3, eq_self, gp_tt, bnd_s, nm, n2, if_true, lt1_e, nI_1]
        · rcases Nat.lt_or_ge u v with z | z
          · exact hall u u1 z
          · have : u = v := by omega
            subst this; exact n1
        · rw [nI_clamp (by omega), nI_clamp (by omega)]
          omega
    · have : v = 8 := by omega
      subst this
      refine Or.inr ⟨.inr (), ?_, Or.inr ⟨rfl, hall⟩⟩
      simp only [fX5_takeWay_2b, if_pos (show (8 : Int32) ≤ nI 8 by decide)]) FU (0 : Int32) ⟨0, by omega, by omega, rfl, fun u u1 u2 => by omega⟩ (by have := FU_ge; omega)
  have eT : fX5_takeWay 4 mc = Sum.elim (fun e => fX5_takeWay_22 4 e mc) (fun _ => fX5_takeWay_37 4 mc) e := by
    unfold fX5_takeWay fX5_takeWay_2
    rw [lt1_e, E, bnd_s]
  rw [eT]
  by_cases g : mm.1 0 17 = 0
  · obtain ⟨g1, g2⟩ := h.good g
    rcases Q with ⟨v, v1, v2, rfl, wn⟩ | ⟨rfl, hall⟩
    · obtain ⟨o1, o2⟩ := way_o v v2 v1
      obtain ⟨mc2, mm2, e1, e2, e3, e4, e5, e6⟩ := h.adv hA g
      refine ⟨nI v, nI v, mc2, mm2, pNx B L f, x, nI v, ?_, w1, by rw [(w2 (2 + v) (by omega)).mpr ⟨g, wn⟩]; exact o1, ?_, e3, e5, e6, fun _ => ⟨g, (pNx_le a5).2.2 (pWn_lt wn), v, v1, v2, rfl, rfl⟩, fun q => absurd g q⟩
      · simp only [Sum.elim_inl, fX5_takeWay_22, kc_s, c3, eq_self, gp_tt, bnd_s, e1]
      · simp only [fX12_named, fX12_named_19, fX12_must, fX12_must_9, km_s, eq_self, gp_tt, g, if_true, if_neg o2, if_neg (show ¬ (1 : Int32) = 0 by decide), e2, bnd_s]
    · obtain ⟨mc2, mm2, e1, e2, e3, e4, e5, e6, e7⟩ := h.fail hA (k := 1) (by decide) (by decide)
      have e1 : fX5_fail 4 1 mc = some mc2 := e1
      have e2 : fX12_bad 0 1 mm = some mm2 := e2
      have no : ∀ u, 0 ≤ u → u < 8 → ¬ x = lN (cW (2 + u)) := fun u u1 u2 q => hall u u1 u2 ((w2 (2 + u) (by omega)).mp q).2
      obtain ⟨k0, k1, k2, k3, k4, k5, k6, k7⟩ := way_k
      have of0 : fX12_wayOf x = some (-1000000) := by
        unfold fX12_wayOf
        rw [k0, k1, k2, k3, k4, k5, k6, k7, if_neg (no 0 (by decide) (by decide)), if_neg (no 1 (by decide) (by decide)), if_neg (no 2 (by decide) (by decide)), if_neg (no 3 (by decide) (by decide)), if_neg (no 4 (by decide) (by decide)), if_neg (no 5 (by decide) (by decide)), if_neg (no 6 (by decide) (by decide)), if_neg (no 7 (by decide) (by decide))]
      refine ⟨0, -1000000, mc2, mm2, f, x, -1000000, ?_, w1, of0, ?_, e3, e5, e6, fun q => absurd q e4, fun q => absurd g q⟩
      · simp only [Sum.elim_inr, fX5_takeWay_37, kc_s, eq_self, gp_tt, bnd_s, e1]
      · simp only [fX12_named, fX12_named_19, fX12_must, fX12_must_9, km_s, eq_self, gp_tt, g, if_true, e2, bnd_s, if_neg e4]
  · have gc := h.badc g
    have nd : fX12_named 0 (-1000000) mm = some (-1000000, mm) := by simp only [fX12_named, km_s, eq_self, gp_tt, if_neg g]
    have x0 := w3 g
    rcases Q with ⟨v, v1, v2, rfl, wn⟩ | ⟨rfl, hall⟩
    · obtain ⟨mc2, e1, e2, e3⟩ := h.advf hA g
      refine ⟨nI v, -1000000, mc2, mm, pNx B L f, x, -1000000, ?_, w1, by rw [x0]; exact way_0, nd, e2, e3, rfl, fun q => absurd q g, fun _ => rfl⟩
      simp only [Sum.elim_inl, fX5_takeWay_22, kc_s, c3, eq_self, gp_tt, bnd_s, e1]
    · have fe : fX5_fail 4 1 mc = some mc := by rw [fail_e _ _ c3, if_neg gc]
      refine ⟨0, -1000000, mc, mm, f, x, -1000000, ?_, w1, by rw [x0]; exact way_0, nd, h, fun _ _ _ => rfl, rfl, fun q => absurd q g, fun _ => rfl⟩
      simp only [Sum.elim_inr, fX5_takeWay_37, kc_s, eq_self, gp_tt, bnd_s, fe]
theorem kin_k : (8319381538419076711 : Int64) = lN (cW 14) ∧ (1735356005 : Int64) = lN (cW 15) ∧ (1818584692 : Int64) = lN (cW 16) ∧ (119225731999076 : Int64) = lN (cW 17) ∧ (28273294687102308 : Int64) = lN (cW 18) ∧ (1953459300 : Int64) = lN (cW 19) ∧ (1835099237 : Int64) = lN (cW 20) := by decide +kernel
theorem kin_n : ∀ v, v < 8 → 1 ≤ v → fX5_kindName (nI v) = some (13 + v) := by decide +kernel
theorem kin_o : ∀ v, v < 8 → 1 ≤ v → fX12_whatOf (lN (cW (13 + v))) = some (nI v) ∧ ¬ nI v = -1000000 := by decide +kernel
theorem kin_0 : fX12_whatOf 0 = some (-1000000) := by decide +kernel
theorem RR.kin {f : Nat} {mc mm : Mem} (hA : BA mc0 mm0 s B L) (h : RR mc0 mm0 s B L f mc mm) : ∃ v1 v2 mc2 mm2 f2 x r, fX5_takeKind 4 mc = some (v1, mc2) ∧ fX12_word 0 mm = some x ∧ fX12_whatOf x = some r ∧ fX12_named 0 r mm = some (v2, mm2) ∧ RR mc0 mm0 s B L f2 mc2 mm2 ∧ UW mc mc2 ∧ mm2.1 5 = mm.1 5 ∧ (mm2.1 0 17 = 0 → mm.1 0 17 = 0 ∧ f < f2 ∧ ∃ v, 1 ≤ v ∧ v < 8 ∧ v1 = nI v ∧ v2 = nI v) ∧ (¬ mm.1 0 17 = 0 → mm2 = mm) := by
  obtain ⟨⟨c1, c2, c3⟩, hL, c5, c6⟩ := h.cb hA
  have a5 := h.2.2.2.2.1
  obtain ⟨x, w1, w2, w3⟩ := h.word hA
  obtain ⟨e, E, Q⟩ := iter_run (b := fun s => fX5_takeKind_2b 4 s mc) (fun q => ∃ v, 1 ≤ v ∧ v ≤ 8 ∧ q = nI v ∧ ∀ u, 1 ≤ u → u < v → ¬ pWn B L (13 + u) f) (fun q => 20 - q.toNatClampNeg) (fun e => (∃ v, 1 ≤ v ∧ v < 8 ∧ e = .inl (nI v) ∧ pWn B L (13 + v) f) ∨ (e = .inr () ∧ ∀ u, 1 ≤ u → u < 8 → ¬ pWn B L (13 + u) f)) (by
    rintro q ⟨v, v1, v2, rfl, hall⟩
    rcases Nat.lt_or_ge v 8 with c | c
    · have nm := kin_n v c v1
      rcases h.name hA (i := 13 + v) (by omega) with ⟨n1, n2⟩ | ⟨n1, n2⟩
      · refine Or.inr ⟨.inl (nI v), ?_, Or.inl ⟨v, v1, c, rfl, n1⟩⟩
        simp only [fX5_takeKind_2b, if_neg (show ¬ (8 : Int32) ≤ nI v from nI_ge (b := 8) c (by decide)), kc_s, c3, eq_self, gp_tt, bnd_s, nm, n2, if_neg (show ¬ (1 : Int32) = 0 by decide)]
      · refine Or.inl ⟨nI (v + 1), ?_, ⟨v + 1, by omega, by omega, rfl, fun u u1 u2 => ?_⟩, ?_⟩
        · simp only [fX5_takeKind_2b, if_neg (show ¬ (8 : Int32) ≤ nI v from nI_ge (b := 8) c (by decide)), kc_s, c3, eq_self, gp_tt, bnd_s, nm, n2, if_true, lt1_e, nI_1]
        · rcases Nat.lt_or_ge u v with z | z
          · exact hall u u1 z
          · have : u = v := by omega
            subst this; exact n1
        · rw [nI_clamp (by omega), nI_clamp (by omega)]
          omega
    · have : v = 8 := by omega
      subst this
      refine Or.inr ⟨.inr (), ?_, Or.inr ⟨rfl, hall⟩⟩
      simp only [fX5_takeKind_2b, if_pos (show (8 : Int32) ≤ nI 8 by decide)]) FU (1 : Int32) ⟨1, by omega, by omega, rfl, fun u u1 u2 => by omega⟩ (by have := FU_ge; omega)
  have eT : fX5_takeKind 4 mc = Sum.elim (fun e => fX5_takeKind_22 4 e mc) (fun _ => fX5_takeKind_37 4 mc) e := by
    unfold fX5_takeKind fX5_takeKind_2
    rw [lt1_e, E, bnd_s]
  rw [eT]
  by_cases g : mm.1 0 17 = 0
  · obtain ⟨g1, g2⟩ := h.good g
    rcases Q with ⟨v, v1, v2, rfl, wn⟩ | ⟨rfl, hall⟩
    · obtain ⟨o1, o2⟩ := kin_o v v2 v1
      obtain ⟨mc2, mm2, e1, e2, e3, e4, e5, e6⟩ := h.adv hA g
      refine ⟨nI v, nI v, mc2, mm2, pNx B L f, x, nI v, ?_, w1, by rw [(w2 (13 + v) (by omega)).mpr ⟨g, wn⟩]; exact o1, ?_, e3, e5, e6, fun _ => ⟨g, (pNx_le a5).2.2 (pWn_lt wn), v, v1, v2, rfl, rfl⟩, fun q => absurd g q⟩
      · simp only [Sum.elim_inl, fX5_takeKind_22, kc_s, c3, eq_self, gp_tt, bnd_s, e1]
      · simp only [fX12_named, fX12_named_19, fX12_must, fX12_must_9, km_s, eq_self, gp_tt, g, if_true, if_neg o2, if_neg (show ¬ (1 : Int32) = 0 by decide), e2, bnd_s]
    · obtain ⟨mc2, mm2, e1, e2, e3, e4, e5, e6, e7⟩ := h.fail hA (k := 1) (by decide) (by decide)
      have e1 : fX5_fail 4 1 mc = some mc2 := e1
      have e2 : fX12_bad 0 1 mm = some mm2 := e2
      have no : ∀ u, 1 ≤ u → u < 8 → ¬ x = lN (cW (13 + u)) := fun u u1 u2 q => hall u u1 u2 ((w2 (13 + u) (by omega)).mp q).2
      obtain ⟨k0, k1, k2, k3, k4, k5, k6⟩ := kin_k
      have of0 : fX12_whatOf x = some (-1000000) := by
        unfold fX12_whatOf
        rw [k0, k1, k2, k3, k4, k5, k6, if_neg (no 1 (by decide) (by decide)), if_neg (no 2 (by decide) (by decide)), if_neg (no 3 (by decide) (by decide)), if_neg (no 4 (by decide) (by decide)), if_neg (no 5 (by decide) (by decide)), if_neg (no 6 (by decide) (by decide)), if_neg (no 7 (by decide) (by decide))]
      refine ⟨1, -1000000, mc2, mm2, f, x, -1000000, ?_, w1, of0, ?_, e3, e5, e6, fun q => absurd q e4, fun q => absurd g q⟩
      · simp only [Sum.elim_inr, fX5_takeKind_37, kc_s, eq_self, gp_tt, bnd_s, e1]
      · simp only [fX12_named, fX12_named_19, fX12_must, fX12_must_9, km_s, eq_self, gp_tt, g, if_true, e2, bnd_s, if_neg e4]
  · have gc := h.badc g
    have nd : fX12_named 0 (-1000000) mm = some (-1000000, mm) := by simp only [fX12_named, km_s, eq_self, gp_tt, if_neg g]
    have x0 := w3 g
    rcases Q with ⟨v, v1, v2, rfl, wn⟩ | ⟨rfl, hall⟩
    · obtain ⟨mc2, e1, e2, e3⟩ := h.advf hA g
      refine ⟨nI v, -1000000, mc2, mm, pNx B L f, x, -1000000, ?_, w1, by rw [x0]; exact kin_0, nd, e2, e3, rfl, fun q => absurd q g, fun _ => rfl⟩
      simp only [Sum.elim_inl, fX5_takeKind_22, kc_s, c3, eq_self, gp_tt, bnd_s, e1]
    · have fe : fX5_fail 4 1 mc = some mc := by rw [fail_e _ _ c3, if_neg gc]
      refine ⟨1, -1000000, mc, mm, f, x, -1000000, ?_, w1, by rw [x0]; exact kin_0, nd, h, fun _ _ _ => rfl, rfl, fun q => absurd q g, fun _ => rfl⟩
      simp only [Sum.elim_inr, fX5_takeKind_37, kc_s, eq_self, gp_tt, bnd_s, fe]
end
