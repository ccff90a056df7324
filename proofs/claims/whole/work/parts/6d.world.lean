theorem cwL : (7562593 : Int64) = lN (cW 0) ∧ (2003398244 : Int64) = lN (cW 1) ∧ (1818324580 : Int64) = lN (cW 10) ∧ (1936222576 : Int64) = lN (cW 11) ∧ (7168366 : Int64) = lN (cW 12) ∧ (1936287598 : Int64) = lN (cW 13) ∧ (495874699897 : Int64) = lN (cW 21) ∧ (119182682645875 : Int64) = lN (cW 22) ∧ (1650553459 : Int64) = lN (cW 23) := by decide +kernel
theorem loop_g {b1 : Int32 × Mem → Option ((Int32 × Mem) ⊕ Mem)} {b2 : Mem → Option (Mem ⊕ Mem)} {MAX : Nat} (hM : MAX ≤ 100) (Inv : Nat → Mem → Mem → Prop) (Fin : Mem → Mem → Prop) (step : ∀ i mc mm, i ≤ MAX → Inv i mc mm → (∃ mc2 mm2, i < MAX ∧ b1 (nI i, mc) = some (.inl (nI (i + 1), mc2)) ∧ b2 mm = some (.inl mm2) ∧ Inv (i + 1) mc2 mm2) ∨ (∃ e, b1 (nI i, mc) = some (.inr e) ∧ b2 mm = some (.inr mm) ∧ Fin e mm) ∨ (∃ e mm2, b1 (nI i, mc) = some (.inr e) ∧ b2 mm = some (.inl mm2) ∧ b2 mm2 = some (.inr mm2) ∧ Fin e mm2)) {mc mm : Mem} (h : Inv 0 mc mm) : ∃ e1 e2, iter b1 FU ((0 : Int32), mc) = some e1 ∧ iter b2 FU mm = some e2 ∧ Fin e1 e2 := by
  have key : ∀ N i mc mm, i ≤ MAX → Inv i mc mm → MAX - i + 2 < N → ∃ e1 e2, iter b1 N (nI i, mc) = some e1 ∧ iter b2 N mm = some e2 ∧ Fin e1 e2 := by
    intro N
    induction N with
    | zero => intro i mc mm _ _ q; omega
    | succ N ih =>
      intro i mc mm hi hI hN
      rcases step i mc mm hi hI with ⟨mc2, mm2, l, e1, e2, e3⟩ | ⟨e, e1, e2, e3⟩ | ⟨e, mm2, e1, e2, e3, e4⟩
      · obtain ⟨x1, x2, y1, y2, y3⟩ := ih (i + 1) mc2 mm2 (by omega) e3 (by omega)
        refine ⟨x1, x2, ?_, ?_, y3⟩
        · unfold iter; rw [e1]; exact y1
        · unfold iter; rw [e2]; exact y2
      · refine ⟨e, mm, ?_, ?_, e3⟩
        · unfold iter; rw [e1]
        · unfold iter; rw [e2]
      · refine ⟨e, mm2, ?_, ?_, e4⟩
        · unfold iter; rw [e1]
        · obtain ⟨K, rfl⟩ : ∃ K, N = K + 1 := ⟨N - 1, by omega⟩
          unfold iter; rw [e2]
          show iter b2 (K + 1) mm2 = some mm2
          unfold iter; rw [e3]
  exact key FU 0 mc mm (Nat.zero_le _) h (by have := FU_ge; omega)
/-- the numbers of a world that is being read, as far as no index goes astray -/
def SF (s : Nat) (m : Mem) : Prop := ∃ w h n a g t, w ≤ 16 ∧ h ≤ 8 ∧ n ≤ 4 ∧ a ≤ 10 ∧ g ≤ 10 ∧ t ≤ 6 ∧ m.1 (s + 1) 3 = nI w ∧ m.1 (s + 1) 4 = nI h ∧ m.1 (s + 1) 5 = nI n ∧ m.1 (s + 6) 2 = nI a ∧ m.1 (s + 9) 5 = nI g ∧ m.1 (s + 9) 6 = nI t
theorem SF.u {s : Nat} {m m2 : Mem} (hs : s = 15 ∨ s = 30) (h : SF s m) (h2 : UW m m2) : SF s m2 := by
  unfold SF at h ⊢
  rw [h2 (s + 1) (by omega) (by omega), h2 (s + 6) (by omega) (by omega), h2 (s + 9) (by omega) (by omega)]
  exact h
def gA (I : Nat → Nat → Int32) (s : Nat) (fr : Nat → Int32) : Prop := (I (s + 1) 3 = fr 6 ∧ I (s + 1) 4 = fr 7 ∧ I (s + 1) 5 = fr 0 ∧ I (s + 1) 6 = nI (so fr (sv fr 0))) ∧ (∀ j, j < sv fr 0 → I (s + 3) j = fr (12 + 2 * j) ∧ I (s + 4) j = fr (13 + 2 * j))
def gL (I : Nat → Nat → Int32) (s : Nat) (fr : Nat → Int32) : Prop := ∀ y, y < 8 → I (s + 2) y = nI (lr fr y 16)
def gC (I : Nat → Nat → Int32) (s : Nat) (fr : Nat → Int32) : Prop := I (s + 6) 2 = fr 3 ∧ ∀ j, j < sv fr 3 → I (s + 7) j = fr (20 + 2 * j) ∧ I (s + 8) j = fr (21 + 2 * j)
def gS (I : Nat → Nat → Int32) (s : Nat) (fr : Nat → Int32) : Prop := I (s + 9) 5 = fr 4 ∧ ∀ j, j < sv fr 4 → I (s + 10) j = fr (40 + 2 * j) ∧ I (s + 11) j = fr (41 + 2 * j)
def gT (I : Nat → Nat → Int32) (s : Nat) (fr : Nat → Int32) : Prop := ∀ j, j < sv fr 5 → I (s + 12) j = fr (61 + 3 * j) ∧ I (s + 13) j = fr (62 + 3 * j) ∧ I (s + 14) j = fr (60 + 3 * j)
def hA (fr : Nat → Int32) : Prop := ∀ j, j < sv fr 0 → 1 ≤ sv fr (13 + 2 * j)
def hL (fr : Nat → Int32) : Prop := ∀ x y, x < 16 → y < 8 → fr (78 + 16 * y + x) = 1 → x < sv fr 6 ∧ y < sv fr 7
def hC (fr : Nat → Int32) : Prop := ∀ j, j < sv fr 3 → 1 ≤ sv fr (20 + 2 * j) ∧ 1 ≤ sv fr (21 + 2 * j)
def hS (fr : Nat → Int32) : Prop := ∀ j, j < sv fr 4 → 1 ≤ sv fr (40 + 2 * j)
def hT (fr : Nat → Int32) : Prop := ∀ j, j < sv fr 5 → 1 ≤ sv fr (60 + 3 * j) ∧ sv fr (61 + 3 * j) < 2 ^ sv fr 4 ∧ sv fr (62 + 3 * j) < 2 ^ sv fr 4 ∧ sv fr (61 + 3 * j) &&& sv fr (62 + 3 * j) = 0
def HU (I : Nat → Nat → Int32) (s : Nat) (fr : Nat → Int32) : Prop := (I (s + 5) 0 = fr 8 ∧ I (s + 5) 1 = fr 9 ∧ I (s + 5) 2 = fr 11 ∧ I (s + 5) 3 = 0 ∧ I (s + 5) 4 = 0 ∧ I (s + 5) 5 = 0 ∧ I (s + 5) 6 = 0 ∧ I (s + 5) 7 = 0 ∧ I (s + 5) 8 = fr 10) ∧ 1 ≤ sv fr 11
/-- a world as far as it was read: sorts up to n -/
def GG (n : Nat) (I : Nat → Nat → Int32) (s : Nat) (fr : Nat → Int32) : Prop := (gA I s fr ∧ gL I s fr ∧ gC I s fr ∧ gS I s fr ∧ gT I s fr) ∧ SeaB fr ∧ (hA fr ∧ hL fr ∧ hC fr ∧ hS fr ∧ hT fr) ∧ (1 ≤ sv fr 6 ∧ 1 ≤ sv fr 7) ∧ (1 ≤ n → 1 ≤ sv fr 0) ∧ (3 ≤ n → HU I s fr) ∧ (∀ x, n < x → x < 6 → fr x = 0)
def GN (n : Nat) (I : Nat → Nat → Int32) (s : Nat) (fr : Nat → Int32) : Prop := GG n I s fr ∧ I (s + 9) 6 = fr 5
theorem sv_i {fr : Nat → Int32} {j k : Nat} (h : fr j = nI k) (hk : k < 2 ^ 31) : sv fr j = k := by
  unfold sv
  rw [h, nI_clamp hk]
theorem so_c {f g : Nat → Int32} : ∀ n, (∀ j, j < n → f (13 + 2 * j) = g (13 + 2 * j)) → so f n = so g n := by
  intro n
  induction n with
  | zero => intro _; rfl
  | succ n ih => intro h; rw [so_s, so_s, ih (fun j hj => h j (by omega)), sv_e (h n (by omega))]
theorem gA.c {I I2 : Nat → Nat → Int32} {s : Nat} {f g : Nat → Int32} (h : gA I s f) (hb : sv f 0 ≤ 4) (h1 : I2 (s + 1) = I (s + 1)) (h3 : I2 (s + 3) = I (s + 3)) (h4 : I2 (s + 4) = I (s + 4)) (hf : ∀ x, x = 0 ∨ x = 6 ∨ x = 7 ∨ (12 ≤ x ∧ x < 20) → g x = f x) : gA I2 s g := by
  unfold gA at h ⊢
  rw [h1, h3, h4, hf 6 (by omega), hf 7 (by omega), hf 0 (by omega), sv_e (hf 0 (by omega)), so_c (sv f 0) (fun j hj => hf _ (by omega))]
  exact ⟨h.1, fun j hj => by rw [hf _ (by omega), hf _ (by omega)]; exact h.2 j hj⟩
theorem lr_c {f g : Nat → Int32} {y : Nat} (hf : ∀ x, x < 16 → g (78 + 16 * y + x) = f (78 + 16 * y + x)) : ∀ n, n ≤ 16 → lr g y n = lr f y n := by
  intro n
  induction n with
  | zero => intro _; rfl
  | succ n ih => intro hn; rw [lr_s, lr_s, ih (by omega), hf n (by omega)]
theorem gL.c {I I2 : Nat → Nat → Int32} {s : Nat} {f g : Nat → Int32} (h : gL I s f) (h2 : I2 (s + 2) = I (s + 2)) (hf : ∀ x, 78 ≤ x → x < 206 → g x = f x) : gL I2 s g := by
  intro y hy
  rw [h2, lr_c (fun x hx => hf _ (by omega) (by omega)) 16 (Nat.le_refl _)]
  exact h y hy
theorem gC.c {I I2 : Nat → Nat → Int32} {s : Nat} {f g : Nat → Int32} (h : gC I s f) (hb : sv f 3 ≤ 10) (h6 : I2 (s + 6) = I (s + 6)) (h7 : I2 (s + 7) = I (s + 7)) (h8 : I2 (s + 8) = I (s + 8)) (hf : ∀ x, x = 3 ∨ (20 ≤ x ∧ x < 40) → g x = f x) : gC I2 s g := by
  unfold gC at h ⊢
  rw [h6, h7, h8, hf 3 (by omega), sv_e (hf 3 (by omega))]
  exact ⟨h.1, fun j hj => by rw [hf _ (by omega), hf _ (by omega)]; exact h.2 j hj⟩
theorem gS.c {I I2 : Nat → Nat → Int32} {s : Nat} {f g : Nat → Int32} (h : gS I s f) (hb : sv f 4 ≤ 10) (h9 : I2 (s + 9) 5 = I (s + 9) 5) (h10 : I2 (s + 10) = I (s + 10)) (h11 : I2 (s + 11) = I (s + 11)) (hf : ∀ x, x = 4 ∨ (40 ≤ x ∧ x < 60) → g x = f x) : gS I2 s g := by
  unfold gS at h ⊢
  rw [h9, h10, h11, hf 4 (by omega), sv_e (hf 4 (by omega))]
  exact ⟨h.1, fun j hj => by rw [hf _ (by omega), hf _ (by omega)]; exact h.2 j hj⟩
theorem gT.c {I I2 : Nat → Nat → Int32} {s : Nat} {f g : Nat → Int32} (h : gT I s f) (hb : sv f 5 ≤ 6) (h12 : ∀ j, j < sv f 5 → I2 (s + 12) j = I (s + 12) j ∧ I2 (s + 13) j = I (s + 13) j ∧ I2 (s + 14) j = I (s + 14) j) (hf : ∀ x, x = 5 ∨ (60 ≤ x ∧ x < 78) → g x = f x) : gT I2 s g := by
  intro j hj
  rw [sv_e (hf 5 (by omega))] at hj
  obtain ⟨q1, q2, q3⟩ := h12 j hj
  rw [q1, q2, q3, hf _ (by omega), hf _ (by omega), hf _ (by omega)]
  exact h j hj
theorem hA.c {f g : Nat → Int32} (h : hA f) (hb : sv f 0 ≤ 4) (hf : ∀ x, x = 0 ∨ (12 ≤ x ∧ x < 20) → g x = f x) : hA g := by
  intro j hj
  rw [sv_e (hf 0 (by omega))] at hj
  rw [sv_e (hf _ (by omega))]
  exact h j hj
theorem hL.c {f g : Nat → Int32} (h : hL f) (hf : ∀ x, x = 6 ∨ x = 7 ∨ (78 ≤ x ∧ x < 206) → g x = f x) : hL g := by
  intro x y hx hy
  rw [hf _ (by omega), sv_e (hf 6 (by omega)), sv_e (hf 7 (by omega))]
  exact h x y hx hy
theorem hC.c {f g : Nat → Int32} (h : hC f) (hb : sv f 3 ≤ 10) (hf : ∀ x, x = 3 ∨ (20 ≤ x ∧ x < 40) → g x = f x) : hC g := by
  intro j hj
  rw [sv_e (hf 3 (by omega))] at hj
  rw [sv_e (hf (20 + 2 * j) (by omega)), sv_e (hf (21 + 2 * j) (by omega))]
  exact h j hj
theorem hS.c {f g : Nat → Int32} (h : hS f) (hb : sv f 4 ≤ 10) (hf : ∀ x, x = 4 ∨ (40 ≤ x ∧ x < 60) → g x = f x) : hS g := by
  intro j hj
  rw [sv_e (hf 4 (by omega))] at hj
  rw [sv_e (hf _ (by omega))]
  exact h j hj
theorem hT.c {f g : Nat → Int32} (h : hT f) (hb : sv f 5 ≤ 6) (hf : ∀ x, x = 4 ∨ x = 5 ∨ (60 ≤ x ∧ x < 78) → g x = f x) : hT g := by
  intro j hj
  rw [sv_e (hf 5 (by omega))] at hj
  rw [sv_e (hf (60 + 3 * j) (by omega)), sv_e (hf (61 + 3 * j) (by omega)), sv_e (hf (62 + 3 * j) (by omega)), sv_e (hf 4 (by omega))]
  exact h j hj
theorem HU.c {I I2 : Nat → Nat → Int32} {s : Nat} {f g : Nat → Int32} (h : HU I s f) (h5 : I2 (s + 5) = I (s + 5)) (hf : ∀ x, 8 ≤ x ∧ x < 12 → g x = f x) : HU I2 s g := by
  unfold HU at h ⊢
  rw [h5, hf 8 (by omega), hf 9 (by omega), hf 10 (by omega), hf 11 (by omega), sv_e (hf 11 (by omega))]
  exact h
theorem SeaB.b {f : Nat → Int32} (h : SeaB f) : sv f 0 ≤ 4 ∧ sv f 1 ≤ 12 ∧ sv f 3 ≤ 10 ∧ sv f 4 ≤ 10 ∧ sv f 5 ≤ 6 ∧ sv f 6 ≤ 16 ∧ sv f 7 ≤ 8 := ⟨(sea_nI h (j := 0) (by decide)).2, (sea_nI h (j := 1) (by decide)).2, (sea_nI h (j := 3) (by decide)).2, (sea_nI h (j := 4) (by decide)).2, (sea_nI h (j := 5) (by decide)).2, (sea_nI h (j := 6) (by decide)).2, (sea_nI h (j := 7) (by decide)).2⟩
theorem GG.u {n s : Nat} {I I2 : Nat → Nat → Int32} {fr : Nat → Int32} (h : GG n I s fr) (h1 : ∀ a, s ≤ a → a ≤ s + 14 → I2 a = I a) : GG n I2 s fr := by
  obtain ⟨⟨a1, a2, a3, a4, a5⟩, b, c, d, e, f, g⟩ := h
  obtain ⟨b0, b1, b3, b4, b5, b6, b7⟩ := b.b
  have k : ∀ x, x ≤ 14 → I2 (s + x) = I (s + x) := fun x hx => h1 _ (by omega) (by omega)
  exact ⟨⟨a1.c b0 (k 1 (by decide)) (k 3 (by decide)) (k 4 (by decide)) (fun _ _ => rfl), a2.c (k 2 (by decide)) (fun _ _ _ => rfl), a3.c b3 (k 6 (by decide)) (k 7 (by decide)) (k 8 (by decide)) (fun _ _ => rfl), a4.c b4 (by rw [k 9 (by decide)]) (k 10 (by decide)) (k 11 (by decide)) (fun _ _ => rfl), a5.c b5 (fun j hj => by rw [k 12 (by decide), k 13 (by decide), k 14 (by decide)]; exact ⟨rfl, rfl, rfl⟩) (fun _ _ => rfl)⟩, b, c, d, e, fun q => (f q).c (k 5 (by decide)) (fun _ _ => rfl), g⟩
theorem GN.u {n s : Nat} {m m2 : Mem} {fr : Nat → Int32} (hs : s = 15 ∨ s = 30) (h : GN n m.1 s fr) (h2 : UW m m2) : GN n m2.1 s fr := ⟨h.1.u (fun a q _ => h2 a (by omega) (by omega)), by rw [h2 (s + 9) (by omega) (by omega)]; exact h.2⟩
theorem adW_e {s n w : Nat} {d : Bool} {m : Mem} (hC : RCok m w s d) (hb : WI s) (hn : m.1 (s + 1) 5 = nI n) (hM : n < 4) (v1 v2 : Int32) : fX9_addWind (s + 1) v1 v2 m = some (uI (uI (uI (uI m (s + 3) n v1) (s + 4) n v2) (s + 1) 5 (nI (n + 1))) (s + 1) 6 (m.1 (s + 1) 6 + v2)) := by
  have u1 : ∀ x, (uI m (s + 3) n x).1 (s + 1) 5 = nI n := fun x => by rw [uI_o (by omega)]; exact hn
  have u2 : ∀ x y, (uI (uI m (s + 3) n x) (s + 4) n y).1 (s + 1) 5 = nI n := fun x y => by rw [uI_o (by omega), uI_o (by omega)]; exact hn
  have u3 : ∀ x y z, (uI (uI (uI m (s + 3) n x) (s + 4) n y) (s + 1) 5 z).1 (s + 1) 6 = m.1 (s + 1) 6 := fun x y z => by rw [uI_1, if_neg (by simp), uI_o (by omega), uI_o (by omega)]
  simp only [fX9_addWind, kc_w hb, rc_w hC hb, nc_w hb, hn, if_neg (show ¬ (4 : Int32) ≤ nI n from nI_ge (b := 4) hM (by decide)), eq_self, gp_tt, bnd_s, lt1_e, uI_2, inb_nI hM (by decide), nI_clamp (show n < 2 ^ 31 by omega), u1, u2, u3, nI_1]
theorem adW_x {s n : Nat} {m : Mem} (hb : WI s) (hn : m.1 (s + 1) 5 = nI n) (hM : 4 ≤ n) (hn2 : n ≤ 100) (v1 v2 : Int32) : fX9_addWind (s + 1) v1 v2 m = some m := by
  simp only [fX9_addWind, kc_w hb, hn, if_pos (show (4 : Int32) ≤ nI n from nI_le (a := 4) hM (by omega)), eq_self, gp_tt]
theorem adW_s {s w : Nat} {d : Bool} {m : Mem} (hC : RCok m w s d) (hb : WI s) (hS : SF s m) (v1 v2 : Int32) : ∃ m2, fX9_addWind (s + 1) v1 v2 m = some m2 ∧ m2.2 = m.2 ∧ (∀ a, ¬ (s ≤ a ∧ a ≤ s + 14) → m2.1 a = m.1 a) ∧ SF s m2 := by
  obtain ⟨w', h, n, a, g, t, l1, l2, l3, l4, l5, l6, e1, e2, e3, e4, e5, e6⟩ := id hS
  rcases Nat.lt_or_ge n 4 with c | c
  · rw [adW_e hC hb e3 c]
    refine ⟨_, rfl, rfl, fun x hx => ?_, w', h, n + 1, a, g, t, l1, l2, by omega, l4, l5, l6, ?_, ?_, ?_, ?_, ?_, ?_⟩
    · rw [uI_o (by omega), uI_o (by omega), uI_o (by omega), uI_o (by omega)]
    · rw [uI_1, if_neg (by simp), uI_1, if_neg (by simp), uI_o (by omega), uI_o (by omega)]; exact e1
    · rw [uI_1, if_neg (by simp), uI_1, if_neg (by simp), uI_o (by omega), uI_o (by omega)]; exact e2
    · rw [uI_1, if_neg (by simp), uI_1, if_pos ⟨rfl, rfl⟩]
    · rw [uI_o (by omega), uI_o (by omega), uI_o (by omega), uI_o (by omega)]; exact e4
    · rw [uI_o (by omega), uI_o (by omega), uI_o (by omega), uI_o (by omega)]; exact e5
    · rw [uI_o (by omega), uI_o (by omega), uI_o (by omega), uI_o (by omega)]; exact e6
  · rw [adW_x hb e3 c (by omega)]
    exact ⟨m, rfl, rfl, fun _ _ => rfl, hS⟩
theorem adM_e {s n w : Nat} {d : Bool} {m : Mem} (hC : RCok m w s d) (hb : WI s) (hn : m.1 (s + 6) 2 = nI n) (hM : n < 10) (v1 v2 : Int32) : fX2_add (s + 6) v1 v2 m = some (uI (uI (uI m (s + 7) n v1) (s + 8) n v2) (s + 6) 2 (nI (n + 1))) := by
  have u1 : ∀ x, (uI m (s + 7) n x).1 (s + 6) 2 = nI n := fun x => by rw [uI_o (by omega)]; exact hn
  have u2 : ∀ x y, (uI (uI m (s + 7) n x) (s + 8) n y).1 (s + 6) 2 = nI n := fun x y => by rw [uI_o (by omega), uI_o (by omega)]; exact hn
  skip
  simp only [fX2_add, kc_w hb, rc_w hC hb, nc_w hb, hn, if_neg (show ¬ (10 : Int32) ≤ nI n from nI_ge (b := 10) hM (by decide)), eq_self, gp_tt, bnd_s, lt1_e, uI_2, inb_nI hM (by decide), nI_clamp (show n < 2 ^ 31 by omega), u1, u2, nI_1]
theorem adM_x {s n : Nat} {m : Mem} (hb : WI s) (hn : m.1 (s + 6) 2 = nI n) (hM : 10 ≤ n) (hn2 : n ≤ 100) (v1 v2 : Int32) : fX2_add (s + 6) v1 v2 m = some m := by
  simp only [fX2_add, kc_w hb, hn, if_pos (show (10 : Int32) ≤ nI n from nI_le (a := 10) hM (by omega)), eq_self, gp_tt]
theorem adM_s {s w : Nat} {d : Bool} {m : Mem} (hC : RCok m w s d) (hb : WI s) (hS : SF s m) (v1 v2 : Int32) : ∃ m2, fX2_add (s + 6) v1 v2 m = some m2 ∧ m2.2 = m.2 ∧ (∀ a, ¬ (s ≤ a ∧ a ≤ s + 14) → m2.1 a = m.1 a) ∧ SF s m2 := by
  obtain ⟨w', h, n, a, g, t, l1, l2, l3, l4, l5, l6, e1, e2, e3, e4, e5, e6⟩ := id hS
  rcases Nat.lt_or_ge a 10 with c | c
  · rw [adM_e hC hb e4 c]
    refine ⟨_, rfl, rfl, fun x hx => ?_, w', h, n, a + 1, g, t, l1, l2, l3, by omega, l5, l6, ?_, ?_, ?_, ?_, ?_, ?_⟩
    · rw [uI_o (by omega), uI_o (by omega), uI_o (by omega)]
    · rw [uI_o (by omega), uI_o (by omega), uI_o (by omega)]; exact e1
    · rw [uI_o (by omega), uI_o (by omega), uI_o (by omega)]; exact e2
    · rw [uI_o (by omega), uI_o (by omega), uI_o (by omega)]; exact e3
    · rw [uI_1, if_pos ⟨rfl, rfl⟩]
    · rw [uI_o (by omega), uI_o (by omega), uI_o (by omega)]; exact e5
    · rw [uI_o (by omega), uI_o (by omega), uI_o (by omega)]; exact e6
  · rw [adM_x hb e4 c (by omega)]
    exact ⟨m, rfl, rfl, fun _ _ => rfl, hS⟩
theorem adS_e {s n w : Nat} {d : Bool} {m : Mem} (hC : RCok m w s d) (hb : WI s) (hn : m.1 (s + 9) 5 = nI n) (hM : n < 10) (v1 v2 : Int32) : fX1_addSign (s + 9) v1 v2 m = some (uI (uI (uI m (s + 10) n v1) (s + 11) n v2) (s + 9) 5 (nI (n + 1))) := by
  have u1 : ∀ x, (uI m (s + 10) n x).1 (s + 9) 5 = nI n := fun x => by rw [uI_o (by omega)]; exact hn
  have u2 : ∀ x y, (uI (uI m (s + 10) n x) (s + 11) n y).1 (s + 9) 5 = nI n := fun x y => by rw [uI_o (by omega), uI_o (by omega)]; exact hn
  skip
  simp only [fX1_addSign, kc_w hb, rc_w hC hb, nc_w hb, hn, if_neg (show ¬ (10 : Int32) ≤ nI n from nI_ge (b := 10) hM (by decide)), eq_self, gp_tt, bnd_s, lt1_e, uI_2, inb_nI hM (by decide), nI_clamp (show n < 2 ^ 31 by omega), u1, u2, nI_1]
theorem adS_x {s n : Nat} {m : Mem} (hb : WI s) (hn : m.1 (s + 9) 5 = nI n) (hM : 10 ≤ n) (hn2 : n ≤ 100) (v1 v2 : Int32) : fX1_addSign (s + 9) v1 v2 m = some m := by
  simp only [fX1_addSign, kc_w hb, hn, if_pos (show (10 : Int32) ≤ nI n from nI_le (a := 10) hM (by omega)), eq_self, gp_tt]
theorem adS_s {s w : Nat} {d : Bool} {m : Mem} (hC : RCok m w s d) (hb : WI s) (hS : SF s m) (v1 v2 : Int32) : ∃ m2, fX1_addSign (s + 9) v1 v2 m = some m2 ∧ m2.2 = m.2 ∧ (∀ a, ¬ (s ≤ a ∧ a ≤ s + 14) → m2.1 a = m.1 a) ∧ SF s m2 := by
  obtain ⟨w', h, n, a, g, t, l1, l2, l3, l4, l5, l6, e1, e2, e3, e4, e5, e6⟩ := id hS
  rcases Nat.lt_or_ge g 10 with c | c
  · rw [adS_e hC hb e5 c]
    refine ⟨_, rfl, rfl, fun x hx => ?_, w', h, n, a, g + 1, t, l1, l2, l3, l4, by omega, l6, ?_, ?_, ?_, ?_, ?_, ?_⟩
    · rw [uI_o (by omega), uI_o (by omega), uI_o (by omega)]
    · rw [uI_o (by omega), uI_o (by omega), uI_o (by omega)]; exact e1
    · rw [uI_o (by omega), uI_o (by omega), uI_o (by omega)]; exact e2
    · rw [uI_o (by omega), uI_o (by omega), uI_o (by omega)]; exact e3
    · rw [uI_o (by omega), uI_o (by omega), uI_o (by omega)]; exact e4
    · rw [uI_1, if_pos ⟨rfl, rfl⟩]
    · rw [uI_1, if_neg (by simp), uI_o (by omega), uI_o (by omega)]; exact e6
  · rw [adS_x hb e5 c (by omega)]
    exact ⟨m, rfl, rfl, fun _ _ => rfl, hS⟩
theorem SeaB.up {f g : Nat → Int32} (h : SeaB f) (P : Nat → Prop) (h1 : ∀ x, x < 206 → ¬ P x → g x = f x) (h2 : ∀ x, x < 206 → P x → ∃ k, k ≤ sbL.getD x 0 ∧ g x = nI k) : SeaB g := by
  intro j hj
  by_cases q : P j
  · exact h2 j hj q
  · rw [h1 j hj q]; exact h j hj
theorem sb_2 : ∀ i, i < 10 → (i < 4 → sbL.getD (12 + 2 * i) 0 = 7 ∧ sbL.getD (13 + 2 * i) 0 = 9) ∧ sbL.getD (20 + 2 * i) 0 = 200 ∧ sbL.getD (21 + 2 * i) 0 = 50 ∧ sbL.getD (40 + 2 * i) 0 = 7 ∧ sbL.getD (41 + 2 * i) 0 = 9 := by decide +kernel
theorem sb_0 : sbL.getD 0 0 = 4 ∧ sbL.getD 1 0 = 12 ∧ sbL.getD 2 0 = 1 ∧ sbL.getD 3 0 = 10 ∧ sbL.getD 4 0 = 10 ∧ sbL.getD 5 0 = 6 ∧ sbL.getD 6 0 = 16 ∧ sbL.getD 7 0 = 8 ∧ sbL.getD 8 0 = 7 ∧ sbL.getD 9 0 = 20 ∧ sbL.getD 10 0 = 40 ∧ sbL.getD 11 0 = 200 := by decide +kernel
theorem wiU_g {s i a b : Nat} {I I2 : Nat → Nat → Int32} {f g : Nat → Int32} (h : GN 0 I s f) (hf : f 0 = nI i) (hi : i < 4) (ha : 0 ≤ a ∧ a ≤ 7) (hb : 1 ≤ b ∧ b ≤ 9) (g0 : g 0 = nI (i + 1)) (g1 : g (12 + 2 * i) = nI a) (g2 : g (13 + 2 * i) = nI b) (g3 : ∀ x, x ≠ 0 → x ≠ 12 + 2 * i → x ≠ 13 + 2 * i → g x = f x) (i0 : I2 (s + 1) 5 = nI (i + 1)) (i6 : I2 (s + 1) 6 = I (s + 1) 6 + nI b) (i1 : ∀ j, I2 (s + 3) j = if j = i then nI a else I (s + 3) j) (i2 : ∀ j, I2 (s + 4) j = if j = i then nI b else I (s + 4) j) (i3 : ∀ c, c ≠ 1 → c ≠ 3 → c ≠ 4 → I2 (s + c) = I (s + c)) (i4 : ∀ j, j ≠ 5 → j ≠ 6 → I2 (s + 1) j = I (s + 1) j) : GN 0 I2 s g ∧ g 0 = nI (i + 1) := by
  obtain ⟨⟨⟨a1, a2, a3, a4, a5⟩, bb, ⟨c1, c2, c3, c4, c5⟩, dd, ee, ff, gg⟩, nn⟩ := h
  obtain ⟨b0, b1, b3, b4, b5, b6, b7⟩ := bb.b
  have fi : sv f 0 = i := sv_i hf (by omega)
  have gi : sv g 0 = i + 1 := sv_i g0 (by omega)
  have s2 := sb_2 i (by omega)
  have B2 : SeaB g := bb.up (fun x => x = 0 ∨ x = 12 + 2 * i ∨ x = 13 + 2 * i) (fun x hx q => g3 x (fun z => q (Or.inl z)) (fun z => q (Or.inr (Or.inl z))) (fun z => q (Or.inr (Or.inr z)))) (fun x hx q => by
    rcases q with rfl | rfl | rfl
    · exact ⟨i + 1, by have := sb_0; omega, g0⟩
    · exact ⟨a, by have := s2.1 hi; omega, g1⟩
    · exact ⟨b, by have := s2.1 hi; omega, g2⟩)
  have o : ∀ x, (x < 12 ∨ 20 ≤ x) → x ≠ 0 → g x = f x := fun x hx hn => g3 x hn (by omega) (by omega)
  refine ⟨⟨⟨⟨?_, a2.c (i3 2 (by decide) (by decide) (by decide)) (fun x h1 h2 => o x (by omega) (by omega)), a3.c b3 (i3 6 (by decide) (by decide) (by decide)) (i3 7 (by decide) (by decide) (by decide)) (i3 8 (by decide) (by decide) (by decide)) (fun x hx => o x (by omega) (by omega)), a4.c b4 (by rw [i3 9 (by decide) (by decide) (by decide)]) (i3 10 (by decide) (by decide) (by decide)) (i3 11 (by decide) (by decide) (by decide)) (fun x hx => o x (by omega) (by omega)), a5.c b5 (fun j hj => by rw [i3 12 (by decide) (by decide) (by decide), i3 13 (by decide) (by decide) (by decide), i3 14 (by decide) (by decide) (by decide)]; exact ⟨rfl, rfl, rfl⟩) (fun x hx => o x (by omega) (by omega))⟩, B2, ⟨?_, c2.c (fun x hx => o x (by omega) (by omega)), c3.c b3 (fun x hx => o x (by omega) (by omega)), c4.c b4 (fun x hx => o x (by omega) (by omega)), c5.c b5 (fun x hx => o x (by omega) (by omega))⟩, ⟨by rw [sv_e (o 6 (by omega) (by decide))]; exact dd.1, by rw [sv_e (o 7 (by omega) (by decide))]; exact dd.2⟩, fun q => absurd q (by decide), fun q => absurd q (by decide), fun x h1 h2 => by rw [o x (by omega) (by omega)]; exact gg x h1 h2⟩, by rw [i3 9 (by decide) (by decide) (by decide), o 5 (by omega) (by decide)]; exact nn⟩, g0⟩
  · unfold gA
    rw [gi]
    obtain ⟨⟨q3, q4, q5, q6⟩, q7⟩ := a1
    rw [fi] at q6 q7
    refine ⟨⟨by rw [i4 3 (by decide) (by decide), q3, o 6 (by omega) (by decide)], by rw [i4 4 (by decide) (by decide), q4, o 7 (by omega) (by decide)], by rw [i0, g0], ?_⟩, fun j hj => ?_⟩
    · rw [i6, q6, nI_add, so_s, so_c i (fun j hj => g3 (13 + 2 * j) (by omega) (by omega) (by omega)), sv_i g2 (by omega)]
    · rw [i1, i2]
      by_cases z : j = i
      · subst z
        rw [if_pos rfl, if_pos rfl, g1, g2]; exact ⟨rfl, rfl⟩
      · rw [if_neg z, if_neg z, g3 _ (by omega) (by omega) (by omega), g3 _ (by omega) (by omega) (by omega)]; exact q7 j (by omega)
  · intro j hj
    rw [gi] at hj
    by_cases z : j = i
    · subst z
      rw [sv_i g2 (by omega)]; omega
    · rw [sv_e (g3 (13 + 2 * j) (by omega) (by omega) (by omega))]; exact c1 j (by omega)
theorem maU_g {s i a b : Nat} {I I2 : Nat → Nat → Int32} {f g : Nat → Int32} (h : GN 3 I s f) (hf : f 3 = nI i) (hi : i < 10) (ha : 1 ≤ a ∧ a ≤ 200) (hb : 1 ≤ b ∧ b ≤ 50) (g0 : g 3 = nI (i + 1)) (g1 : g (20 + 2 * i) = nI a) (g2 : g (21 + 2 * i) = nI b) (g3 : ∀ x, x ≠ 3 → x ≠ 20 + 2 * i → x ≠ 21 + 2 * i → g x = f x) (i0 : I2 (s + 6) 2 = nI (i + 1)) (i1 : ∀ j, I2 (s + 7) j = if j = i then nI a else I (s + 7) j) (i2 : ∀ j, I2 (s + 8) j = if j = i then nI b else I (s + 8) j) (i3 : ∀ c, c ≠ 6 → c ≠ 7 → c ≠ 8 → I2 (s + c) = I (s + c)) (i4 : ∀ j, j ≠ 2 → I2 (s + 6) j = I (s + 6) j) : GN 3 I2 s g ∧ g 3 = nI (i + 1) := by
  obtain ⟨⟨⟨a1, a2, a3, a4, a5⟩, bb, ⟨c1, c2, c3, c4, c5⟩, dd, ee, ff, gg⟩, nn⟩ := h
  obtain ⟨b0, b1, b3, b4, b5, b6, b7⟩ := bb.b
  have fi : sv f 3 = i := sv_i hf (by omega)
  have gi : sv g 3 = i + 1 := sv_i g0 (by omega)
  have s2 := sb_2 i (by omega)
  have B2 : SeaB g := bb.up (fun x => x = 3 ∨ x = 20 + 2 * i ∨ x = 21 + 2 * i) (fun x hx q => g3 x (fun z => q (Or.inl z)) (fun z => q (Or.inr (Or.inl z))) (fun z => q (Or.inr (Or.inr z)))) (fun x hx q => by
    rcases q with rfl | rfl | rfl
    · exact ⟨i + 1, by have := sb_0; omega, g0⟩
    · exact ⟨a, by have := s2; omega, g1⟩
    · exact ⟨b, by have := s2; omega, g2⟩)
  have o : ∀ x, (x < 20 ∨ 40 ≤ x) → x ≠ 3 → g x = f x := fun x hx hn => g3 x hn (by omega) (by omega)
  refine ⟨⟨⟨⟨a1.c b0 (i3 1 (by decide) (by decide) (by decide)) (i3 3 (by decide) (by decide) (by decide)) (i3 4 (by decide) (by decide) (by decide)) (fun x hx => o x (by omega) (by omega)), a2.c (i3 2 (by decide) (by decide) (by decide)) (fun x h1 h2 => o x (by omega) (by omega)), ?_, a4.c b4 (by rw [i3 9 (by decide) (by decide) (by decide)]) (i3 10 (by decide) (by decide) (by decide)) (i3 11 (by decide) (by decide) (by decide)) (fun x hx => o x (by omega) (by omega)), a5.c b5 (fun j hj => by rw [i3 12 (by decide) (by decide) (by decide), i3 13 (by decide) (by decide) (by decide), i3 14 (by decide) (by decide) (by decide)]; exact ⟨rfl, rfl, rfl⟩) (fun x hx => o x (by omega) (by omega))⟩, B2, ⟨c1.c b0 (fun x hx => o x (by omega) (by omega)), c2.c (fun x hx => o x (by omega) (by omega)), ?_, c4.c b4 (fun x hx => o x (by omega) (by omega)), c5.c b5 (fun x hx => o x (by omega) (by omega))⟩, ⟨by rw [sv_e (o 6 (by omega) (by decide))]; exact dd.1, by rw [sv_e (o 7 (by omega) (by decide))]; exact dd.2⟩, fun q => by rw [sv_e (o 0 (by omega) (by decide))]; exact ee q, fun q => (ff q).c (i3 5 (by decide) (by decide) (by decide)) (fun x hx => o x (by omega) (by omega)), fun x h1 h2 => by rw [o x (by omega) (by omega)]; exact gg x h1 h2⟩, by rw [i3 9 (by decide) (by decide) (by decide), o 5 (by omega) (by decide)]; exact nn⟩, g0⟩
  · unfold gC
    rw [gi]
    obtain ⟨q5, q7⟩ := a3
    rw [fi] at q7
    refine ⟨by rw [i0, g0], fun j hj => ?_⟩
    rw [i1, i2]
    by_cases z : j = i
    · subst z
      rw [if_pos rfl, if_pos rfl, g1, g2]; exact ⟨rfl, rfl⟩
    · rw [if_neg z, if_neg z, g3 _ (by omega) (by omega) (by omega), g3 _ (by omega) (by omega) (by omega)]; exact q7 j (by omega)
  · intro j hj
    rw [gi] at hj
    by_cases z : j = i
    · subst z
      rw [sv_i g1 (by omega), sv_i g2 (by omega)]; omega
    · rw [sv_e (g3 (20 + 2 * j) (by omega) (by omega) (by omega)), sv_e (g3 (21 + 2 * j) (by omega) (by omega) (by omega))]; exact c3 j (by omega)
theorem siU_g {s i a b : Nat} {I I2 : Nat → Nat → Int32} {f g : Nat → Int32} (h : GN 4 I s f) (hf : f 4 = nI i) (hi : i < 10) (ha : 1 ≤ a ∧ a ≤ 7) (hb : 0 ≤ b ∧ b ≤ 9) (g0 : g 4 = nI (i + 1)) (g1 : g (40 + 2 * i) = nI a) (g2 : g (41 + 2 * i) = nI b) (g3 : ∀ x, x ≠ 4 → x ≠ 40 + 2 * i → x ≠ 41 + 2 * i → g x = f x) (i0 : I2 (s + 9) 5 = nI (i + 1)) (i1 : ∀ j, I2 (s + 10) j = if j = i then nI a else I (s + 10) j) (i2 : ∀ j, I2 (s + 11) j = if j = i then nI b else I (s + 11) j) (i3 : ∀ c, c ≠ 9 → c ≠ 10 → c ≠ 11 → I2 (s + c) = I (s + c)) (i4 : ∀ j, j ≠ 5 → I2 (s + 9) j = I (s + 9) j) : GN 4 I2 s g ∧ g 4 = nI (i + 1) := by
  obtain ⟨⟨⟨a1, a2, a3, a4, a5⟩, bb, ⟨c1, c2, c3, c4, c5⟩, dd, ee, ff, gg⟩, nn⟩ := h
  obtain ⟨b0, b1, b3, b4, b5, b6, b7⟩ := bb.b
  have fi : sv f 4 = i := sv_i hf (by omega)
  have gi : sv g 4 = i + 1 := sv_i g0 (by omega)
  have s2 := sb_2 i (by omega)
  have B2 : SeaB g := bb.up (fun x => x = 4 ∨ x = 40 + 2 * i ∨ x = 41 + 2 * i) (fun x hx q => g3 x (fun z => q (Or.inl z)) (fun z => q (Or.inr (Or.inl z))) (fun z => q (Or.inr (Or.inr z)))) (fun x hx q => by
    rcases q with rfl | rfl | rfl
    · exact ⟨i + 1, by have := sb_0; omega, g0⟩
    · exact ⟨a, by have := s2; omega, g1⟩
    · exact ⟨b, by have := s2; omega, g2⟩)
  have o : ∀ x, (x < 40 ∨ 60 ≤ x) → x ≠ 4 → g x = f x := fun x hx hn => g3 x hn (by omega) (by omega)
  refine ⟨⟨⟨⟨a1.c b0 (i3 1 (by decide) (by decide) (by decide)) (i3 3 (by decide) (by decide) (by decide)) (i3 4 (by decide) (by decide) (by decide)) (fun x hx => o x (by omega) (by omega)), a2.c (i3 2 (by decide) (by decide) (by decide)) (fun x h1 h2 => o x (by omega) (by omega)), a3.c b3 (i3 6 (by decide) (by decide) (by decide)) (i3 7 (by decide) (by decide) (by decide)) (i3 8 (by decide) (by decide) (by decide)) (fun x hx => o x (by omega) (by omega)), ?_, a5.c b5 (fun j hj => by rw [i3 12 (by decide) (by decide) (by decide), i3 13 (by decide) (by decide) (by decide), i3 14 (by decide) (by decide) (by decide)]; exact ⟨rfl, rfl, rfl⟩) (fun x hx => o x (by omega) (by omega))⟩, B2, ⟨c1.c b0 (fun x hx => o x (by omega) (by omega)), c2.c (fun x hx => o x (by omega) (by omega)), c3.c b3 (fun x hx => o x (by omega) (by omega)), ?_, ?_⟩, ⟨by rw [sv_e (o 6 (by omega) (by decide))]; exact dd.1, by rw [sv_e (o 7 (by omega) (by decide))]; exact dd.2⟩, fun q => by rw [sv_e (o 0 (by omega) (by decide))]; exact ee q, fun q => (ff q).c (i3 5 (by decide) (by decide) (by decide)) (fun x hx => o x (by omega) (by omega)), fun x h1 h2 => by rw [o x (by omega) (by omega)]; exact gg x h1 h2⟩, by rw [i4 6 (by decide), o 5 (by omega) (by decide)]; exact nn⟩, g0⟩
  · unfold gS
    rw [gi]
    obtain ⟨q5, q7⟩ := a4
    rw [fi] at q7
    refine ⟨by rw [i0, g0], fun j hj => ?_⟩
    rw [i1, i2]
    by_cases z : j = i
    · subst z
      rw [if_pos rfl, if_pos rfl, g1, g2]; exact ⟨rfl, rfl⟩
    · rw [if_neg z, if_neg z, g3 _ (by omega) (by omega) (by omega), g3 _ (by omega) (by omega) (by omega)]; exact q7 j (by omega)
  · intro j hj
    rw [gi] at hj
    by_cases z : j = i
    · subst z
      rw [sv_i g1 (by omega)]; omega
    · rw [sv_e (g3 (40 + 2 * j) (by omega) (by omega) (by omega))]; exact c4 j (by omega)
  · intro j hj
    rw [sv_i (show g 5 = nI 0 by rw [o 5 (by omega) (by decide)]; exact gg 5 (by decide) (by decide)) (by decide)] at hj
    omega
