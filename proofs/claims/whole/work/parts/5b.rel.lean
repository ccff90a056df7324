/-! how the class's memory and the reference's hang together -/
def sbL : List Nat := [4, 12, 1, 10, 10, 6, 16, 8, 7, 20, 40, 200, 7, 9, 7, 9, 7, 9, 7, 9] ++ (List.replicate 10 [200, 50]).flatten ++ (List.replicate 10 [7, 9]).flatten ++ (List.replicate 6 [9, 1023, 1023]).flatten ++ List.replicate 128 1
def sv (sea : Nat → Int32) (j : Nat) : Nat := (sea j).toNatClampNeg
def SeaB (sea : Nat → Int32) : Prop := ∀ j, j < 206 → ∃ k, k ≤ sbL.getD j 0 ∧ sea j = nI k
def so (sea : Nat → Int32) : Nat → Nat
  | 0 => 0
  | n + 1 => so sea n + sv sea (13 + 2 * n)
def lr (sea : Nat → Int32) (y : Nat) : Nat → Nat
  | 0 => 0
  | n + 1 => lr sea y n + (if sea (78 + 16 * y + n) = 1 then 2 ^ n else 0)
/-- a world of the class, at its block b, and a sea with its ship -/
def WR (I : Nat → Nat → Int32) (b : Nat) (sea now : Nat → Int32) (there : Int32) : Prop :=
  (I b 4 = there) ∧ (I (b + 1) 3 = sea 6 ∧ I (b + 1) 4 = sea 7 ∧ I (b + 1) 5 = sea 0 ∧ I (b + 1) 6 = nI (so sea (sv sea 0))) ∧ (∀ j, j < sv sea 0 → I (b + 3) j = sea (12 + 2 * j) ∧ I (b + 4) j = sea (13 + 2 * j)) ∧ (∀ y, y < 8 → I (b + 2) y = nI (lr sea y 16)) ∧
  (I (b + 5) 0 = now 7 ∧ I (b + 5) 1 = sea 9 ∧ I (b + 5) 2 = sea 11 ∧ I (b + 5) 3 = now 0 ∧ I (b + 5) 4 = 16 * now 2 + now 1 ∧ I (b + 5) 5 = now 3 ∧ I (b + 5) 6 = now 4 ∧ I (b + 5) 7 = now 5 ∧ I (b + 5) 8 = sea 10) ∧
  (I (b + 6) 2 = sea 3) ∧ (∀ j, j < sv sea 3 → I (b + 7) j = sea (20 + 2 * j) ∧ I (b + 8) j = sea (21 + 2 * j)) ∧
  (I (b + 9) 5 = sea 4 ∧ I (b + 9) 6 = sea 5) ∧ (∀ j, j < sv sea 4 → I (b + 10) j = sea (40 + 2 * j) ∧ I (b + 11) j = sea (41 + 2 * j)) ∧ (∀ j, j < sv sea 5 → I (b + 12) j = sea (61 + 3 * j) ∧ I (b + 13) j = sea (62 + 3 * j) ∧ I (b + 14) j = sea (60 + 3 * j))
/-- what a sea and its ship are like -/
def Sok (sea now : Nat → Int32) (there : Int32) : Prop :=
  (there = 0 ∨ there = 1) ∧ SeaB sea ∧ (∃ h, h < 8 ∧ now 7 = nI h) ∧ ((now 0 = 0 ∧ now 5 = 0) ∨ now 0 = 1) ∧
  (now 0 = 1 → there = 1 ∧ ∃ x y v, x < sv sea 6 ∧ y < sv sea 7 ∧ v ≤ sv sea 11 ∧ now 1 = nI x ∧ now 2 = nI y ∧ now 3 = nI v ∧ (now 5 = 0 ∨ now 5 = 1) ∧ now 6 = (if v = sv sea 11 then 1 else 0)) ∧
  (there = 1 → 1 ≤ sv sea 6 ∧ 1 ≤ sv sea 7 ∧ 1 ≤ sv sea 0 ∧ 1 ≤ sv sea 11 ∧ (∀ j, j < sv sea 0 → 1 ≤ sv sea (13 + 2 * j)) ∧ (∀ j, j < sv sea 4 → 1 ≤ sv sea (40 + 2 * j)) ∧ (∀ j, j < sv sea 5 → 1 ≤ sv sea (60 + 3 * j) ∧ sv sea (61 + 3 * j) < 2 ^ sv sea 4 ∧ sv sea (62 + 3 * j) < 2 ^ sv sea 4 ∧ sv sea (61 + 3 * j) &&& sv sea (62 + 3 * j) = 0) ∧ (∀ j, j < sv sea 3 → 1 ≤ sv sea (20 + 2 * j) ∧ 1 ≤ sv sea (21 + 2 * j)) ∧ (∀ x y, x < 16 → y < 8 → sea (78 + 16 * y + x) = 1 → x < sv sea 6 ∧ y < sv sea 7)) ∧
  (there = 0 → ∀ j, j < 206 → sea j = 0)
def RowR (cI mI : Nat → Nat → Int32) (r : Nat) : Prop :=
  cI (45 + 2 * r) 1 = mI 1 r ∧ (mI 1 r = -1 ∨ ∃ l, l < 3 ∧ mI 1 r = nI l ∧ cI (45 + 2 * r) 2 = mI 2 r ∧ (∃ n, n ≤ 40 ∧ mI 2 r = nI n) ∧ ∀ j, j < 40 → cI (46 + 2 * r) j = mI 3 (40 * r + j))
def RowsR (cI mI : Nat → Nat → Int32) : Prop := ∀ r, r < 8 → RowR cI mI r
def TapeR (cI mI : Nat → Nat → Int32) : Prop := ∃ n, n ≤ 600 ∧ cI 2 1 = nI n ∧ mI 0 10 = nI n ∧ ∀ j, j < n → ∃ k, k < 256 ∧ mI 7 j = nI k ∧ cI 3 j = (nI k).toInt8.toInt32
def MiscR (cI mI : Nat → Nat → Int32) : Prop := cI 0 8 = mI 0 11 ∧ cI 0 9 = mI 0 1
def ImgR (cI mI : Nat → Nat → Int32) (k : Nat) : Prop := (mI 13 k = 0 ∧ cI (61 + 15 * k) 4 = 0) ∨ (mI 13 k = 1 ∧ mI 0 7 = 1 ∧ WR cI (61 + 15 * k) (fun j => mI 14 (206 * k + j)) (fun j => mI 15 (8 * k + j)) 1 ∧ Sok (fun j => mI 14 (206 * k + j)) (fun j => mI 15 (8 * k + j)) 1)
def TraceR (cI mI : Nat → Nat → Int32) : Prop := ∃ n, n ≤ 16 ∧ cI 13 1 = nI n ∧ mI 0 30 = nI n ∧ ∀ j, j < n → cI 14 j = mI 16 j
def WS (w s : Nat) : Prop := (w = 15 ∧ s = 30) ∨ (w = 30 ∧ s = 15)
def Rel (mc mm : Mem) : Prop := RMok mm ∧ ∃ w s d, RCok mc w s d ∧ WS w s ∧ RowsR mc.1 mm.1 ∧ TapeR mc.1 mm.1 ∧ MiscR mc.1 mm.1 ∧ WR mc.1 w (mm.1 4) (mm.1 6) (mm.1 0 7) ∧ Sok (mm.1 4) (mm.1 6) (mm.1 0 7) ∧ (∀ k, k < 2 → ImgR mc.1 mm.1 k) ∧ TraceR mc.1 mm.1
theorem WS.w {w s : Nat} (h : WS w s) : WI w := by rcases h with ⟨rfl, -⟩ | ⟨rfl, -⟩ <;> simp [WI]
theorem WS.s {w s : Nat} (h : WS w s) : WI s := by rcases h with ⟨-, rfl⟩ | ⟨-, rfl⟩ <;> simp [WI]
-- a component stands where its cells stand
theorem RowsR.c {cI cI2 mI mI2 : Nat → Nat → Int32} (h : RowsR cI mI) (h1 : ∀ a, 45 ≤ a → a ≤ 60 → cI2 a = cI a) (h2 : mI2 1 = mI 1) (h3 : mI2 2 = mI 2) (h4 : mI2 3 = mI 3) : RowsR cI2 mI2 := by
  intro r hr
  have := h r hr
  unfold RowR at this ⊢
  rw [h1 (45 + 2 * r) (by omega) (by omega), h1 (46 + 2 * r) (by omega) (by omega), h2, h3, h4]
  exact this
theorem TapeR.c {cI cI2 mI mI2 : Nat → Nat → Int32} (h : TapeR cI mI) (h1 : cI2 2 1 = cI 2 1) (h2 : cI2 3 = cI 3) (h3 : mI2 0 10 = mI 0 10) (h4 : mI2 7 = mI 7) : TapeR cI2 mI2 := by
  unfold TapeR at h ⊢
  rw [h1, h2, h3, h4]
  exact h
theorem MiscR.c {cI cI2 mI mI2 : Nat → Nat → Int32} (h : MiscR cI mI) (h1 : cI2 0 8 = cI 0 8) (h2 : cI2 0 9 = cI 0 9) (h3 : mI2 0 11 = mI 0 11) (h4 : mI2 0 1 = mI 0 1) : MiscR cI2 mI2 := by
  unfold MiscR at h ⊢
  rw [h1, h2, h3, h4]
  exact h
theorem WR.c {cI cI2 : Nat → Nat → Int32} {b : Nat} {sea now : Nat → Int32} {there : Int32} (h : WR cI b sea now there) (h1 : ∀ a, b ≤ a → a ≤ b + 14 → cI2 a = cI a) : WR cI2 b sea now there := by
  unfold WR at h ⊢
  rw [h1 b (by omega) (by omega), h1 (b + 1) (by omega) (by omega), h1 (b + 2) (by omega) (by omega), h1 (b + 3) (by omega) (by omega), h1 (b + 4) (by omega) (by omega), h1 (b + 5) (by omega) (by omega), h1 (b + 6) (by omega) (by omega), h1 (b + 7) (by omega) (by omega), h1 (b + 8) (by omega) (by omega), h1 (b + 9) (by omega) (by omega), h1 (b + 10) (by omega) (by omega), h1 (b + 11) (by omega) (by omega), h1 (b + 12) (by omega) (by omega), h1 (b + 13) (by omega) (by omega), h1 (b + 14) (by omega) (by omega)]
  exact h
theorem ImgR.c {cI cI2 mI mI2 : Nat → Nat → Int32} {k : Nat} (h : ImgR cI mI k) (h1 : ∀ a, 61 + 15 * k ≤ a → a ≤ 75 + 15 * k → cI2 a = cI a) (h2 : mI2 13 k = mI 13 k) (h3 : mI2 14 = mI 14) (h4 : mI2 15 = mI 15) (h0 : mI 0 7 = 1 → mI2 0 7 = 1) : ImgR cI2 mI2 k := by
  unfold ImgR at h ⊢
  rw [h2, h3, h4]
  rcases h with ⟨a1, a2⟩ | ⟨a1, a0, a2, a3⟩
  · exact Or.inl ⟨a1, by rw [h1 _ (by omega) (by omega)]; exact a2⟩
  · exact Or.inr ⟨a1, h0 a0, a2.c (fun a h5 h6 => h1 a h5 (by omega)), a3⟩
theorem TraceR.c {cI cI2 mI mI2 : Nat → Nat → Int32} (h : TraceR cI mI) (h1 : cI2 13 1 = cI 13 1) (h2 : cI2 14 = cI 14) (h3 : mI2 0 30 = mI 0 30) (h4 : mI2 16 = mI 16) : TraceR cI2 mI2 := by
  unfold TraceR at h ⊢
  rw [h1, h2, h3, h4]
  exact h
/-- the reference's scratch: rows of it that Rel does not speak of -/
def Mfree (mI mI2 : Nat → Nat → Int32) : Prop := (mI2 1 = mI 1 ∧ mI2 2 = mI 2 ∧ mI2 3 = mI 3 ∧ mI2 4 = mI 4 ∧ mI2 6 = mI 6 ∧ mI2 7 = mI 7 ∧ mI2 13 = mI 13 ∧ mI2 14 = mI 14 ∧ mI2 15 = mI 15 ∧ mI2 16 = mI 16) ∧ mI2 0 1 = mI 0 1 ∧ mI2 0 7 = mI 0 7 ∧ mI2 0 10 = mI 0 10 ∧ mI2 0 11 = mI 0 11 ∧ mI2 0 30 = mI 0 30
theorem Rel.mfree {mc mm mm2 : Mem} (h : Rel mc mm) (h1 : mm2.2.2 = mm.2.2) (h2 : Mfree mm.1 mm2.1) : Rel mc mm2 := by
  obtain ⟨a1, w, s, d, a2, a3, a4, a5, a6, a7, a8, a9, a10⟩ := h
  obtain ⟨⟨e1, e2, e3, e4, e6, e7, e13, e14, e15, e16⟩, f1, f7, f10, f11, f30⟩ := h2
  refine ⟨fun k hk => by rw [h1]; exact a1 k hk, w, s, d, a2, a3, a4.c (fun _ _ _ => rfl) e1 e2 e3, a5.c rfl rfl f10 e7, a6.c rfl rfl f11 f1, ?_, ?_, fun k hk => (a9 k hk).c (fun _ _ _ => rfl) (by rw [e13]) e14 e15 (fun q => by rw [f7]; exact q), a10.c rfl rfl f30 e16⟩
  · rw [e4, e6, f7]; exact a7
  · rw [e4, e6, f7]; exact a8
/-- the reference clears 'thrown' at every call -/
theorem Rel.thrown {mc mm : Mem} (h : Rel mc mm) : Rel mc (uI mm 0 0 0) := h.mfree rfl ⟨⟨rfl, rfl, rfl, rfl, rfl, rfl, rfl, rfl, rfl, rfl⟩, rfl, rfl, rfl, rfl, rfl⟩
theorem start_rc : RCok MC0 15 30 false := by
  unfold RCok
  decide +kernel
theorem start_rm : RMok MM0 := by
  unfold RMok
  decide +kernel
theorem st_rows : ∀ r, r < 8 → MC0.1 (45 + 2 * r) 1 = -1 ∧ MM0.1 1 r = -1 := by decide +kernel
theorem st_sea : ∀ j, j < 206 → MM0.1 4 j = 0 := by decide +kernel
theorem st_now : ∀ j, j < 8 → MM0.1 6 j = 0 := by decide +kernel
theorem st_misc : MC0.1 2 1 = 0 ∧ MM0.1 0 10 = 0 ∧ MC0.1 0 8 = 0 ∧ MM0.1 0 11 = 0 ∧ MC0.1 0 9 = 0 ∧ MM0.1 0 1 = 0 ∧ MM0.1 0 7 = 0 ∧ MC0.1 13 1 = 0 ∧ MM0.1 0 30 = 0 ∧ MM0.1 13 0 = 0 ∧ MM0.1 13 1 = 0 ∧ MC0.1 61 4 = 0 ∧ MC0.1 76 4 = 0 := by decide +kernel
theorem st_w : ∀ a, a < 15 → ∀ k, k < 17 → MC0.1 (15 + a) k = 0 := by decide +kernel
theorem start_rel : Rel MC0 MM0 := by
  obtain ⟨m1, m2, m3, m4, m5, m6, m7, m8, m9, m10, m11, m12, m13⟩ := st_misc
  have sv0 : ∀ j, j < 206 → sv (MM0.1 4) j = 0 := fun j hj => by unfold sv; rw [st_sea j hj]; rfl
  have lr0 : ∀ y, y < 8 → ∀ n, n ≤ 16 → lr (MM0.1 4) y n = 0 := by
    intro y hy n
    induction n with
    | zero => intro _; rfl
    | succ n ih =>
      intro hn
      unfold lr
      rw [ih (by omega), st_sea _ (by omega), if_neg (by decide)]
  refine ⟨start_rm, 15, 30, false, start_rc, Or.inl ⟨rfl, rfl⟩, fun r hr => ⟨by rw [(st_rows r hr).1, (st_rows r hr).2], Or.inl (st_rows r hr).2⟩, ⟨0, by decide, m1, m2, fun j hj => by omega⟩, ⟨by rw [m3, m4], by rw [m5, m6]⟩, ?_, ?_, ?_, ⟨0, by decide, m8, m9, fun j hj => by omega⟩⟩
  · have e : ∀ a k, a < 15 → k < 17 → MC0.1 (15 + a) k = 0 := fun a k h1 h2 => st_w a h1 k h2
    unfold WR
    rw [sv0 0 (by decide), sv0 3 (by decide), sv0 4 (by decide), sv0 5 (by decide), m7, st_sea 6 (by decide), st_sea 7 (by decide), st_sea 0 (by decide), st_sea 9 (by decide), st_sea 10 (by decide), st_sea 11 (by decide), st_sea 3 (by decide), st_sea 4 (by decide), st_sea 5 (by decide), st_now 7 (by decide), st_now 0 (by decide), st_now 1 (by decide), st_now 2 (by decide), st_now 3 (by decide), st_now 4 (by decide), st_now 5 (by decide)]
    refine ⟨e 0 4 (by decide) (by decide), ⟨e 1 3 (by decide) (by decide), e 1 4 (by decide) (by decide), e 1 5 (by decide) (by decide), e 1 6 (by decide) (by decide)⟩, fun j hj => by omega, fun y hy => by rw [lr0 y hy 16 (by decide)]; exact e 2 y (by decide) (by omega), ⟨e 5 0 (by decide) (by decide), e 5 1 (by decide) (by decide), e 5 2 (by decide) (by decide), e 5 3 (by decide) (by decide), e 5 4 (by decide) (by decide), e 5 5 (by decide) (by decide), e 5 6 (by decide) (by decide), e 5 7 (by decide) (by decide), e 5 8 (by decide) (by decide)⟩, e 6 2 (by decide) (by decide), fun j hj => by omega, ⟨e 9 5 (by decide) (by decide), e 9 6 (by decide) (by decide)⟩, fun j hj => by omega, fun j hj => by omega⟩
  · refine ⟨Or.inl m7, fun j hj => ⟨0, Nat.zero_le _, st_sea j hj⟩, ⟨0, by decide, st_now 7 (by decide)⟩, Or.inl ⟨st_now 0 (by decide), st_now 5 (by decide)⟩, fun h => ?_, fun h => ?_, fun _ => st_sea⟩
    · rw [st_now 0 (by decide)] at h; exact absurd h (by decide)
    · rw [m7] at h; exact absurd h (by decide)
  · intro k hk
    rcases (by omega : k = 0 ∨ k = 1) with rfl | rfl
    · exact Or.inl ⟨m10, m12⟩
    · exact Or.inl ⟨m11, m13⟩
